noncomputable def fL_cell_L18 (scr : tm_Xs) (a2 : Int) (h : tm_H) (s0 : Int) : Option (Int) :=
  some (tm_xor s0 (tm_ushr s0 15))
noncomputable def fL_cell (scr : tm_Xs) (a2 : Int) (h : tm_H) : Option (Int) :=
  if a2 < ((scr.2 : Int)) then
  ((tm_sx scr a2).bind fun v1 =>
  fL_cell_L18 scr a2 h v1)
  else
  (fL_cell_L18 scr a2 h (tm_wr (916318735 * (tm_wr (a2 + 3)))))
noncomputable def fL_low (a1 : Int) (a2 : Int) (h : tm_H) : Option (Int) :=
  (tm_rem (tm_and a1 2147483647) a2).bind fun v1 =>
  some v1
noncomputable def fL_print_S0 (a1 : Nat) (st : (Int64 × Int × tm_H)) : Option (((Int64 × Int × tm_H)) ⊕ (Int64 × tm_H)) := match st with
  | (x1, x3, h) =>
    if x3 < 60 then
    ((fX8_base a1 x3 h).bind fun v2 =>
    some (.inl ((((((31 : Int64)) * x1) + (tm_i2l v2)), (tm_wr (x3 + 1)), h))))
    else
    (some (.inr (x1, h)))
noncomputable def fL_print_L138 (a1 : Nat) (x1 : Int64) (x3 : Int) (h : tm_H) : Option (Int64 × tm_H) := tm_wl (fL_print_S0 a1) ((x1, x3, h))
theorem fL_print_L138_eq (a1 : Nat) (x1 : Int64) (x3 : Int) (h : tm_H) : fL_print_L138 a1 x1 x3 h =
    if x3 < 60 then
    ((fX8_base a1 x3 h).bind fun v6 =>
    fL_print_L138 a1 ((((31 : Int64)) * x1) + (tm_i2l v6)) (tm_wr (x3 + 1)) h)
    else
    (some (x1, h)) := by
  unfold fL_print_L138
  rw [tm_wl_eq]
  simp only [fL_print_S0, tm_go_ite, tm_go_bind, tm_go_inl, tm_go_inr, tm_go_out, tm_go_th]
  try rfl
noncomputable def fL_print_S1 (a1 : Nat) (st : (Int64 × Int × tm_H) ⊕ (Int64 × Int × Int × tm_H)) : Option (((Int64 × Int × tm_H) ⊕ (Int64 × Int × Int × tm_H)) ⊕ (Int64 × tm_H)) := match st with
  | .inl ((x1, x3, h)) =>
    if x3 < 12 then
    (some (.inl (.inr ((x1, x3, 0, h)))))
    else
    (tm_out (fL_print_L138 a1 x1 0 h))
  | .inr ((x1, x3, x4, h)) =>
    if x4 < 6 then
    ((fX8_term a1 x3 x4 h).bind fun q3 =>
    some (.inl (.inr ((((((31 : Int64)) * x1) + (tm_i2l q3.1)), x3, (tm_wr (x4 + 1)), q3.2)))))
    else
    (some (.inl (.inl ((x1, (tm_wr (x3 + 1)), h)))))
noncomputable def fL_print_L93 (a1 : Nat) (x1 : Int64) (x3 : Int) (h : tm_H) : Option (Int64 × tm_H) := tm_wl (fL_print_S1 a1) (.inl ((x1, x3, h)))
noncomputable def fL_print_L102 (a1 : Nat) (x1 : Int64) (x3 : Int) (x4 : Int) (h : tm_H) : Option (Int64 × tm_H) := tm_wl (fL_print_S1 a1) (.inr ((x1, x3, x4, h)))
theorem fL_print_L93_eq (a1 : Nat) (x1 : Int64) (x3 : Int) (h : tm_H) : fL_print_L93 a1 x1 x3 h =
    if x3 < 12 then
    (fL_print_L102 a1 x1 x3 0 h)
    else
    (fL_print_L138 a1 x1 0 h) := by
  unfold fL_print_L93
  rw [tm_wl_eq]
  simp only [fL_print_S1, tm_go_ite, tm_go_bind, tm_go_inl, tm_go_inr, tm_go_out, tm_go_th]
  try rfl
theorem fL_print_L102_eq (a1 : Nat) (x1 : Int64) (x3 : Int) (x4 : Int) (h : tm_H) : fL_print_L102 a1 x1 x3 x4 h =
    if x4 < 6 then
    ((fX8_term a1 x3 x4 h).bind fun q7 =>
    fL_print_L102 a1 ((((31 : Int64)) * x1) + (tm_i2l q7.1)) x3 (tm_wr (x4 + 1)) q7.2)
    else
    (fL_print_L93 a1 x1 (tm_wr (x3 + 1)) h) := by
  unfold fL_print_L102
  rw [tm_wl_eq]
  simp only [fL_print_S1, tm_go_ite, tm_go_bind, tm_go_inl, tm_go_inr, tm_go_out, tm_go_th]
  try rfl
noncomputable def fL_print_S2 (a1 : Nat) (st : (Int64 × Int × tm_H) ⊕ (Int64 × Int × Int × tm_H)) : Option (((Int64 × Int × tm_H) ⊕ (Int64 × Int × Int × tm_H)) ⊕ (Int64 × tm_H)) := match st with
  | .inl ((x1, x3, h)) =>
    if x3 < 6 then
    (some (.inl (.inr ((x1, x3, 0, h)))))
    else
    (tm_out (fL_print_L93 a1 x1 0 h))
  | .inr ((x1, x3, x4, h)) =>
    if x4 < 40 then
    ((fX8_place a1 x3 x4 0 h).bind fun q4 =>
    (fX8_place a1 x3 x4 2 q4.2).bind fun q5 =>
    some (.inl (.inr ((((((31 : Int64)) * ((((31 : Int64)) * x1) + (tm_i2l q4.1))) + (tm_i2l q5.1)), x3, (tm_wr (x4 + 1)), q5.2)))))
    else
    (some (.inl (.inl ((x1, (tm_wr (x3 + 1)), h)))))
noncomputable def fL_print_L33 (a1 : Nat) (x1 : Int64) (x3 : Int) (h : tm_H) : Option (Int64 × tm_H) := tm_wl (fL_print_S2 a1) (.inl ((x1, x3, h)))
noncomputable def fL_print_L42 (a1 : Nat) (x1 : Int64) (x3 : Int) (x4 : Int) (h : tm_H) : Option (Int64 × tm_H) := tm_wl (fL_print_S2 a1) (.inr ((x1, x3, x4, h)))
theorem fL_print_L33_eq (a1 : Nat) (x1 : Int64) (x3 : Int) (h : tm_H) : fL_print_L33 a1 x1 x3 h =
    if x3 < 6 then
    (fL_print_L42 a1 x1 x3 0 h)
    else
    (fL_print_L93 a1 x1 0 h) := by
  unfold fL_print_L33
  rw [tm_wl_eq]
  simp only [fL_print_S2, tm_go_ite, tm_go_bind, tm_go_inl, tm_go_inr, tm_go_out, tm_go_th]
  try rfl
theorem fL_print_L42_eq (a1 : Nat) (x1 : Int64) (x3 : Int) (x4 : Int) (h : tm_H) : fL_print_L42 a1 x1 x3 x4 h =
    if x4 < 40 then
    ((fX8_place a1 x3 x4 0 h).bind fun q8 =>
    (fX8_place a1 x3 x4 2 q8.2).bind fun q9 =>
    fL_print_L42 a1 ((((31 : Int64)) * ((((31 : Int64)) * x1) + (tm_i2l q8.1))) + (tm_i2l q9.1)) x3 (tm_wr (x4 + 1)) q9.2)
    else
    (fL_print_L33 a1 x1 (tm_wr (x3 + 1)) h) := by
  unfold fL_print_L42
  rw [tm_wl_eq]
  simp only [fL_print_S2, tm_go_ite, tm_go_bind, tm_go_inl, tm_go_inr, tm_go_out, tm_go_th]
  try rfl
noncomputable def fL_print_S3 (a1 : Nat) (st : (Int64 × Int × tm_H)) : Option (((Int64 × Int × tm_H)) ⊕ (Int64 × tm_H)) := match st with
  | (x1, x3, h) =>
    if x3 < 8 then
    ((fX8_count a1 x3 h).bind fun q1 =>
    some (.inl ((((((31 : Int64)) * x1) + (tm_i2l q1.1)), (tm_wr (x3 + 1)), q1.2))))
    else
    (tm_out (fL_print_L33 a1 x1 0 h))
noncomputable def fL_print_L6 (a1 : Nat) (x1 : Int64) (x3 : Int) (h : tm_H) : Option (Int64 × tm_H) := tm_wl (fL_print_S3 a1) ((x1, x3, h))
theorem fL_print_L6_eq (a1 : Nat) (x1 : Int64) (x3 : Int) (h : tm_H) : fL_print_L6 a1 x1 x3 h =
    if x3 < 8 then
    ((fX8_count a1 x3 h).bind fun q10 =>
    fL_print_L6 a1 ((((31 : Int64)) * x1) + (tm_i2l q10.1)) (tm_wr (x3 + 1)) q10.2)
    else
    (fL_print_L33 a1 x1 0 h) := by
  unfold fL_print_L6
  rw [tm_wl_eq]
  simp only [fL_print_S3, tm_go_ite, tm_go_bind, tm_go_inl, tm_go_inr, tm_go_out, tm_go_th]
  try rfl
noncomputable def fL_print (a1 : Nat) (h : tm_H) : Option (Int64 × tm_H) :=
  fL_print_L6 a1 ((233 : Int64)) 0 h
noncomputable def fL_refused_L341 (a1 : Nat) (x1 : Int64) (s0 : Int) (h : tm_H) : Option (Int × tm_H) :=
  if s0 = 0 then
  (some (0, h))
  else
  ((fL_print a1 h).bind fun q33 =>
  if (tm_lcmp q33.1 x1) = 0 then
  (some (1, q33.2))
  else
  (some (0, q33.2)))
noncomputable def fL_refused_L340 (a1 : Nat) (x1 : Int64) (h : tm_H) : Option (Int × tm_H) :=
  fL_refused_L341 a1 x1 0 h
noncomputable def fL_refused_L203 (a1 : Nat) (x1 : Int64) (x3 : Int) (x4 : Int) (s0 : Int) (h : tm_H) : Option (Int × tm_H) :=
  if s0 = 0 then
  (fL_refused_L340 a1 x1 h)
  else
  ((fX8_count a1 10 h).bind fun q21 =>
  if q21.1 = ((-1)) then
  ((fX8_letter a1 x3 0 q21.2).bind fun v22 =>
  if v22 = ((-1)) then
  ((fX8_base a1 ((-1)) q21.2).bind fun v23 =>
  if v23 = ((-1)) then
  ((fX8_place a1 6 0 0 q21.2).bind fun q24 =>
  if q24.1 = ((-1)) then
  ((fX8_place a1 0 40 0 q24.2).bind fun q25 =>
  if q25.1 = ((-99)) then
  ((fX8_term a1 x4 0 q25.2).bind fun q26 =>
  if q26.1 = ((-1)) then
  ((fX8_firstUse a1 0 6 q26.2).bind fun q27 =>
  if q27.1 = ((-1)) then
  ((fX8_count a1 4 q27.2).bind fun q28 =>
  (fX8_mark a1 q28.1 0 q28.2).bind fun q29 =>
  if q29.1 = ((-99)) then
  ((fX8_why a1 0 40 0 q29.2).bind fun q30 =>
  if q30.1 = ((-1)) then
  ((fX8_nested a1 x4 0 q30.2).bind fun v31 =>
  if v31 = ((-1)) then
  ((fX8_gain a1 x3 ((-1)) ((-1)) ((-1)) q30.2).bind fun q32 =>
  if q32.1 = ((-1)) then
  (fL_refused_L341 a1 x1 1 q32.2)
  else
  (fL_refused_L340 a1 x1 q32.2))
  else
  (fL_refused_L340 a1 x1 q30.2))
  else
  (fL_refused_L340 a1 x1 q30.2))
  else
  (fL_refused_L340 a1 x1 q29.2))
  else
  (fL_refused_L340 a1 x1 q27.2))
  else
  (fL_refused_L340 a1 x1 q26.2))
  else
  (fL_refused_L340 a1 x1 q25.2))
  else
  (fL_refused_L340 a1 x1 q24.2))
  else
  (fL_refused_L340 a1 x1 q21.2))
  else
  (fL_refused_L340 a1 x1 q21.2))
  else
  (fL_refused_L340 a1 x1 q21.2))
noncomputable def fL_refused_L202 (a1 : Nat) (x1 : Int64) (x3 : Int) (x4 : Int) (h : tm_H) : Option (Int × tm_H) :=
  fL_refused_L203 a1 x1 x3 x4 0 h
noncomputable def fL_refused (a1 : Nat) (h : tm_H) : Option (Int × tm_H) :=
  (fL_print a1 h).bind fun q1 =>
  (fX8_count a1 0 q1.2).bind fun q2 =>
  (fX8_count a1 2 q2.2).bind fun q3 =>
  (fX8_insert a1 ((-1)) 0 0 q3.2).bind fun q4 =>
  if q4.1 = ((-1)) then
  ((fX8_insert a1 0 41 0 q4.2).bind fun q5 =>
  if q5.1 = ((-1)) then
  ((fX8_insert a1 0 0 q2.1 q5.2).bind fun q6 =>
  if q6.1 = ((-1)) then
  ((fX8_delete a1 0 1 0 q6.2).bind fun q7 =>
  if q7.1 = ((-1)) then
  ((fX8_delete a1 6 0 0 q7.2).bind fun q8 =>
  if q8.1 = ((-1)) then
  ((fX8_replace a1 2 2 q8.2).bind fun q9 =>
  if q9.1 = ((-1)) then
  ((fX8_replace a1 0 q2.1 q9.2).bind fun q10 =>
  if q10.1 = ((-1)) then
  ((fX8_swap a1 ((-1)) 0 q10.2).bind fun q11 =>
  if q11.1 = ((-1)) then
  ((fX8_addTerm a1 ((-1)) 0 ((-1)) ((-1)) q11.2).bind fun q12 =>
  if q12.1 = ((-1)) then
  ((fX8_addTerm a1 0 1 2 q2.1 q12.2).bind fun q13 =>
  if q13.1 = ((-1)) then
  ((fX8_addTerm a1 0 ((-1)) ((-1)) 0 q13.2).bind fun q14 =>
  if q14.1 = ((-1)) then
  ((fX8_removeTerm a1 q3.1 q14.2).bind fun q15 =>
  if q15.1 = ((-1)) then
  ((fX8_setQuiet a1 0 2 q15.2).bind fun q16 =>
  if q16.1 = ((-1)) then
  ((fX8_setBase a1 q2.1 0 q16.2).bind fun q17 =>
  if q17.1 = ((-1)) then
  ((fX8_take a1 ((-1)) q17.2).bind fun q18 =>
  if q18.1 = ((-1)) then
  ((fX8_restore a1 2 q18.2).bind fun q19 =>
  if q19.1 = ((-1)) then
  ((fX8_append a1 0 q19.2).bind fun q20 =>
  if q20.1 = ((-1)) then
  (fL_refused_L203 a1 q1.1 q2.1 q3.1 1 q20.2)
  else
  (fL_refused_L202 a1 q1.1 q2.1 q3.1 q20.2))
  else
  (fL_refused_L202 a1 q1.1 q2.1 q3.1 q19.2))
  else
  (fL_refused_L202 a1 q1.1 q2.1 q3.1 q18.2))
  else
  (fL_refused_L202 a1 q1.1 q2.1 q3.1 q17.2))
  else
  (fL_refused_L202 a1 q1.1 q2.1 q3.1 q16.2))
  else
  (fL_refused_L202 a1 q1.1 q2.1 q3.1 q15.2))
  else
  (fL_refused_L202 a1 q1.1 q2.1 q3.1 q14.2))
  else
  (fL_refused_L202 a1 q1.1 q2.1 q3.1 q13.2))
  else
  (fL_refused_L202 a1 q1.1 q2.1 q3.1 q12.2))
  else
  (fL_refused_L202 a1 q1.1 q2.1 q3.1 q11.2))
  else
  (fL_refused_L202 a1 q1.1 q2.1 q3.1 q10.2))
  else
  (fL_refused_L202 a1 q1.1 q2.1 q3.1 q9.2))
  else
  (fL_refused_L202 a1 q1.1 q2.1 q3.1 q8.2))
  else
  (fL_refused_L202 a1 q1.1 q2.1 q3.1 q7.2))
  else
  (fL_refused_L202 a1 q1.1 q2.1 q3.1 q6.2))
  else
  (fL_refused_L202 a1 q1.1 q2.1 q3.1 q5.2))
  else
  (fL_refused_L202 a1 q1.1 q2.1 q3.1 q4.2)
noncomputable def fL_size_S0 (a1 : Nat) (a2 : Int) (st : (Int × tm_H)) : Option (((Int × tm_H)) ⊕ (Int × tm_H)) := match st with
  | (x2, h) =>
    if x2 < 41 then
    ((fX8_place a1 a2 x2 0 h).bind fun q1 =>
    if q1.1 < 0 then
    (some (.inr (x2, q1.2)))
    else
    (some (.inl (((tm_wr (x2 + 1)), q1.2)))))
    else
    (some (.inr (x2, h)))
noncomputable def fL_size_L2 (a1 : Nat) (a2 : Int) (x2 : Int) (h : tm_H) : Option (Int × tm_H) := tm_wl (fL_size_S0 a1 a2) ((x2, h))
theorem fL_size_L2_eq (a1 : Nat) (a2 : Int) (x2 : Int) (h : tm_H) : fL_size_L2 a1 a2 x2 h =
    if x2 < 41 then
    ((fX8_place a1 a2 x2 0 h).bind fun q2 =>
    if q2.1 < 0 then
    (some (x2, q2.2))
    else
    (fL_size_L2 a1 a2 (tm_wr (x2 + 1)) q2.2))
    else
    (some (x2, h)) := by
  unfold fL_size_L2
  rw [tm_wl_eq]
  simp only [fL_size_S0, tm_go_ite, tm_go_bind, tm_go_inl, tm_go_inr, tm_go_out, tm_go_th]
  try rfl
noncomputable def fL_size (a1 : Nat) (a2 : Int) (h : tm_H) : Option (Int × tm_H) :=
  fL_size_L2 a1 a2 0 h
noncomputable def fL_marksIn_S0 (a1 : Nat) (a2 : Int) (a3 : Int) (st : (Int × Int × Int × Int × tm_H) ⊕ (Int × Int × Int × Int × Int × Int × tm_H) ⊕ (Int × Int × Int × Int × Int × Int × tm_H) ⊕ (Int × Int × Int × Int × Int × Int × Int × tm_H) ⊕ (Int × Int × Int × Int × Int × Int × Int × tm_H) ⊕ (Int × Int × Int × Int × Int × Int × Int × Int × tm_H) ⊕ (Int × Int × Int × Int × Int × Int × Int × Int × tm_H) ⊕ (Int × Int × Int × Int × Int × Int × Int × Int × Int × tm_H) ⊕ (Int × Int × Int × Int × Int × Int × Int × Int × tm_H) ⊕ (Int × Int × Int × Int × Int × Int × Int × Int × Int × tm_H) ⊕ (Int × Int × Int × Int × Int × Int × Int × Int × Int × Int × tm_H) ⊕ (Int × Int × Int × Int × Int × Int × Int × Int × tm_H) ⊕ (Int × Int × Int × Int × Int × Int × Int × Int × tm_H) ⊕ (Int × Int × Int × Int × Int × Int × Int × Int × Int × tm_H) ⊕ (Int × Int × Int × Int × Int × Int × Int × Int × Int × Int × tm_H) ⊕ (Int × Int × Int × Int × Int × Int × Int × Int × Int × tm_H) ⊕ (Int × Int × Int × Int × Int × Int × Int × Int × Int × tm_H) ⊕ (Int × Int × Int × Int × Int × Int × Int × Int × Int × tm_H) ⊕ (Int × Int × Int × Int × Int × Int × Int × Int × Int × Int × tm_H) ⊕ (Int × Int × Int × Int × Int × Int × Int × Int × Int × tm_H) ⊕ (Int × Int × Int × Int × Int × Int × Int × tm_H) ⊕ (Int × Int × Int × Int × Int × Int × tm_H)) : Option (((Int × Int × Int × Int × tm_H) ⊕ (Int × Int × Int × Int × Int × Int × tm_H) ⊕ (Int × Int × Int × Int × Int × Int × tm_H) ⊕ (Int × Int × Int × Int × Int × Int × Int × tm_H) ⊕ (Int × Int × Int × Int × Int × Int × Int × tm_H) ⊕ (Int × Int × Int × Int × Int × Int × Int × Int × tm_H) ⊕ (Int × Int × Int × Int × Int × Int × Int × Int × tm_H) ⊕ (Int × Int × Int × Int × Int × Int × Int × Int × Int × tm_H) ⊕ (Int × Int × Int × Int × Int × Int × Int × Int × tm_H) ⊕ (Int × Int × Int × Int × Int × Int × Int × Int × Int × tm_H) ⊕ (Int × Int × Int × Int × Int × Int × Int × Int × Int × Int × tm_H) ⊕ (Int × Int × Int × Int × Int × Int × Int × Int × tm_H) ⊕ (Int × Int × Int × Int × Int × Int × Int × Int × tm_H) ⊕ (Int × Int × Int × Int × Int × Int × Int × Int × Int × tm_H) ⊕ (Int × Int × Int × Int × Int × Int × Int × Int × Int × Int × tm_H) ⊕ (Int × Int × Int × Int × Int × Int × Int × Int × Int × tm_H) ⊕ (Int × Int × Int × Int × Int × Int × Int × Int × Int × tm_H) ⊕ (Int × Int × Int × Int × Int × Int × Int × Int × Int × tm_H) ⊕ (Int × Int × Int × Int × Int × Int × Int × Int × Int × Int × tm_H) ⊕ (Int × Int × Int × Int × Int × Int × Int × Int × Int × tm_H) ⊕ (Int × Int × Int × Int × Int × Int × Int × tm_H) ⊕ (Int × Int × Int × Int × Int × Int × tm_H)) ⊕ (Int × tm_H)) := match st with
  | .inl ((x3, x4, x5, x6, h)) =>
    if x4 < x3 then
    ((fX8_place a1 a2 x4 1 h).bind fun q2 =>
    if q2.1 = ((-99)) then
    (some (.inl (.inr (.inl ((x3, x4, x5, x6, q2.1, 1, q2.2))))))
    else
    ((fX8_term a1 q2.1 0 q2.2).bind fun q3 =>
    some (.inl (.inr (.inl ((x3, x4, x5, x6, q2.1, q3.1, q3.2)))))))
    else
    (some (.inr (tm_wr (x5 - a3), h)))
  | .inr (.inl ((x3, x4, x5, x6, x7, s0, h))) =>
    if x7 = ((-99)) then
    (some (.inl (.inr (.inr (.inl ((x3, x4, x5, x6, x7, s0, h)))))))
    else
    (if (tm_and (tm_shr x6 x7) 1) = 0 then
    (some (.inl (.inr (.inr (.inr (.inl ((x3, x4, x5, x6, x7, s0, 1, h))))))))
    else
    (some (.inl (.inr (.inr (.inl ((x3, x4, x5, x6, x7, s0, h))))))))
  | .inr (.inr (.inl ((x3, x4, x5, x6, x7, x8, h)))) =>
    some (.inl (.inr (.inr (.inr (.inl ((x3, x4, x5, x6, x7, x8, 0, h)))))))
  | .inr (.inr (.inr (.inl ((x3, x4, x5, x6, x7, x8, s0, h))))) =>
    if s0 = 0 then
    (some (.inl (.inr (.inr (.inr (.inr (.inl ((x3, x4, x5, x6, x7, x8, s0, h)))))))))
    else
    ((fX8_term a1 x7 5 h).bind fun q4 =>
    if q4.1 = 0 then
    (some (.inl (.inr (.inr (.inr (.inr (.inr (.inl ((x3, x4, x5, x6, x7, x8, s0, 1, q4.2))))))))))
    else
    (some (.inl (.inr (.inr (.inr (.inr (.inl ((x3, x4, x5, x6, x7, x8, s0, q4.2))))))))))
  | .inr (.inr (.inr (.inr (.inl ((x3, x4, x5, x6, x7, x8, x9, h)))))) =>
    some (.inl (.inr (.inr (.inr (.inr (.inr (.inl ((x3, x4, x5, x6, x7, x8, x9, 0, h)))))))))
  | .inr (.inr (.inr (.inr (.inr (.inl ((x3, x4, x5, x6, x7, x8, x9, s0, h))))))) =>
    if x7 = ((-99)) then
    ((fX8_place a1 a2 x4 2 h).bind fun q5 =>
    if q5.1 = ((-99)) then
    ((fX8_place a1 a2 x4 3 q5.2).bind fun q6 =>
    if q6.1 = 0 then
    (some (.inl (.inr (.inr (.inr (.inr (.inr (.inr (.inr (.inr (.inr (.inl ((x3, x4, x5, x6, x7, x8, x9, s0, 1, q6.2))))))))))))))
    else
    (some (.inl (.inr (.inr (.inr (.inr (.inr (.inr (.inl ((x3, x4, x5, x6, x7, x8, x9, s0, q6.2))))))))))))
    else
    (some (.inl (.inr (.inr (.inr (.inr (.inr (.inr (.inl ((x3, x4, x5, x6, x7, x8, x9, s0, q5.2))))))))))))
    else
    (if x7 < 0 then
    (some (.inl (.inr (.inr (.inr (.inr (.inr (.inr (.inr (.inr (.inl ((x3, x4, x5, x6, x7, x8, x9, s0, h)))))))))))))
    else
    (if x3 < (tm_wr (x4 + x8)) then
    (some (.inl (.inr (.inr (.inr (.inr (.inr (.inr (.inr (.inr (.inl ((x3, x4, x5, x6, x7, x8, x9, s0, h)))))))))))))
    else
    ((fX8_firstUse a1 x7 a2 h).bind fun q7 =>
    if x4 < q7.1 then
    (some (.inl (.inr (.inr (.inr (.inr (.inr (.inr (.inr (.inr (.inl ((x3, x4, x5, x6, x7, x8, x9, s0, q7.2)))))))))))))
    else
    ((fX8_firstUse a1 x7 a2 q7.2).bind fun q8 =>
    if q8.1 = x4 then
    (some (.inl (.inr (.inr (.inr (.inr (.inr (.inr (.inr (.inl ((x3, x4, x5, x6, x7, x8, x9, s0, 1, q8.2))))))))))))
    else
    (some (.inl (.inr (.inr (.inr (.inr (.inr (.inr (.inr (.inl ((x3, x4, x5, x6, x7, x8, x9, s0, 0, q8.2))))))))))))))))
  | .inr (.inr (.inr (.inr (.inr (.inr (.inl ((x3, x4, x5, x6, x7, x8, x9, x10, h)))))))) =>
    some (.inl (.inr (.inr (.inr (.inr (.inr (.inr (.inr (.inr (.inr (.inl ((x3, x4, x5, x6, x7, x8, x9, x10, 0, h)))))))))))))
  | .inr (.inr (.inr (.inr (.inr (.inr (.inr (.inl ((x3, x4, x5, x6, x7, x8, x9, x10, s0, h))))))))) =>
    if s0 = x9 then
    (some (.inl (.inr (.inr (.inr (.inr (.inr (.inr (.inr (.inr (.inr (.inl ((x3, x4, x5, x6, x7, x8, x9, x10, 1, h))))))))))))))
    else
    (some (.inl (.inr (.inr (.inr (.inr (.inr (.inr (.inr (.inr (.inl ((x3, x4, x5, x6, x7, x8, x9, x10, h)))))))))))))
  | .inr (.inr (.inr (.inr (.inr (.inr (.inr (.inr (.inl ((x3, x4, x5, x6, x7, x8, x9, x10, h)))))))))) =>
    some (.inl (.inr (.inr (.inr (.inr (.inr (.inr (.inr (.inr (.inr (.inl ((x3, x4, x5, x6, x7, x8, x9, x10, 0, h)))))))))))))
  | .inr (.inr (.inr (.inr (.inr (.inr (.inr (.inr (.inr (.inl ((x3, x4, x5, x6, x7, x8, x9, x10, s0, h))))))))))) =>
    if s0 = 0 then
    (some (.inl (.inr (.inr (.inr (.inr (.inr (.inr (.inr (.inr (.inr (.inr (.inr (.inr (.inl ((x3, x4, x5, x6, x7, x8, x9, x10, h)))))))))))))))))
    else
    ((fX8_place a1 a2 x4 3 h).bind fun q9 =>
    if x10 = 0 then
    (some (.inl (.inr (.inr (.inr (.inr (.inr (.inr (.inr (.inr (.inr (.inr (.inl ((x3, x4, x5, x6, x7, x8, x9, x10, q9.1, 0, q9.2)))))))))))))))
    else
    (some (.inl (.inr (.inr (.inr (.inr (.inr (.inr (.inr (.inr (.inr (.inr (.inl ((x3, x4, x5, x6, x7, x8, x9, x10, q9.1, 1, q9.2))))))))))))))))
  | .inr (.inr (.inr (.inr (.inr (.inr (.inr (.inr (.inr (.inr (.inl ((x3, x4, x5, x6, x7, x8, x9, x10, s0, s1, h)))))))))))) =>
    if s0 = s1 then
    (if x10 = 0 then
    (some (.inl (.inr (.inr (.inr (.inr (.inr (.inr (.inr (.inr (.inr (.inr (.inr (.inl ((x3, x4, x5, x6, x7, x8, x9, x10, h))))))))))))))))
    else
    ((fX8_mark a1 x5 0 h).bind fun q10 =>
    if q10.1 = a2 then
    ((fX8_mark a1 x5 1 q10.2).bind fun q11 =>
    if q11.1 = x4 then
    ((fX8_mark a1 x5 2 q11.2).bind fun q12 =>
    if q12.1 = x7 then
    ((fX8_why a1 a2 x4 x7 q12.2).bind fun q13 =>
    if q13.1 = 0 then
    (some (.inl (.inr (.inr (.inr (.inr (.inr (.inr (.inr (.inr (.inr (.inr (.inr (.inl ((x3, x4, x5, x6, x7, x8, x9, x10, q13.2))))))))))))))))
    else
    (some (.inl (.inr (.inr (.inr (.inr (.inr (.inr (.inr (.inr (.inr (.inr (.inr (.inr (.inl ((x3, x4, x5, x6, x7, x8, x9, x10, q13.2))))))))))))))))))
    else
    (some (.inl (.inr (.inr (.inr (.inr (.inr (.inr (.inr (.inr (.inr (.inr (.inr (.inr (.inl ((x3, x4, x5, x6, x7, x8, x9, x10, q12.2))))))))))))))))))
    else
    (some (.inl (.inr (.inr (.inr (.inr (.inr (.inr (.inr (.inr (.inr (.inr (.inr (.inr (.inl ((x3, x4, x5, x6, x7, x8, x9, x10, q11.2))))))))))))))))))
    else
    (some (.inl (.inr (.inr (.inr (.inr (.inr (.inr (.inr (.inr (.inr (.inr (.inr (.inr (.inl ((x3, x4, x5, x6, x7, x8, x9, x10, q10.2)))))))))))))))))))
    else
    (some (.inl (.inr (.inr (.inr (.inr (.inr (.inr (.inr (.inr (.inr (.inr (.inr (.inr (.inl ((x3, x4, x5, x6, x7, x8, x9, x10, h)))))))))))))))))
  | .inr (.inr (.inr (.inr (.inr (.inr (.inr (.inr (.inr (.inr (.inr (.inl ((x3, x4, x5, x6, x7, x8, x9, x10, h))))))))))))) =>
    some (.inl (.inr (.inr (.inr (.inr (.inr (.inr (.inr (.inr (.inr (.inr (.inr (.inr (.inr (.inl ((x3, x4, x5, x6, x7, x8, x9, x10, 1, h)))))))))))))))))
  | .inr (.inr (.inr (.inr (.inr (.inr (.inr (.inr (.inr (.inr (.inr (.inr (.inl ((x3, x4, x5, x6, x7, x8, x9, x10, h)))))))))))))) =>
    some (.inl (.inr (.inr (.inr (.inr (.inr (.inr (.inr (.inr (.inr (.inr (.inr (.inr (.inr (.inl ((x3, x4, x5, x6, x7, x8, x9, x10, 0, h)))))))))))))))))
  | .inr (.inr (.inr (.inr (.inr (.inr (.inr (.inr (.inr (.inr (.inr (.inr (.inr (.inl ((x3, x4, x5, x6, x7, x8, x9, x10, s0, h))))))))))))))) =>
    some (.inl (.inr (.inr (.inr (.inr (.inr (.inr (.inr (.inr (.inr (.inr (.inr (.inr (.inr (.inr (.inl ((x3, x4, x5, x6, x7, x8, x9, x10, s0, 0, h))))))))))))))))))
  | .inr (.inr (.inr (.inr (.inr (.inr (.inr (.inr (.inr (.inr (.inr (.inr (.inr (.inr (.inl ((x3, x4, x5, x6, x7, x8, x9, x10, x11, x12, h)))))))))))))))) =>
    if x12 < x8 then
    (if x7 = ((-99)) then
    (some (.inl (.inr (.inr (.inr (.inr (.inr (.inr (.inr (.inr (.inr (.inr (.inr (.inr (.inr (.inr (.inr (.inr (.inr (.inr (.inr (.inl ((x3, x4, x5, x6, x7, x8, x9, x10, x11, h))))))))))))))))))))))))
    else
    (if x11 = 0 then
    (some (.inl (.inr (.inr (.inr (.inr (.inr (.inr (.inr (.inr (.inr (.inr (.inr (.inr (.inr (.inr (.inr (.inr (.inr (.inr (.inr (.inl ((x3, x4, x5, x6, x7, x8, x9, x10, x11, h))))))))))))))))))))))))
    else
    ((fX8_place a1 a2 (tm_wr (x4 + x12)) 1 h).bind fun q14 =>
    if q14.1 = x7 then
    ((fX8_place a1 a2 (tm_wr (x4 + x12)) 2 q14.2).bind fun q15 =>
    if q15.1 = x12 then
    (if x12 = 0 then
    (some (.inl (.inr (.inr (.inr (.inr (.inr (.inr (.inr (.inr (.inr (.inr (.inr (.inr (.inr (.inr (.inr (.inl ((x3, x4, x5, x6, x7, x8, x9, x10, x12, q15.2))))))))))))))))))))
    else
    ((fX8_place a1 a2 (tm_wr (x4 + x12)) 3 q15.2).bind fun q16 =>
    if q16.1 = 0 then
    (some (.inl (.inr (.inr (.inr (.inr (.inr (.inr (.inr (.inr (.inr (.inr (.inr (.inr (.inr (.inr (.inr (.inl ((x3, x4, x5, x6, x7, x8, x9, x10, x12, q16.2))))))))))))))))))))
    else
    (some (.inl (.inr (.inr (.inr (.inr (.inr (.inr (.inr (.inr (.inr (.inr (.inr (.inr (.inr (.inr (.inr (.inr (.inr (.inl ((x3, x4, x5, x6, x7, x8, x9, x10, x12, q16.2))))))))))))))))))))))))
    else
    (some (.inl (.inr (.inr (.inr (.inr (.inr (.inr (.inr (.inr (.inr (.inr (.inr (.inr (.inr (.inr (.inr (.inr (.inr (.inl ((x3, x4, x5, x6, x7, x8, x9, x10, x12, q15.2)))))))))))))))))))))))
    else
    (some (.inl (.inr (.inr (.inr (.inr (.inr (.inr (.inr (.inr (.inr (.inr (.inr (.inr (.inr (.inr (.inr (.inr (.inr (.inl ((x3, x4, x5, x6, x7, x8, x9, x10, x12, q14.2)))))))))))))))))))))))))
    else
    (some (.inl (.inr (.inr (.inr (.inr (.inr (.inr (.inr (.inr (.inr (.inr (.inr (.inr (.inr (.inr (.inr (.inr (.inr (.inr (.inr (.inl ((x3, x4, x5, x6, x7, x8, x9, x10, x11, h))))))))))))))))))))))))
  | .inr (.inr (.inr (.inr (.inr (.inr (.inr (.inr (.inr (.inr (.inr (.inr (.inr (.inr (.inr (.inl ((x3, x4, x5, x6, x7, x8, x9, x10, x12, h))))))))))))))))) =>
    (fX8_place a1 a2 (tm_wr (x4 + x12)) 0 h).bind fun q17 =>
    (fX8_base a1 q17.1 q17.2).bind fun v18 =>
    (fX8_term a1 x7 (tm_wr (1 + x12)) q17.2).bind fun q19 =>
    (fX8_base a1 q19.1 q19.2).bind fun v20 =>
    if v18 = v20 then
    (if x12 = 0 then
    (some (.inl (.inr (.inr (.inr (.inr (.inr (.inr (.inr (.inr (.inr (.inr (.inr (.inr (.inr (.inr (.inr (.inr (.inl ((x3, x4, x5, x6, x7, x8, x9, x10, x12, q19.2)))))))))))))))))))))
    else
    ((fX8_why a1 a2 (tm_wr (x4 + x12)) x7 q19.2).bind fun q21 =>
    if q21.1 = 1 then
    (some (.inl (.inr (.inr (.inr (.inr (.inr (.inr (.inr (.inr (.inr (.inr (.inr (.inr (.inr (.inr (.inr (.inr (.inl ((x3, x4, x5, x6, x7, x8, x9, x10, x12, q21.2)))))))))))))))))))))
    else
    ((fX8_why a1 a2 (tm_wr (x4 + x12)) x7 q21.2).bind fun q22 =>
    if q22.1 = 3 then
    (some (.inl (.inr (.inr (.inr (.inr (.inr (.inr (.inr (.inr (.inr (.inr (.inr (.inr (.inr (.inr (.inr (.inr (.inl ((x3, x4, x5, x6, x7, x8, x9, x10, x12, q22.2)))))))))))))))))))))
    else
    (some (.inl (.inr (.inr (.inr (.inr (.inr (.inr (.inr (.inr (.inr (.inr (.inr (.inr (.inr (.inr (.inr (.inr (.inr (.inl ((x3, x4, x5, x6, x7, x8, x9, x10, x12, q22.2)))))))))))))))))))))))))
    else
    (some (.inl (.inr (.inr (.inr (.inr (.inr (.inr (.inr (.inr (.inr (.inr (.inr (.inr (.inr (.inr (.inr (.inr (.inr (.inl ((x3, x4, x5, x6, x7, x8, x9, x10, x12, q19.2))))))))))))))))))))))
  | .inr (.inr (.inr (.inr (.inr (.inr (.inr (.inr (.inr (.inr (.inr (.inr (.inr (.inr (.inr (.inr (.inl ((x3, x4, x5, x6, x7, x8, x9, x10, x12, h)))))))))))))))))) =>
    some (.inl (.inr (.inr (.inr (.inr (.inr (.inr (.inr (.inr (.inr (.inr (.inr (.inr (.inr (.inr (.inr (.inr (.inr (.inr (.inl ((x3, x4, x5, x6, x7, x8, x9, x10, x12, 1, h))))))))))))))))))))))
  | .inr (.inr (.inr (.inr (.inr (.inr (.inr (.inr (.inr (.inr (.inr (.inr (.inr (.inr (.inr (.inr (.inr (.inl ((x3, x4, x5, x6, x7, x8, x9, x10, x12, h))))))))))))))))))) =>
    some (.inl (.inr (.inr (.inr (.inr (.inr (.inr (.inr (.inr (.inr (.inr (.inr (.inr (.inr (.inr (.inr (.inr (.inr (.inr (.inl ((x3, x4, x5, x6, x7, x8, x9, x10, x12, 0, h))))))))))))))))))))))
  | .inr (.inr (.inr (.inr (.inr (.inr (.inr (.inr (.inr (.inr (.inr (.inr (.inr (.inr (.inr (.inr (.inr (.inr (.inl ((x3, x4, x5, x6, x7, x8, x9, x10, x12, s0, h)))))))))))))))))))) =>
    some (.inl (.inr (.inr (.inr (.inr (.inr (.inr (.inr (.inr (.inr (.inr (.inr (.inr (.inr (.inr (.inl ((x3, x4, x5, x6, x7, x8, x9, x10, s0, (tm_wr (x12 + 1)), h))))))))))))))))))
  | .inr (.inr (.inr (.inr (.inr (.inr (.inr (.inr (.inr (.inr (.inr (.inr (.inr (.inr (.inr (.inr (.inr (.inr (.inr (.inl ((x3, x4, x5, x6, x7, x8, x9, x10, x11, h))))))))))))))))))))) =>
    if x11 = 0 then
    (some (.inr ((-1), h)))
    else
    (if x9 = 0 then
    (some (.inl (.inr (.inr (.inr (.inr (.inr (.inr (.inr (.inr (.inr (.inr (.inr (.inr (.inr (.inr (.inr (.inr (.inr (.inr (.inr (.inr (.inl ((x3, x4, x5, x8, x10, x6, 0, h)))))))))))))))))))))))))
    else
    (some (.inl (.inr (.inr (.inr (.inr (.inr (.inr (.inr (.inr (.inr (.inr (.inr (.inr (.inr (.inr (.inr (.inr (.inr (.inr (.inr (.inr (.inl ((x3, x4, x5, x8, x10, x6, (tm_shl 1 x7), h))))))))))))))))))))))))))
  | .inr (.inr (.inr (.inr (.inr (.inr (.inr (.inr (.inr (.inr (.inr (.inr (.inr (.inr (.inr (.inr (.inr (.inr (.inr (.inr (.inl ((x3, x4, x5, x8, x10, s0, s1, h)))))))))))))))))))))) =>
    if x10 = 0 then
    (some (.inl (.inr (.inr (.inr (.inr (.inr (.inr (.inr (.inr (.inr (.inr (.inr (.inr (.inr (.inr (.inr (.inr (.inr (.inr (.inr (.inr (.inr ((x3, x4, (tm_or s0 s1), x8, x5, 0, h)))))))))))))))))))))))))
    else
    (some (.inl (.inr (.inr (.inr (.inr (.inr (.inr (.inr (.inr (.inr (.inr (.inr (.inr (.inr (.inr (.inr (.inr (.inr (.inr (.inr (.inr (.inr ((x3, x4, (tm_or s0 s1), x8, x5, 1, h)))))))))))))))))))))))))
  | .inr (.inr (.inr (.inr (.inr (.inr (.inr (.inr (.inr (.inr (.inr (.inr (.inr (.inr (.inr (.inr (.inr (.inr (.inr (.inr (.inr ((x3, x4, x6, x8, s0, s1, h)))))))))))))))))))))) =>
    some (.inl (.inl ((x3, (tm_wr (x4 + x8)), (tm_wr (s0 + s1)), x6, h))))
noncomputable def fL_marksIn_L15 (a1 : Nat) (a2 : Int) (a3 : Int) (x3 : Int) (x4 : Int) (x5 : Int) (x6 : Int) (h : tm_H) : Option (Int × tm_H) := tm_wl (fL_marksIn_S0 a1 a2 a3) (.inl ((x3, x4, x5, x6, h)))
noncomputable def fL_marksIn_L49 (a1 : Nat) (a2 : Int) (a3 : Int) (x3 : Int) (x4 : Int) (x5 : Int) (x6 : Int) (x7 : Int) (s0 : Int) (h : tm_H) : Option (Int × tm_H) := tm_wl (fL_marksIn_S0 a1 a2 a3) (.inr (.inl ((x3, x4, x5, x6, x7, s0, h))))
noncomputable def fL_marksIn_L72 (a1 : Nat) (a2 : Int) (a3 : Int) (x3 : Int) (x4 : Int) (x5 : Int) (x6 : Int) (x7 : Int) (x8 : Int) (h : tm_H) : Option (Int × tm_H) := tm_wl (fL_marksIn_S0 a1 a2 a3) (.inr (.inr (.inl ((x3, x4, x5, x6, x7, x8, h)))))
noncomputable def fL_marksIn_L73 (a1 : Nat) (a2 : Int) (a3 : Int) (x3 : Int) (x4 : Int) (x5 : Int) (x6 : Int) (x7 : Int) (x8 : Int) (s0 : Int) (h : tm_H) : Option (Int × tm_H) := tm_wl (fL_marksIn_S0 a1 a2 a3) (.inr (.inr (.inr (.inl ((x3, x4, x5, x6, x7, x8, s0, h))))))
noncomputable def fL_marksIn_L94 (a1 : Nat) (a2 : Int) (a3 : Int) (x3 : Int) (x4 : Int) (x5 : Int) (x6 : Int) (x7 : Int) (x8 : Int) (x9 : Int) (h : tm_H) : Option (Int × tm_H) := tm_wl (fL_marksIn_S0 a1 a2 a3) (.inr (.inr (.inr (.inr (.inl ((x3, x4, x5, x6, x7, x8, x9, h)))))))
noncomputable def fL_marksIn_L95 (a1 : Nat) (a2 : Int) (a3 : Int) (x3 : Int) (x4 : Int) (x5 : Int) (x6 : Int) (x7 : Int) (x8 : Int) (x9 : Int) (s0 : Int) (h : tm_H) : Option (Int × tm_H) := tm_wl (fL_marksIn_S0 a1 a2 a3) (.inr (.inr (.inr (.inr (.inr (.inl ((x3, x4, x5, x6, x7, x8, x9, s0, h))))))))
noncomputable def fL_marksIn_L132 (a1 : Nat) (a2 : Int) (a3 : Int) (x3 : Int) (x4 : Int) (x5 : Int) (x6 : Int) (x7 : Int) (x8 : Int) (x9 : Int) (x10 : Int) (h : tm_H) : Option (Int × tm_H) := tm_wl (fL_marksIn_S0 a1 a2 a3) (.inr (.inr (.inr (.inr (.inr (.inr (.inl ((x3, x4, x5, x6, x7, x8, x9, x10, h)))))))))
noncomputable def fL_marksIn_L179 (a1 : Nat) (a2 : Int) (a3 : Int) (x3 : Int) (x4 : Int) (x5 : Int) (x6 : Int) (x7 : Int) (x8 : Int) (x9 : Int) (x10 : Int) (s0 : Int) (h : tm_H) : Option (Int × tm_H) := tm_wl (fL_marksIn_S0 a1 a2 a3) (.inr (.inr (.inr (.inr (.inr (.inr (.inr (.inl ((x3, x4, x5, x6, x7, x8, x9, x10, s0, h))))))))))
noncomputable def fL_marksIn_L188 (a1 : Nat) (a2 : Int) (a3 : Int) (x3 : Int) (x4 : Int) (x5 : Int) (x6 : Int) (x7 : Int) (x8 : Int) (x9 : Int) (x10 : Int) (h : tm_H) : Option (Int × tm_H) := tm_wl (fL_marksIn_S0 a1 a2 a3) (.inr (.inr (.inr (.inr (.inr (.inr (.inr (.inr (.inl ((x3, x4, x5, x6, x7, x8, x9, x10, h)))))))))))
noncomputable def fL_marksIn_L189 (a1 : Nat) (a2 : Int) (a3 : Int) (x3 : Int) (x4 : Int) (x5 : Int) (x6 : Int) (x7 : Int) (x8 : Int) (x9 : Int) (x10 : Int) (s0 : Int) (h : tm_H) : Option (Int × tm_H) := tm_wl (fL_marksIn_S0 a1 a2 a3) (.inr (.inr (.inr (.inr (.inr (.inr (.inr (.inr (.inr (.inl ((x3, x4, x5, x6, x7, x8, x9, x10, s0, h))))))))))))
noncomputable def fL_marksIn_L214 (a1 : Nat) (a2 : Int) (a3 : Int) (x3 : Int) (x4 : Int) (x5 : Int) (x6 : Int) (x7 : Int) (x8 : Int) (x9 : Int) (x10 : Int) (s0 : Int) (s1 : Int) (h : tm_H) : Option (Int × tm_H) := tm_wl (fL_marksIn_S0 a1 a2 a3) (.inr (.inr (.inr (.inr (.inr (.inr (.inr (.inr (.inr (.inr (.inl ((x3, x4, x5, x6, x7, x8, x9, x10, s0, s1, h)))))))))))))
noncomputable def fL_marksIn_L269 (a1 : Nat) (a2 : Int) (a3 : Int) (x3 : Int) (x4 : Int) (x5 : Int) (x6 : Int) (x7 : Int) (x8 : Int) (x9 : Int) (x10 : Int) (h : tm_H) : Option (Int × tm_H) := tm_wl (fL_marksIn_S0 a1 a2 a3) (.inr (.inr (.inr (.inr (.inr (.inr (.inr (.inr (.inr (.inr (.inr (.inl ((x3, x4, x5, x6, x7, x8, x9, x10, h))))))))))))))
noncomputable def fL_marksIn_L273 (a1 : Nat) (a2 : Int) (a3 : Int) (x3 : Int) (x4 : Int) (x5 : Int) (x6 : Int) (x7 : Int) (x8 : Int) (x9 : Int) (x10 : Int) (h : tm_H) : Option (Int × tm_H) := tm_wl (fL_marksIn_S0 a1 a2 a3) (.inr (.inr (.inr (.inr (.inr (.inr (.inr (.inr (.inr (.inr (.inr (.inr (.inl ((x3, x4, x5, x6, x7, x8, x9, x10, h)))))))))))))))
noncomputable def fL_marksIn_L274 (a1 : Nat) (a2 : Int) (a3 : Int) (x3 : Int) (x4 : Int) (x5 : Int) (x6 : Int) (x7 : Int) (x8 : Int) (x9 : Int) (x10 : Int) (s0 : Int) (h : tm_H) : Option (Int × tm_H) := tm_wl (fL_marksIn_S0 a1 a2 a3) (.inr (.inr (.inr (.inr (.inr (.inr (.inr (.inr (.inr (.inr (.inr (.inr (.inr (.inl ((x3, x4, x5, x6, x7, x8, x9, x10, s0, h))))))))))))))))
noncomputable def fL_marksIn_L279 (a1 : Nat) (a2 : Int) (a3 : Int) (x3 : Int) (x4 : Int) (x5 : Int) (x6 : Int) (x7 : Int) (x8 : Int) (x9 : Int) (x10 : Int) (x11 : Int) (x12 : Int) (h : tm_H) : Option (Int × tm_H) := tm_wl (fL_marksIn_S0 a1 a2 a3) (.inr (.inr (.inr (.inr (.inr (.inr (.inr (.inr (.inr (.inr (.inr (.inr (.inr (.inr (.inl ((x3, x4, x5, x6, x7, x8, x9, x10, x11, x12, h)))))))))))))))))
noncomputable def fL_marksIn_L349 (a1 : Nat) (a2 : Int) (a3 : Int) (x3 : Int) (x4 : Int) (x5 : Int) (x6 : Int) (x7 : Int) (x8 : Int) (x9 : Int) (x10 : Int) (x12 : Int) (h : tm_H) : Option (Int × tm_H) := tm_wl (fL_marksIn_S0 a1 a2 a3) (.inr (.inr (.inr (.inr (.inr (.inr (.inr (.inr (.inr (.inr (.inr (.inr (.inr (.inr (.inr (.inl ((x3, x4, x5, x6, x7, x8, x9, x10, x12, h))))))))))))))))))
noncomputable def fL_marksIn_L418 (a1 : Nat) (a2 : Int) (a3 : Int) (x3 : Int) (x4 : Int) (x5 : Int) (x6 : Int) (x7 : Int) (x8 : Int) (x9 : Int) (x10 : Int) (x12 : Int) (h : tm_H) : Option (Int × tm_H) := tm_wl (fL_marksIn_S0 a1 a2 a3) (.inr (.inr (.inr (.inr (.inr (.inr (.inr (.inr (.inr (.inr (.inr (.inr (.inr (.inr (.inr (.inr (.inl ((x3, x4, x5, x6, x7, x8, x9, x10, x12, h)))))))))))))))))))
noncomputable def fL_marksIn_L422 (a1 : Nat) (a2 : Int) (a3 : Int) (x3 : Int) (x4 : Int) (x5 : Int) (x6 : Int) (x7 : Int) (x8 : Int) (x9 : Int) (x10 : Int) (x12 : Int) (h : tm_H) : Option (Int × tm_H) := tm_wl (fL_marksIn_S0 a1 a2 a3) (.inr (.inr (.inr (.inr (.inr (.inr (.inr (.inr (.inr (.inr (.inr (.inr (.inr (.inr (.inr (.inr (.inr (.inl ((x3, x4, x5, x6, x7, x8, x9, x10, x12, h))))))))))))))))))))
noncomputable def fL_marksIn_L423 (a1 : Nat) (a2 : Int) (a3 : Int) (x3 : Int) (x4 : Int) (x5 : Int) (x6 : Int) (x7 : Int) (x8 : Int) (x9 : Int) (x10 : Int) (x12 : Int) (s0 : Int) (h : tm_H) : Option (Int × tm_H) := tm_wl (fL_marksIn_S0 a1 a2 a3) (.inr (.inr (.inr (.inr (.inr (.inr (.inr (.inr (.inr (.inr (.inr (.inr (.inr (.inr (.inr (.inr (.inr (.inr (.inl ((x3, x4, x5, x6, x7, x8, x9, x10, x12, s0, h)))))))))))))))))))))
noncomputable def fL_marksIn_L431 (a1 : Nat) (a2 : Int) (a3 : Int) (x3 : Int) (x4 : Int) (x5 : Int) (x6 : Int) (x7 : Int) (x8 : Int) (x9 : Int) (x10 : Int) (x11 : Int) (h : tm_H) : Option (Int × tm_H) := tm_wl (fL_marksIn_S0 a1 a2 a3) (.inr (.inr (.inr (.inr (.inr (.inr (.inr (.inr (.inr (.inr (.inr (.inr (.inr (.inr (.inr (.inr (.inr (.inr (.inr (.inl ((x3, x4, x5, x6, x7, x8, x9, x10, x11, h))))))))))))))))))))))
noncomputable def fL_marksIn_L453 (a1 : Nat) (a2 : Int) (a3 : Int) (x3 : Int) (x4 : Int) (x5 : Int) (x8 : Int) (x10 : Int) (s0 : Int) (s1 : Int) (h : tm_H) : Option (Int × tm_H) := tm_wl (fL_marksIn_S0 a1 a2 a3) (.inr (.inr (.inr (.inr (.inr (.inr (.inr (.inr (.inr (.inr (.inr (.inr (.inr (.inr (.inr (.inr (.inr (.inr (.inr (.inr (.inl ((x3, x4, x5, x8, x10, s0, s1, h)))))))))))))))))))))))
noncomputable def fL_marksIn_L468 (a1 : Nat) (a2 : Int) (a3 : Int) (x3 : Int) (x4 : Int) (x6 : Int) (x8 : Int) (s0 : Int) (s1 : Int) (h : tm_H) : Option (Int × tm_H) := tm_wl (fL_marksIn_S0 a1 a2 a3) (.inr (.inr (.inr (.inr (.inr (.inr (.inr (.inr (.inr (.inr (.inr (.inr (.inr (.inr (.inr (.inr (.inr (.inr (.inr (.inr (.inr ((x3, x4, x6, x8, s0, s1, h)))))))))))))))))))))))
theorem fL_marksIn_L15_eq (a1 : Nat) (a2 : Int) (a3 : Int) (x3 : Int) (x4 : Int) (x5 : Int) (x6 : Int) (h : tm_H) : fL_marksIn_L15 a1 a2 a3 x3 x4 x5 x6 h =
    if x4 < x3 then
    ((fX8_place a1 a2 x4 1 h).bind fun q23 =>
    if q23.1 = ((-99)) then
    (fL_marksIn_L49 a1 a2 a3 x3 x4 x5 x6 q23.1 1 q23.2)
    else
    ((fX8_term a1 q23.1 0 q23.2).bind fun q24 =>
    fL_marksIn_L49 a1 a2 a3 x3 x4 x5 x6 q23.1 q24.1 q24.2))
    else
    (some (tm_wr (x5 - a3), h)) := by
  unfold fL_marksIn_L15
  rw [tm_wl_eq]
  simp only [fL_marksIn_S0, tm_go_ite, tm_go_bind, tm_go_inl, tm_go_inr, tm_go_out, tm_go_th]
  try rfl
theorem fL_marksIn_L49_eq (a1 : Nat) (a2 : Int) (a3 : Int) (x3 : Int) (x4 : Int) (x5 : Int) (x6 : Int) (x7 : Int) (s0 : Int) (h : tm_H) : fL_marksIn_L49 a1 a2 a3 x3 x4 x5 x6 x7 s0 h =
    if x7 = ((-99)) then
    (fL_marksIn_L72 a1 a2 a3 x3 x4 x5 x6 x7 s0 h)
    else
    (if (tm_and (tm_shr x6 x7) 1) = 0 then
    (fL_marksIn_L73 a1 a2 a3 x3 x4 x5 x6 x7 s0 1 h)
    else
    (fL_marksIn_L72 a1 a2 a3 x3 x4 x5 x6 x7 s0 h)) := by
  unfold fL_marksIn_L49
  rw [tm_wl_eq]
  simp only [fL_marksIn_S0, tm_go_ite, tm_go_bind, tm_go_inl, tm_go_inr, tm_go_out, tm_go_th]
  try rfl
theorem fL_marksIn_L72_eq (a1 : Nat) (a2 : Int) (a3 : Int) (x3 : Int) (x4 : Int) (x5 : Int) (x6 : Int) (x7 : Int) (x8 : Int) (h : tm_H) : fL_marksIn_L72 a1 a2 a3 x3 x4 x5 x6 x7 x8 h =
    fL_marksIn_L73 a1 a2 a3 x3 x4 x5 x6 x7 x8 0 h := by
  unfold fL_marksIn_L72
  rw [tm_wl_eq]
  simp only [fL_marksIn_S0, tm_go_ite, tm_go_bind, tm_go_inl, tm_go_inr, tm_go_out, tm_go_th]
  try rfl
theorem fL_marksIn_L73_eq (a1 : Nat) (a2 : Int) (a3 : Int) (x3 : Int) (x4 : Int) (x5 : Int) (x6 : Int) (x7 : Int) (x8 : Int) (s0 : Int) (h : tm_H) : fL_marksIn_L73 a1 a2 a3 x3 x4 x5 x6 x7 x8 s0 h =
    if s0 = 0 then
    (fL_marksIn_L94 a1 a2 a3 x3 x4 x5 x6 x7 x8 s0 h)
    else
    ((fX8_term a1 x7 5 h).bind fun q25 =>
    if q25.1 = 0 then
    (fL_marksIn_L95 a1 a2 a3 x3 x4 x5 x6 x7 x8 s0 1 q25.2)
    else
    (fL_marksIn_L94 a1 a2 a3 x3 x4 x5 x6 x7 x8 s0 q25.2)) := by
  unfold fL_marksIn_L73
  rw [tm_wl_eq]
  simp only [fL_marksIn_S0, tm_go_ite, tm_go_bind, tm_go_inl, tm_go_inr, tm_go_out, tm_go_th]
  try rfl
theorem fL_marksIn_L94_eq (a1 : Nat) (a2 : Int) (a3 : Int) (x3 : Int) (x4 : Int) (x5 : Int) (x6 : Int) (x7 : Int) (x8 : Int) (x9 : Int) (h : tm_H) : fL_marksIn_L94 a1 a2 a3 x3 x4 x5 x6 x7 x8 x9 h =
    fL_marksIn_L95 a1 a2 a3 x3 x4 x5 x6 x7 x8 x9 0 h := by
  unfold fL_marksIn_L94
  rw [tm_wl_eq]
  simp only [fL_marksIn_S0, tm_go_ite, tm_go_bind, tm_go_inl, tm_go_inr, tm_go_out, tm_go_th]
  try rfl
theorem fL_marksIn_L95_eq (a1 : Nat) (a2 : Int) (a3 : Int) (x3 : Int) (x4 : Int) (x5 : Int) (x6 : Int) (x7 : Int) (x8 : Int) (x9 : Int) (s0 : Int) (h : tm_H) : fL_marksIn_L95 a1 a2 a3 x3 x4 x5 x6 x7 x8 x9 s0 h =
    if x7 = ((-99)) then
    ((fX8_place a1 a2 x4 2 h).bind fun q26 =>
    if q26.1 = ((-99)) then
    ((fX8_place a1 a2 x4 3 q26.2).bind fun q27 =>
    if q27.1 = 0 then
    (fL_marksIn_L189 a1 a2 a3 x3 x4 x5 x6 x7 x8 x9 s0 1 q27.2)
    else
    (fL_marksIn_L132 a1 a2 a3 x3 x4 x5 x6 x7 x8 x9 s0 q27.2))
    else
    (fL_marksIn_L132 a1 a2 a3 x3 x4 x5 x6 x7 x8 x9 s0 q26.2))
    else
    (if x7 < 0 then
    (fL_marksIn_L188 a1 a2 a3 x3 x4 x5 x6 x7 x8 x9 s0 h)
    else
    (if x3 < (tm_wr (x4 + x8)) then
    (fL_marksIn_L188 a1 a2 a3 x3 x4 x5 x6 x7 x8 x9 s0 h)
    else
    ((fX8_firstUse a1 x7 a2 h).bind fun q28 =>
    if x4 < q28.1 then
    (fL_marksIn_L188 a1 a2 a3 x3 x4 x5 x6 x7 x8 x9 s0 q28.2)
    else
    ((fX8_firstUse a1 x7 a2 q28.2).bind fun q29 =>
    if q29.1 = x4 then
    (fL_marksIn_L179 a1 a2 a3 x3 x4 x5 x6 x7 x8 x9 s0 1 q29.2)
    else
    (fL_marksIn_L179 a1 a2 a3 x3 x4 x5 x6 x7 x8 x9 s0 0 q29.2))))) := by
  unfold fL_marksIn_L95
  rw [tm_wl_eq]
  simp only [fL_marksIn_S0, tm_go_ite, tm_go_bind, tm_go_inl, tm_go_inr, tm_go_out, tm_go_th]
  try rfl
theorem fL_marksIn_L132_eq (a1 : Nat) (a2 : Int) (a3 : Int) (x3 : Int) (x4 : Int) (x5 : Int) (x6 : Int) (x7 : Int) (x8 : Int) (x9 : Int) (x10 : Int) (h : tm_H) : fL_marksIn_L132 a1 a2 a3 x3 x4 x5 x6 x7 x8 x9 x10 h =
    fL_marksIn_L189 a1 a2 a3 x3 x4 x5 x6 x7 x8 x9 x10 0 h := by
  unfold fL_marksIn_L132
  rw [tm_wl_eq]
  simp only [fL_marksIn_S0, tm_go_ite, tm_go_bind, tm_go_inl, tm_go_inr, tm_go_out, tm_go_th]
  try rfl
theorem fL_marksIn_L179_eq (a1 : Nat) (a2 : Int) (a3 : Int) (x3 : Int) (x4 : Int) (x5 : Int) (x6 : Int) (x7 : Int) (x8 : Int) (x9 : Int) (x10 : Int) (s0 : Int) (h : tm_H) : fL_marksIn_L179 a1 a2 a3 x3 x4 x5 x6 x7 x8 x9 x10 s0 h =
    if s0 = x9 then
    (fL_marksIn_L189 a1 a2 a3 x3 x4 x5 x6 x7 x8 x9 x10 1 h)
    else
    (fL_marksIn_L188 a1 a2 a3 x3 x4 x5 x6 x7 x8 x9 x10 h) := by
  unfold fL_marksIn_L179
  rw [tm_wl_eq]
  simp only [fL_marksIn_S0, tm_go_ite, tm_go_bind, tm_go_inl, tm_go_inr, tm_go_out, tm_go_th]
  try rfl
theorem fL_marksIn_L188_eq (a1 : Nat) (a2 : Int) (a3 : Int) (x3 : Int) (x4 : Int) (x5 : Int) (x6 : Int) (x7 : Int) (x8 : Int) (x9 : Int) (x10 : Int) (h : tm_H) : fL_marksIn_L188 a1 a2 a3 x3 x4 x5 x6 x7 x8 x9 x10 h =
    fL_marksIn_L189 a1 a2 a3 x3 x4 x5 x6 x7 x8 x9 x10 0 h := by
  unfold fL_marksIn_L188
  rw [tm_wl_eq]
  simp only [fL_marksIn_S0, tm_go_ite, tm_go_bind, tm_go_inl, tm_go_inr, tm_go_out, tm_go_th]
  try rfl
theorem fL_marksIn_L189_eq (a1 : Nat) (a2 : Int) (a3 : Int) (x3 : Int) (x4 : Int) (x5 : Int) (x6 : Int) (x7 : Int) (x8 : Int) (x9 : Int) (x10 : Int) (s0 : Int) (h : tm_H) : fL_marksIn_L189 a1 a2 a3 x3 x4 x5 x6 x7 x8 x9 x10 s0 h =
    if s0 = 0 then
    (fL_marksIn_L273 a1 a2 a3 x3 x4 x5 x6 x7 x8 x9 x10 h)
    else
    ((fX8_place a1 a2 x4 3 h).bind fun q30 =>
    if x10 = 0 then
    (fL_marksIn_L214 a1 a2 a3 x3 x4 x5 x6 x7 x8 x9 x10 q30.1 0 q30.2)
    else
    (fL_marksIn_L214 a1 a2 a3 x3 x4 x5 x6 x7 x8 x9 x10 q30.1 1 q30.2)) := by
  unfold fL_marksIn_L189
  rw [tm_wl_eq]
  simp only [fL_marksIn_S0, tm_go_ite, tm_go_bind, tm_go_inl, tm_go_inr, tm_go_out, tm_go_th]
  try rfl
theorem fL_marksIn_L214_eq (a1 : Nat) (a2 : Int) (a3 : Int) (x3 : Int) (x4 : Int) (x5 : Int) (x6 : Int) (x7 : Int) (x8 : Int) (x9 : Int) (x10 : Int) (s0 : Int) (s1 : Int) (h : tm_H) : fL_marksIn_L214 a1 a2 a3 x3 x4 x5 x6 x7 x8 x9 x10 s0 s1 h =
    if s0 = s1 then
    (if x10 = 0 then
    (fL_marksIn_L269 a1 a2 a3 x3 x4 x5 x6 x7 x8 x9 x10 h)
    else
    ((fX8_mark a1 x5 0 h).bind fun q31 =>
    if q31.1 = a2 then
    ((fX8_mark a1 x5 1 q31.2).bind fun q32 =>
    if q32.1 = x4 then
    ((fX8_mark a1 x5 2 q32.2).bind fun q33 =>
    if q33.1 = x7 then
    ((fX8_why a1 a2 x4 x7 q33.2).bind fun q34 =>
    if q34.1 = 0 then
    (fL_marksIn_L269 a1 a2 a3 x3 x4 x5 x6 x7 x8 x9 x10 q34.2)
    else
    (fL_marksIn_L273 a1 a2 a3 x3 x4 x5 x6 x7 x8 x9 x10 q34.2))
    else
    (fL_marksIn_L273 a1 a2 a3 x3 x4 x5 x6 x7 x8 x9 x10 q33.2))
    else
    (fL_marksIn_L273 a1 a2 a3 x3 x4 x5 x6 x7 x8 x9 x10 q32.2))
    else
    (fL_marksIn_L273 a1 a2 a3 x3 x4 x5 x6 x7 x8 x9 x10 q31.2)))
    else
    (fL_marksIn_L273 a1 a2 a3 x3 x4 x5 x6 x7 x8 x9 x10 h) := by
  unfold fL_marksIn_L214
  rw [tm_wl_eq]
  simp only [fL_marksIn_S0, tm_go_ite, tm_go_bind, tm_go_inl, tm_go_inr, tm_go_out, tm_go_th]
  try rfl
theorem fL_marksIn_L269_eq (a1 : Nat) (a2 : Int) (a3 : Int) (x3 : Int) (x4 : Int) (x5 : Int) (x6 : Int) (x7 : Int) (x8 : Int) (x9 : Int) (x10 : Int) (h : tm_H) : fL_marksIn_L269 a1 a2 a3 x3 x4 x5 x6 x7 x8 x9 x10 h =
    fL_marksIn_L274 a1 a2 a3 x3 x4 x5 x6 x7 x8 x9 x10 1 h := by
  unfold fL_marksIn_L269
  rw [tm_wl_eq]
  simp only [fL_marksIn_S0, tm_go_ite, tm_go_bind, tm_go_inl, tm_go_inr, tm_go_out, tm_go_th]
  try rfl
theorem fL_marksIn_L273_eq (a1 : Nat) (a2 : Int) (a3 : Int) (x3 : Int) (x4 : Int) (x5 : Int) (x6 : Int) (x7 : Int) (x8 : Int) (x9 : Int) (x10 : Int) (h : tm_H) : fL_marksIn_L273 a1 a2 a3 x3 x4 x5 x6 x7 x8 x9 x10 h =
    fL_marksIn_L274 a1 a2 a3 x3 x4 x5 x6 x7 x8 x9 x10 0 h := by
  unfold fL_marksIn_L273
  rw [tm_wl_eq]
  simp only [fL_marksIn_S0, tm_go_ite, tm_go_bind, tm_go_inl, tm_go_inr, tm_go_out, tm_go_th]
  try rfl
theorem fL_marksIn_L274_eq (a1 : Nat) (a2 : Int) (a3 : Int) (x3 : Int) (x4 : Int) (x5 : Int) (x6 : Int) (x7 : Int) (x8 : Int) (x9 : Int) (x10 : Int) (s0 : Int) (h : tm_H) : fL_marksIn_L274 a1 a2 a3 x3 x4 x5 x6 x7 x8 x9 x10 s0 h =
    fL_marksIn_L279 a1 a2 a3 x3 x4 x5 x6 x7 x8 x9 x10 s0 0 h := by
  unfold fL_marksIn_L274
  rw [tm_wl_eq]
  simp only [fL_marksIn_S0, tm_go_ite, tm_go_bind, tm_go_inl, tm_go_inr, tm_go_out, tm_go_th]
  try rfl
theorem fL_marksIn_L279_eq (a1 : Nat) (a2 : Int) (a3 : Int) (x3 : Int) (x4 : Int) (x5 : Int) (x6 : Int) (x7 : Int) (x8 : Int) (x9 : Int) (x10 : Int) (x11 : Int) (x12 : Int) (h : tm_H) : fL_marksIn_L279 a1 a2 a3 x3 x4 x5 x6 x7 x8 x9 x10 x11 x12 h =
    if x12 < x8 then
    (if x7 = ((-99)) then
    (fL_marksIn_L431 a1 a2 a3 x3 x4 x5 x6 x7 x8 x9 x10 x11 h)
    else
    (if x11 = 0 then
    (fL_marksIn_L431 a1 a2 a3 x3 x4 x5 x6 x7 x8 x9 x10 x11 h)
    else
    ((fX8_place a1 a2 (tm_wr (x4 + x12)) 1 h).bind fun q35 =>
    if q35.1 = x7 then
    ((fX8_place a1 a2 (tm_wr (x4 + x12)) 2 q35.2).bind fun q36 =>
    if q36.1 = x12 then
    (if x12 = 0 then
    (fL_marksIn_L349 a1 a2 a3 x3 x4 x5 x6 x7 x8 x9 x10 x12 q36.2)
    else
    ((fX8_place a1 a2 (tm_wr (x4 + x12)) 3 q36.2).bind fun q37 =>
    if q37.1 = 0 then
    (fL_marksIn_L349 a1 a2 a3 x3 x4 x5 x6 x7 x8 x9 x10 x12 q37.2)
    else
    (fL_marksIn_L422 a1 a2 a3 x3 x4 x5 x6 x7 x8 x9 x10 x12 q37.2)))
    else
    (fL_marksIn_L422 a1 a2 a3 x3 x4 x5 x6 x7 x8 x9 x10 x12 q36.2))
    else
    (fL_marksIn_L422 a1 a2 a3 x3 x4 x5 x6 x7 x8 x9 x10 x12 q35.2))))
    else
    (fL_marksIn_L431 a1 a2 a3 x3 x4 x5 x6 x7 x8 x9 x10 x11 h) := by
  unfold fL_marksIn_L279
  rw [tm_wl_eq]
  simp only [fL_marksIn_S0, tm_go_ite, tm_go_bind, tm_go_inl, tm_go_inr, tm_go_out, tm_go_th]
  try rfl
theorem fL_marksIn_L349_eq (a1 : Nat) (a2 : Int) (a3 : Int) (x3 : Int) (x4 : Int) (x5 : Int) (x6 : Int) (x7 : Int) (x8 : Int) (x9 : Int) (x10 : Int) (x12 : Int) (h : tm_H) : fL_marksIn_L349 a1 a2 a3 x3 x4 x5 x6 x7 x8 x9 x10 x12 h =
    (fX8_place a1 a2 (tm_wr (x4 + x12)) 0 h).bind fun q38 =>
    (fX8_base a1 q38.1 q38.2).bind fun v39 =>
    (fX8_term a1 x7 (tm_wr (1 + x12)) q38.2).bind fun q40 =>
    (fX8_base a1 q40.1 q40.2).bind fun v41 =>
    if v39 = v41 then
    (if x12 = 0 then
    (fL_marksIn_L418 a1 a2 a3 x3 x4 x5 x6 x7 x8 x9 x10 x12 q40.2)
    else
    ((fX8_why a1 a2 (tm_wr (x4 + x12)) x7 q40.2).bind fun q42 =>
    if q42.1 = 1 then
    (fL_marksIn_L418 a1 a2 a3 x3 x4 x5 x6 x7 x8 x9 x10 x12 q42.2)
    else
    ((fX8_why a1 a2 (tm_wr (x4 + x12)) x7 q42.2).bind fun q43 =>
    if q43.1 = 3 then
    (fL_marksIn_L418 a1 a2 a3 x3 x4 x5 x6 x7 x8 x9 x10 x12 q43.2)
    else
    (fL_marksIn_L422 a1 a2 a3 x3 x4 x5 x6 x7 x8 x9 x10 x12 q43.2))))
    else
    (fL_marksIn_L422 a1 a2 a3 x3 x4 x5 x6 x7 x8 x9 x10 x12 q40.2) := by
  unfold fL_marksIn_L349
  rw [tm_wl_eq]
  simp only [fL_marksIn_S0, tm_go_ite, tm_go_bind, tm_go_inl, tm_go_inr, tm_go_out, tm_go_th]
  try rfl
theorem fL_marksIn_L418_eq (a1 : Nat) (a2 : Int) (a3 : Int) (x3 : Int) (x4 : Int) (x5 : Int) (x6 : Int) (x7 : Int) (x8 : Int) (x9 : Int) (x10 : Int) (x12 : Int) (h : tm_H) : fL_marksIn_L418 a1 a2 a3 x3 x4 x5 x6 x7 x8 x9 x10 x12 h =
    fL_marksIn_L423 a1 a2 a3 x3 x4 x5 x6 x7 x8 x9 x10 x12 1 h := by
  unfold fL_marksIn_L418
  rw [tm_wl_eq]
  simp only [fL_marksIn_S0, tm_go_ite, tm_go_bind, tm_go_inl, tm_go_inr, tm_go_out, tm_go_th]
  try rfl
theorem fL_marksIn_L422_eq (a1 : Nat) (a2 : Int) (a3 : Int) (x3 : Int) (x4 : Int) (x5 : Int) (x6 : Int) (x7 : Int) (x8 : Int) (x9 : Int) (x10 : Int) (x12 : Int) (h : tm_H) : fL_marksIn_L422 a1 a2 a3 x3 x4 x5 x6 x7 x8 x9 x10 x12 h =
    fL_marksIn_L423 a1 a2 a3 x3 x4 x5 x6 x7 x8 x9 x10 x12 0 h := by
  unfold fL_marksIn_L422
  rw [tm_wl_eq]
  simp only [fL_marksIn_S0, tm_go_ite, tm_go_bind, tm_go_inl, tm_go_inr, tm_go_out, tm_go_th]
  try rfl
theorem fL_marksIn_L423_eq (a1 : Nat) (a2 : Int) (a3 : Int) (x3 : Int) (x4 : Int) (x5 : Int) (x6 : Int) (x7 : Int) (x8 : Int) (x9 : Int) (x10 : Int) (x12 : Int) (s0 : Int) (h : tm_H) : fL_marksIn_L423 a1 a2 a3 x3 x4 x5 x6 x7 x8 x9 x10 x12 s0 h =
    fL_marksIn_L279 a1 a2 a3 x3 x4 x5 x6 x7 x8 x9 x10 s0 (tm_wr (x12 + 1)) h := by
  unfold fL_marksIn_L423
  rw [tm_wl_eq]
  simp only [fL_marksIn_S0, tm_go_ite, tm_go_bind, tm_go_inl, tm_go_inr, tm_go_out, tm_go_th]
  try rfl
theorem fL_marksIn_L431_eq (a1 : Nat) (a2 : Int) (a3 : Int) (x3 : Int) (x4 : Int) (x5 : Int) (x6 : Int) (x7 : Int) (x8 : Int) (x9 : Int) (x10 : Int) (x11 : Int) (h : tm_H) : fL_marksIn_L431 a1 a2 a3 x3 x4 x5 x6 x7 x8 x9 x10 x11 h =
    if x11 = 0 then
    (some ((-1), h))
    else
    (if x9 = 0 then
    (fL_marksIn_L453 a1 a2 a3 x3 x4 x5 x8 x10 x6 0 h)
    else
    (fL_marksIn_L453 a1 a2 a3 x3 x4 x5 x8 x10 x6 (tm_shl 1 x7) h)) := by
  unfold fL_marksIn_L431
  rw [tm_wl_eq]
  simp only [fL_marksIn_S0, tm_go_ite, tm_go_bind, tm_go_inl, tm_go_inr, tm_go_out, tm_go_th]
  try rfl
theorem fL_marksIn_L453_eq (a1 : Nat) (a2 : Int) (a3 : Int) (x3 : Int) (x4 : Int) (x5 : Int) (x8 : Int) (x10 : Int) (s0 : Int) (s1 : Int) (h : tm_H) : fL_marksIn_L453 a1 a2 a3 x3 x4 x5 x8 x10 s0 s1 h =
    if x10 = 0 then
    (fL_marksIn_L468 a1 a2 a3 x3 x4 (tm_or s0 s1) x8 x5 0 h)
    else
    (fL_marksIn_L468 a1 a2 a3 x3 x4 (tm_or s0 s1) x8 x5 1 h) := by
  unfold fL_marksIn_L453
  rw [tm_wl_eq]
  simp only [fL_marksIn_S0, tm_go_ite, tm_go_bind, tm_go_inl, tm_go_inr, tm_go_out, tm_go_th]
  try rfl
theorem fL_marksIn_L468_eq (a1 : Nat) (a2 : Int) (a3 : Int) (x3 : Int) (x4 : Int) (x6 : Int) (x8 : Int) (s0 : Int) (s1 : Int) (h : tm_H) : fL_marksIn_L468 a1 a2 a3 x3 x4 x6 x8 s0 s1 h =
    fL_marksIn_L15 a1 a2 a3 x3 (tm_wr (x4 + x8)) (tm_wr (s0 + s1)) x6 h := by
  unfold fL_marksIn_L468
  rw [tm_wl_eq]
  simp only [fL_marksIn_S0, tm_go_ite, tm_go_bind, tm_go_inl, tm_go_inr, tm_go_out, tm_go_th]
  try rfl
noncomputable def fL_marksIn (a1 : Nat) (a2 : Int) (a3 : Int) (h : tm_H) : Option (Int × tm_H) :=
  (fL_size a1 a2 h).bind fun q1 =>
  fL_marksIn_L15 a1 a2 a3 q1.1 0 a3 0 q1.2
noncomputable def fL_areReadings_L246 (a1 : Nat) (x1 : Int) (x2 : Int) (x3 : Int) (x4 : Int) (x5 : Int) (x6 : Int) (h : tm_H) : Option (Int × tm_H) :=
  if x6 = 0 then
  (some (0, h))
  else
  ((fX8_count a1 4 h).bind fun q18 =>
  if x1 = q18.1 then
  ((fX8_count a1 1 q18.2).bind fun q19 =>
  if x2 = q19.1 then
  (if x3 = x1 then
  ((fX8_count a1 5 q19.2).bind fun q20 =>
  if x4 = q20.1 then
  ((fX8_count a1 3 q20.2).bind fun q21 =>
  if x5 = q21.1 then
  ((fX8_mark a1 x1 0 q21.2).bind fun q22 =>
  if q22.1 = ((-99)) then
  (some (1, q22.2))
  else
  (some (0, q22.2)))
  else
  (some (0, q21.2)))
  else
  (some (0, q20.2)))
  else
  (some (0, q19.2)))
  else
  (some (0, q19.2)))
  else
  (some (0, q18.2)))
noncomputable def fL_areReadings_S1 (a1 : Nat) (st : (Int × Int × Int × Int × Int × Int × Int × tm_H) ⊕ (Int × Int × Int × Int × Int × Int × tm_H) ⊕ (Int × Int × Int × Int × Int × Int × tm_H) ⊕ (Int × Int × Int × Int × Int × Int × Int × tm_H)) : Option (((Int × Int × Int × Int × Int × Int × Int × tm_H) ⊕ (Int × Int × Int × Int × Int × Int × tm_H) ⊕ (Int × Int × Int × Int × Int × Int × tm_H) ⊕ (Int × Int × Int × Int × Int × Int × Int × tm_H)) ⊕ (Int × tm_H)) := match st with
  | .inl ((x1, x2, x3, x4, x5, x6, x7, h)) =>
    (fX8_count a1 2 h).bind fun q3 =>
    if x7 < q3.1 then
    (if x6 = 0 then
    (tm_out (fL_areReadings_L246 a1 x1 x2 x3 x4 x5 x6 q3.2))
    else
    ((fX8_term a1 x7 8 q3.2).bind fun q4 =>
    (fX8_term a1 x7 6 q4.2).bind fun q5 =>
    (fX8_term a1 x7 5 q5.2).bind fun q6 =>
    (fX8_term a1 x7 6 q6.2).bind fun q7 =>
    (fX8_term a1 x7 7 q7.2).bind fun q8 =>
    if q8.1 < q7.1 then
    (some (.inl (.inr (.inr (.inl ((x1, x2, (tm_wr (x3 + q4.1)), (tm_wr (x4 + q5.1)), (tm_wr (x5 + q6.1)), x7, q8.2)))))))
    else
    ((fX8_term a1 x7 8 q8.2).bind fun q9 =>
    (fX8_term a1 x7 6 q9.2).bind fun q10 =>
    if q10.1 < q9.1 then
    (some (.inl (.inr (.inr (.inl ((x1, x2, (tm_wr (x3 + q4.1)), (tm_wr (x4 + q5.1)), (tm_wr (x5 + q6.1)), x7, q10.2)))))))
    else
    ((fX8_term a1 x7 0 q10.2).bind fun q11 =>
    if 0 < q11.1 then
    ((fX8_term a1 x7 0 q11.2).bind fun q12 =>
    if q12.1 < 5 then
    ((fX8_term a1 x7 0 q12.2).bind fun q13 =>
    (fX8_term a1 x7 q13.1 q13.2).bind fun q14 =>
    if q14.1 < 0 then
    (some (.inl (.inr (.inr (.inl ((x1, x2, (tm_wr (x3 + q4.1)), (tm_wr (x4 + q5.1)), (tm_wr (x5 + q6.1)), x7, q14.2)))))))
    else
    ((fX8_term a1 x7 5 q14.2).bind fun q15 =>
    if q15.1 = 0 then
    (some (.inl (.inr (.inl ((x1, x2, (tm_wr (x3 + q4.1)), (tm_wr (x4 + q5.1)), (tm_wr (x5 + q6.1)), x7, q15.2))))))
    else
    ((fX8_term a1 x7 8 q15.2).bind fun q16 =>
    if q16.1 = 0 then
    (some (.inl (.inr (.inl ((x1, x2, (tm_wr (x3 + q4.1)), (tm_wr (x4 + q5.1)), (tm_wr (x5 + q6.1)), x7, q16.2))))))
    else
    (some (.inl (.inr (.inr (.inl ((x1, x2, (tm_wr (x3 + q4.1)), (tm_wr (x4 + q5.1)), (tm_wr (x5 + q6.1)), x7, q16.2))))))))))
    else
    (some (.inl (.inr (.inr (.inl ((x1, x2, (tm_wr (x3 + q4.1)), (tm_wr (x4 + q5.1)), (tm_wr (x5 + q6.1)), x7, q12.2))))))))
    else
    (some (.inl (.inr (.inr (.inl ((x1, x2, (tm_wr (x3 + q4.1)), (tm_wr (x4 + q5.1)), (tm_wr (x5 + q6.1)), x7, q11.2)))))))))))
    else
    (tm_out (fL_areReadings_L246 a1 x1 x2 x3 x4 x5 x6 q3.2))
  | .inr (.inl ((x1, x2, x3, x4, x5, x7, h))) =>
    (fX8_nested a1 x7 x7 h).bind fun v17 =>
    if v17 = 1 then
    (some (.inl (.inr (.inr (.inr ((x1, x2, x3, x4, x5, x7, 1, h)))))))
    else
    (some (.inl (.inr (.inr (.inl ((x1, x2, x3, x4, x5, x7, h)))))))
  | .inr (.inr (.inl ((x1, x2, x3, x4, x5, x7, h)))) =>
    some (.inl (.inr (.inr (.inr ((x1, x2, x3, x4, x5, x7, 0, h))))))
  | .inr (.inr (.inr ((x1, x2, x3, x4, x5, x7, s0, h)))) =>
    some (.inl (.inl ((x1, x2, x3, x4, x5, s0, (tm_wr (x7 + 1)), h))))
noncomputable def fL_areReadings_L74 (a1 : Nat) (x1 : Int) (x2 : Int) (x3 : Int) (x4 : Int) (x5 : Int) (x6 : Int) (x7 : Int) (h : tm_H) : Option (Int × tm_H) := tm_wl (fL_areReadings_S1 a1) (.inl ((x1, x2, x3, x4, x5, x6, x7, h)))
noncomputable def fL_areReadings_L221 (a1 : Nat) (x1 : Int) (x2 : Int) (x3 : Int) (x4 : Int) (x5 : Int) (x7 : Int) (h : tm_H) : Option (Int × tm_H) := tm_wl (fL_areReadings_S1 a1) (.inr (.inl ((x1, x2, x3, x4, x5, x7, h))))
noncomputable def fL_areReadings_L237 (a1 : Nat) (x1 : Int) (x2 : Int) (x3 : Int) (x4 : Int) (x5 : Int) (x7 : Int) (h : tm_H) : Option (Int × tm_H) := tm_wl (fL_areReadings_S1 a1) (.inr (.inr (.inl ((x1, x2, x3, x4, x5, x7, h)))))
noncomputable def fL_areReadings_L238 (a1 : Nat) (x1 : Int) (x2 : Int) (x3 : Int) (x4 : Int) (x5 : Int) (x7 : Int) (s0 : Int) (h : tm_H) : Option (Int × tm_H) := tm_wl (fL_areReadings_S1 a1) (.inr (.inr (.inr ((x1, x2, x3, x4, x5, x7, s0, h)))))
theorem fL_areReadings_L74_eq (a1 : Nat) (x1 : Int) (x2 : Int) (x3 : Int) (x4 : Int) (x5 : Int) (x6 : Int) (x7 : Int) (h : tm_H) : fL_areReadings_L74 a1 x1 x2 x3 x4 x5 x6 x7 h =
    (fX8_count a1 2 h).bind fun q23 =>
    if x7 < q23.1 then
    (if x6 = 0 then
    (fL_areReadings_L246 a1 x1 x2 x3 x4 x5 x6 q23.2)
    else
    ((fX8_term a1 x7 8 q23.2).bind fun q24 =>
    (fX8_term a1 x7 6 q24.2).bind fun q25 =>
    (fX8_term a1 x7 5 q25.2).bind fun q26 =>
    (fX8_term a1 x7 6 q26.2).bind fun q27 =>
    (fX8_term a1 x7 7 q27.2).bind fun q28 =>
    if q28.1 < q27.1 then
    (fL_areReadings_L237 a1 x1 x2 (tm_wr (x3 + q24.1)) (tm_wr (x4 + q25.1)) (tm_wr (x5 + q26.1)) x7 q28.2)
    else
    ((fX8_term a1 x7 8 q28.2).bind fun q29 =>
    (fX8_term a1 x7 6 q29.2).bind fun q30 =>
    if q30.1 < q29.1 then
    (fL_areReadings_L237 a1 x1 x2 (tm_wr (x3 + q24.1)) (tm_wr (x4 + q25.1)) (tm_wr (x5 + q26.1)) x7 q30.2)
    else
    ((fX8_term a1 x7 0 q30.2).bind fun q31 =>
    if 0 < q31.1 then
    ((fX8_term a1 x7 0 q31.2).bind fun q32 =>
    if q32.1 < 5 then
    ((fX8_term a1 x7 0 q32.2).bind fun q33 =>
    (fX8_term a1 x7 q33.1 q33.2).bind fun q34 =>
    if q34.1 < 0 then
    (fL_areReadings_L237 a1 x1 x2 (tm_wr (x3 + q24.1)) (tm_wr (x4 + q25.1)) (tm_wr (x5 + q26.1)) x7 q34.2)
    else
    ((fX8_term a1 x7 5 q34.2).bind fun q35 =>
    if q35.1 = 0 then
    (fL_areReadings_L221 a1 x1 x2 (tm_wr (x3 + q24.1)) (tm_wr (x4 + q25.1)) (tm_wr (x5 + q26.1)) x7 q35.2)
    else
    ((fX8_term a1 x7 8 q35.2).bind fun q36 =>
    if q36.1 = 0 then
    (fL_areReadings_L221 a1 x1 x2 (tm_wr (x3 + q24.1)) (tm_wr (x4 + q25.1)) (tm_wr (x5 + q26.1)) x7 q36.2)
    else
    (fL_areReadings_L237 a1 x1 x2 (tm_wr (x3 + q24.1)) (tm_wr (x4 + q25.1)) (tm_wr (x5 + q26.1)) x7 q36.2))))
    else
    (fL_areReadings_L237 a1 x1 x2 (tm_wr (x3 + q24.1)) (tm_wr (x4 + q25.1)) (tm_wr (x5 + q26.1)) x7 q32.2))
    else
    (fL_areReadings_L237 a1 x1 x2 (tm_wr (x3 + q24.1)) (tm_wr (x4 + q25.1)) (tm_wr (x5 + q26.1)) x7 q31.2)))))
    else
    (fL_areReadings_L246 a1 x1 x2 x3 x4 x5 x6 q23.2) := by
  unfold fL_areReadings_L74
  rw [tm_wl_eq]
  simp only [fL_areReadings_S1, tm_go_ite, tm_go_bind, tm_go_inl, tm_go_inr, tm_go_out, tm_go_th]
  try rfl
theorem fL_areReadings_L221_eq (a1 : Nat) (x1 : Int) (x2 : Int) (x3 : Int) (x4 : Int) (x5 : Int) (x7 : Int) (h : tm_H) : fL_areReadings_L221 a1 x1 x2 x3 x4 x5 x7 h =
    (fX8_nested a1 x7 x7 h).bind fun v37 =>
    if v37 = 1 then
    (fL_areReadings_L238 a1 x1 x2 x3 x4 x5 x7 1 h)
    else
    (fL_areReadings_L237 a1 x1 x2 x3 x4 x5 x7 h) := by
  unfold fL_areReadings_L221
  rw [tm_wl_eq]
  simp only [fL_areReadings_S1, tm_go_ite, tm_go_bind, tm_go_inl, tm_go_inr, tm_go_out, tm_go_th]
  try rfl
theorem fL_areReadings_L237_eq (a1 : Nat) (x1 : Int) (x2 : Int) (x3 : Int) (x4 : Int) (x5 : Int) (x7 : Int) (h : tm_H) : fL_areReadings_L237 a1 x1 x2 x3 x4 x5 x7 h =
    fL_areReadings_L238 a1 x1 x2 x3 x4 x5 x7 0 h := by
  unfold fL_areReadings_L237
  rw [tm_wl_eq]
  simp only [fL_areReadings_S1, tm_go_ite, tm_go_bind, tm_go_inl, tm_go_inr, tm_go_out, tm_go_th]
  try rfl
theorem fL_areReadings_L238_eq (a1 : Nat) (x1 : Int) (x2 : Int) (x3 : Int) (x4 : Int) (x5 : Int) (x7 : Int) (s0 : Int) (h : tm_H) : fL_areReadings_L238 a1 x1 x2 x3 x4 x5 x7 s0 h =
    fL_areReadings_L74 a1 x1 x2 x3 x4 x5 s0 (tm_wr (x7 + 1)) h := by
  unfold fL_areReadings_L238
  rw [tm_wl_eq]
  simp only [fL_areReadings_S1, tm_go_ite, tm_go_bind, tm_go_inl, tm_go_inr, tm_go_out, tm_go_th]
  try rfl
noncomputable def fL_areReadings_L71 (a1 : Nat) (x1 : Int) (x2 : Int) (x3 : Int) (x4 : Int) (x5 : Int) (x6 : Int) (h : tm_H) : Option (Int × tm_H) :=
  fL_areReadings_L74 a1 x1 x2 x3 x4 x5 x6 0 h
noncomputable def fL_areReadings_S3 (a1 : Nat) (st : (Int × Int × Int × Int × Int × Int × Int × tm_H) ⊕ (Int × Int × Int × Int × Int × Int × Int × Int × tm_H)) : Option (((Int × Int × Int × Int × Int × Int × Int × tm_H) ⊕ (Int × Int × Int × Int × Int × Int × Int × Int × tm_H)) ⊕ (Int × tm_H)) := match st with
  | .inl ((x1, x2, x3, x4, x5, x6, x7, h)) =>
    if x7 < 6 then
    (if x6 = 0 then
    (tm_out (fL_areReadings_L71 a1 x1 x2 x3 x4 x5 x6 h))
    else
    ((fL_marksIn a1 x7 x1 h).bind fun q1 =>
    if q1.1 < 0 then
    (some (.inl (.inr ((x1, x2, x3, x4, x5, x7, q1.1, 0, q1.2)))))
    else
    (some (.inl (.inr ((x1, x2, x3, x4, x5, x7, q1.1, 1, q1.2)))))))
    else
    (tm_out (fL_areReadings_L71 a1 x1 x2 x3 x4 x5 x6 h))
  | .inr ((x1, x2, x3, x4, x5, x7, x8, s0, h)) =>
    (fL_size a1 x7 h).bind fun q2 =>
    some (.inl (.inl (((tm_wr (x1 + x8)), (tm_wr (x2 + q2.1)), x3, x4, x5, s0, (tm_wr (x7 + 1)), q2.2))))
noncomputable def fL_areReadings_L18 (a1 : Nat) (x1 : Int) (x2 : Int) (x3 : Int) (x4 : Int) (x5 : Int) (x6 : Int) (x7 : Int) (h : tm_H) : Option (Int × tm_H) := tm_wl (fL_areReadings_S3 a1) (.inl ((x1, x2, x3, x4, x5, x6, x7, h)))
noncomputable def fL_areReadings_L49 (a1 : Nat) (x1 : Int) (x2 : Int) (x3 : Int) (x4 : Int) (x5 : Int) (x7 : Int) (x8 : Int) (s0 : Int) (h : tm_H) : Option (Int × tm_H) := tm_wl (fL_areReadings_S3 a1) (.inr ((x1, x2, x3, x4, x5, x7, x8, s0, h)))
theorem fL_areReadings_L18_eq (a1 : Nat) (x1 : Int) (x2 : Int) (x3 : Int) (x4 : Int) (x5 : Int) (x6 : Int) (x7 : Int) (h : tm_H) : fL_areReadings_L18 a1 x1 x2 x3 x4 x5 x6 x7 h =
    if x7 < 6 then
    (if x6 = 0 then
    (fL_areReadings_L71 a1 x1 x2 x3 x4 x5 x6 h)
    else
    ((fL_marksIn a1 x7 x1 h).bind fun q38 =>
    if q38.1 < 0 then
    (fL_areReadings_L49 a1 x1 x2 x3 x4 x5 x7 q38.1 0 q38.2)
    else
    (fL_areReadings_L49 a1 x1 x2 x3 x4 x5 x7 q38.1 1 q38.2)))
    else
    (fL_areReadings_L71 a1 x1 x2 x3 x4 x5 x6 h) := by
  unfold fL_areReadings_L18
  rw [tm_wl_eq]
  simp only [fL_areReadings_S3, tm_go_ite, tm_go_bind, tm_go_inl, tm_go_inr, tm_go_out, tm_go_th]
  try rfl
theorem fL_areReadings_L49_eq (a1 : Nat) (x1 : Int) (x2 : Int) (x3 : Int) (x4 : Int) (x5 : Int) (x7 : Int) (x8 : Int) (s0 : Int) (h : tm_H) : fL_areReadings_L49 a1 x1 x2 x3 x4 x5 x7 x8 s0 h =
    (fL_size a1 x7 h).bind fun q39 =>
    fL_areReadings_L18 a1 (tm_wr (x1 + x8)) (tm_wr (x2 + q39.1)) x3 x4 x5 s0 (tm_wr (x7 + 1)) q39.2 := by
  unfold fL_areReadings_L49
  rw [tm_wl_eq]
  simp only [fL_areReadings_S3, tm_go_ite, tm_go_bind, tm_go_inl, tm_go_inr, tm_go_out, tm_go_th]
  try rfl
noncomputable def fL_areReadings (a1 : Nat) (h : tm_H) : Option (Int × tm_H) :=
  fL_areReadings_L18 a1 0 0 0 0 0 1 0 h
noncomputable def fL_areReasons_S0 (a1 : Nat) (a2 : Int) (st : (Int × Int × Int × tm_H) ⊕ (Int × Int × Int × Int × Int × tm_H) ⊕ (Int × Int × Int × Int × Int × Int × tm_H) ⊕ (Int × Int × Int × Int × Int × Int × tm_H) ⊕ (Int × Int × Int × Int × Int × Int × tm_H) ⊕ (Int × Int × Int × Int × Int × Int × tm_H) ⊕ (Int × Int × Int × Int × Int × Int × tm_H) ⊕ (Int × Int × Int × Int × tm_H) ⊕ (Int × Int × Int × Int × tm_H) ⊕ (Int × Int × Int × Int × Int × tm_H) ⊕ (Int × Int × Int × Int × tm_H) ⊕ (Int × Int × Int × tm_H) ⊕ (Int × Int × Int × Int × tm_H) ⊕ (Int × Int × tm_H) ⊕ (Int × Int × Int × tm_H)) : Option (((Int × Int × Int × tm_H) ⊕ (Int × Int × Int × Int × Int × tm_H) ⊕ (Int × Int × Int × Int × Int × Int × tm_H) ⊕ (Int × Int × Int × Int × Int × Int × tm_H) ⊕ (Int × Int × Int × Int × Int × Int × tm_H) ⊕ (Int × Int × Int × Int × Int × Int × tm_H) ⊕ (Int × Int × Int × Int × Int × Int × tm_H) ⊕ (Int × Int × Int × Int × tm_H) ⊕ (Int × Int × Int × Int × tm_H) ⊕ (Int × Int × Int × Int × Int × tm_H) ⊕ (Int × Int × Int × Int × tm_H) ⊕ (Int × Int × Int × tm_H) ⊕ (Int × Int × Int × Int × tm_H) ⊕ (Int × Int × tm_H) ⊕ (Int × Int × Int × tm_H)) ⊕ (Int × tm_H)) := match st with
  | .inl ((x2, x3, x4, h)) =>
    (fX8_count a1 2 h).bind fun q2 =>
    if x4 < q2.1 then
    (if x2 = 0 then
    ((tm_zr x2).bind fun z => some (.inr (z, q2.2)))
    else
    (some (.inl (.inr (.inl ((x2, x3, x4, 0, 0, q2.2)))))))
    else
    ((tm_zr x2).bind fun z => some (.inr (z, q2.2)))
  | .inr (.inl ((x2, x3, x4, x5, x6, h))) =>
    if x6 < x3 then
    (if x2 = 0 then
    (some (.inl (.inr (.inr (.inr (.inr (.inr (.inr (.inr (.inr (.inr (.inr (.inl ((x2, x3, x4, x5, h)))))))))))))))
    else
    ((fX8_why a1 a2 x6 x4 h).bind fun q3 =>
    if q3.1 = 0 then
    (some (.inl (.inr (.inr (.inl ((x3, x4, x6, q3.1, x5, 1, q3.2)))))))
    else
    (some (.inl (.inr (.inr (.inl ((x3, x4, x6, q3.1, x5, 0, q3.2)))))))))
    else
    (some (.inl (.inr (.inr (.inr (.inr (.inr (.inr (.inr (.inr (.inr (.inr (.inl ((x2, x3, x4, x5, h)))))))))))))))
  | .inr (.inr (.inl ((x3, x4, x6, x7, s0, s1, h)))) =>
    (fX8_place a1 a2 x6 1 h).bind fun q4 =>
    if x7 < 0 then
    (some (.inl (.inr (.inr (.inr (.inr (.inr (.inr (.inr (.inr (.inl ((x3, x4, (tm_wr (s0 + s1)), x6, q4.2)))))))))))))
    else
    (if x7 < 6 then
    (if x7 = 2 then
    (if q4.1 = x4 then
    (some (.inl (.inr (.inr (.inr (.inr (.inr (.inr (.inr (.inr (.inl ((x3, x4, (tm_wr (s0 + s1)), x6, q4.2)))))))))))))
    else
    ((fX8_place a1 a2 x6 2 q4.2).bind fun q5 =>
    if q5.1 = 0 then
    ((fX8_term a1 q4.1 0 q5.2).bind fun q6 =>
    (fX8_term a1 x4 0 q6.2).bind fun q7 =>
    if q7.1 < q6.1 then
    (some (.inl (.inr (.inr (.inr (.inl ((x3, x4, (tm_wr (s0 + s1)), x6, x7, q4.1, q7.2))))))))
    else
    (some (.inl (.inr (.inr (.inr (.inr (.inr (.inr (.inr (.inr (.inl ((x3, x4, (tm_wr (s0 + s1)), x6, q7.2))))))))))))))
    else
    (some (.inl (.inr (.inr (.inr (.inr (.inr (.inr (.inr (.inr (.inl ((x3, x4, (tm_wr (s0 + s1)), x6, q5.2)))))))))))))))
    else
    (some (.inl (.inr (.inr (.inr (.inl ((x3, x4, (tm_wr (s0 + s1)), x6, x7, q4.1, q4.2)))))))))
    else
    (some (.inl (.inr (.inr (.inr (.inr (.inr (.inr (.inr (.inr (.inl ((x3, x4, (tm_wr (s0 + s1)), x6, q4.2))))))))))))))
  | .inr (.inr (.inr (.inl ((x3, x4, x5, x6, x7, x8, h))))) =>
    if x7 = 3 then
    ((fX8_place a1 a2 x6 2 h).bind fun q8 =>
    if 0 < q8.1 then
    (some (.inl (.inr (.inr (.inr (.inr (.inl ((x3, x4, x5, x6, x7, x8, q8.2)))))))))
    else
    (some (.inl (.inr (.inr (.inr (.inr (.inr (.inr (.inr (.inr (.inl ((x3, x4, x5, x6, q8.2))))))))))))))
    else
    (some (.inl (.inr (.inr (.inr (.inr (.inl ((x3, x4, x5, x6, x7, x8, h)))))))))
  | .inr (.inr (.inr (.inr (.inl ((x3, x4, x5, x6, x7, x8, h)))))) =>
    if x7 = 4 then
    ((fX8_term a1 x4 5 h).bind fun q9 =>
    if q9.1 = 1 then
    (some (.inl (.inr (.inr (.inr (.inr (.inr (.inl ((x3, x4, x5, x6, x7, x8, q9.2))))))))))
    else
    (some (.inl (.inr (.inr (.inr (.inr (.inr (.inr (.inr (.inr (.inl ((x3, x4, x5, x6, q9.2))))))))))))))
    else
    (some (.inl (.inr (.inr (.inr (.inr (.inr (.inl ((x3, x4, x5, x6, x7, x8, h))))))))))
  | .inr (.inr (.inr (.inr (.inr (.inl ((x3, x4, x5, x6, x7, x8, h))))))) =>
    if x7 = 5 then
    ((fX8_firstUse a1 x4 a2 h).bind fun q10 =>
    if q10.1 < x6 then
    (some (.inl (.inr (.inr (.inr (.inr (.inr (.inr (.inl ((x3, x4, x5, x6, x7, x8, q10.2)))))))))))
    else
    (some (.inl (.inr (.inr (.inr (.inr (.inr (.inr (.inr (.inr (.inl ((x3, x4, x5, x6, q10.2))))))))))))))
    else
    (some (.inl (.inr (.inr (.inr (.inr (.inr (.inr (.inl ((x3, x4, x5, x6, x7, x8, h)))))))))))
  | .inr (.inr (.inr (.inr (.inr (.inr (.inl ((x3, x4, x5, x6, x7, x8, h)))))))) =>
    if x7 = 4 then
    (some (.inl (.inr (.inr (.inr (.inr (.inr (.inr (.inr (.inl ((x3, x4, x5, x6, h))))))))))))
    else
    (if x7 = 5 then
    (some (.inl (.inr (.inr (.inr (.inr (.inr (.inr (.inr (.inl ((x3, x4, x5, x6, h))))))))))))
    else
    (if x7 = 0 then
    (some (.inl (.inr (.inr (.inr (.inr (.inr (.inr (.inr (.inl ((x3, x4, x5, x6, h))))))))))))
    else
    (if x8 = x4 then
    ((fX8_place a1 a2 x6 2 h).bind fun q11 =>
    if 0 < q11.1 then
    (some (.inl (.inr (.inr (.inr (.inr (.inr (.inr (.inr (.inl ((x3, x4, x5, x6, q11.2))))))))))))
    else
    (some (.inl (.inr (.inr (.inr (.inr (.inr (.inr (.inr (.inr (.inl ((x3, x4, x5, x6, q11.2))))))))))))))
    else
    (some (.inl (.inr (.inr (.inr (.inr (.inr (.inr (.inr (.inl ((x3, x4, x5, x6, h)))))))))))))))
  | .inr (.inr (.inr (.inr (.inr (.inr (.inr (.inl ((x3, x4, x5, x6, h))))))))) =>
    some (.inl (.inr (.inr (.inr (.inr (.inr (.inr (.inr (.inr (.inr (.inl ((x3, x4, x5, x6, 1, h)))))))))))))
  | .inr (.inr (.inr (.inr (.inr (.inr (.inr (.inr (.inl ((x3, x4, x5, x6, h)))))))))) =>
    some (.inl (.inr (.inr (.inr (.inr (.inr (.inr (.inr (.inr (.inr (.inl ((x3, x4, x5, x6, 0, h)))))))))))))
  | .inr (.inr (.inr (.inr (.inr (.inr (.inr (.inr (.inr (.inl ((x3, x4, x5, x6, s0, h))))))))))) =>
    some (.inl (.inr (.inl ((s0, x3, x4, x5, (tm_wr (x6 + 1)), h)))))
  | .inr (.inr (.inr (.inr (.inr (.inr (.inr (.inr (.inr (.inr (.inl ((x2, x3, x4, x5, h)))))))))))) =>
    if x2 = 0 then
    (some (.inl (.inr (.inr (.inr (.inr (.inr (.inr (.inr (.inr (.inr (.inr (.inr (.inr (.inr (.inl ((x3, x4, h))))))))))))))))))
    else
    ((fX8_term a1 x4 5 h).bind fun q12 =>
    if q12.1 = 0 then
    ((fX8_firstUse a1 x4 a2 q12.2).bind fun q13 =>
    if q13.1 = ((-99)) then
    (some (.inl (.inr (.inr (.inr (.inr (.inr (.inr (.inr (.inr (.inr (.inr (.inr (.inl ((x3, x4, x5, q13.2))))))))))))))))
    else
    (some (.inl (.inr (.inr (.inr (.inr (.inr (.inr (.inr (.inr (.inr (.inr (.inr (.inr (.inl ((x3, x4, x5, 1, q13.2))))))))))))))))))
    else
    (some (.inl (.inr (.inr (.inr (.inr (.inr (.inr (.inr (.inr (.inr (.inr (.inr (.inl ((x3, x4, x5, q12.2)))))))))))))))))
  | .inr (.inr (.inr (.inr (.inr (.inr (.inr (.inr (.inr (.inr (.inr (.inl ((x3, x4, s0, h))))))))))))) =>
    some (.inl (.inr (.inr (.inr (.inr (.inr (.inr (.inr (.inr (.inr (.inr (.inr (.inr (.inl ((x3, x4, s0, 0, h))))))))))))))))
  | .inr (.inr (.inr (.inr (.inr (.inr (.inr (.inr (.inr (.inr (.inr (.inr (.inl ((x3, x4, s0, s1, h)))))))))))))) =>
    if s0 = s1 then
    (some (.inl (.inr (.inr (.inr (.inr (.inr (.inr (.inr (.inr (.inr (.inr (.inr (.inr (.inr (.inr ((x3, x4, 1, h))))))))))))))))))
    else
    (some (.inl (.inr (.inr (.inr (.inr (.inr (.inr (.inr (.inr (.inr (.inr (.inr (.inr (.inr (.inl ((x3, x4, h))))))))))))))))))
  | .inr (.inr (.inr (.inr (.inr (.inr (.inr (.inr (.inr (.inr (.inr (.inr (.inr (.inl ((x3, x4, h))))))))))))))) =>
    some (.inl (.inr (.inr (.inr (.inr (.inr (.inr (.inr (.inr (.inr (.inr (.inr (.inr (.inr (.inr ((x3, x4, 0, h)))))))))))))))))
  | .inr (.inr (.inr (.inr (.inr (.inr (.inr (.inr (.inr (.inr (.inr (.inr (.inr (.inr ((x3, x4, s0, h))))))))))))))) =>
    some (.inl (.inl ((s0, x3, (tm_wr (x4 + 1)), h))))
noncomputable def fL_areReasons_L11 (a1 : Nat) (a2 : Int) (x2 : Int) (x3 : Int) (x4 : Int) (h : tm_H) : Option (Int × tm_H) := tm_wl (fL_areReasons_S0 a1 a2) (.inl ((x2, x3, x4, h)))
noncomputable def fL_areReasons_L31 (a1 : Nat) (a2 : Int) (x2 : Int) (x3 : Int) (x4 : Int) (x5 : Int) (x6 : Int) (h : tm_H) : Option (Int × tm_H) := tm_wl (fL_areReasons_S0 a1 a2) (.inr (.inl ((x2, x3, x4, x5, x6, h))))
noncomputable def fL_areReasons_L64 (a1 : Nat) (a2 : Int) (x3 : Int) (x4 : Int) (x6 : Int) (x7 : Int) (s0 : Int) (s1 : Int) (h : tm_H) : Option (Int × tm_H) := tm_wl (fL_areReasons_S0 a1 a2) (.inr (.inr (.inl ((x3, x4, x6, x7, s0, s1, h)))))
noncomputable def fL_areReasons_L130 (a1 : Nat) (a2 : Int) (x3 : Int) (x4 : Int) (x5 : Int) (x6 : Int) (x7 : Int) (x8 : Int) (h : tm_H) : Option (Int × tm_H) := tm_wl (fL_areReasons_S0 a1 a2) (.inr (.inr (.inr (.inl ((x3, x4, x5, x6, x7, x8, h))))))
noncomputable def fL_areReasons_L147 (a1 : Nat) (a2 : Int) (x3 : Int) (x4 : Int) (x5 : Int) (x6 : Int) (x7 : Int) (x8 : Int) (h : tm_H) : Option (Int × tm_H) := tm_wl (fL_areReasons_S0 a1 a2) (.inr (.inr (.inr (.inr (.inl ((x3, x4, x5, x6, x7, x8, h)))))))
noncomputable def fL_areReasons_L164 (a1 : Nat) (a2 : Int) (x3 : Int) (x4 : Int) (x5 : Int) (x6 : Int) (x7 : Int) (x8 : Int) (h : tm_H) : Option (Int × tm_H) := tm_wl (fL_areReasons_S0 a1 a2) (.inr (.inr (.inr (.inr (.inr (.inl ((x3, x4, x5, x6, x7, x8, h))))))))
noncomputable def fL_areReasons_L182 (a1 : Nat) (a2 : Int) (x3 : Int) (x4 : Int) (x5 : Int) (x6 : Int) (x7 : Int) (x8 : Int) (h : tm_H) : Option (Int × tm_H) := tm_wl (fL_areReasons_S0 a1 a2) (.inr (.inr (.inr (.inr (.inr (.inr (.inl ((x3, x4, x5, x6, x7, x8, h)))))))))
noncomputable def fL_areReasons_L217 (a1 : Nat) (a2 : Int) (x3 : Int) (x4 : Int) (x5 : Int) (x6 : Int) (h : tm_H) : Option (Int × tm_H) := tm_wl (fL_areReasons_S0 a1 a2) (.inr (.inr (.inr (.inr (.inr (.inr (.inr (.inl ((x3, x4, x5, x6, h))))))))))
noncomputable def fL_areReasons_L221 (a1 : Nat) (a2 : Int) (x3 : Int) (x4 : Int) (x5 : Int) (x6 : Int) (h : tm_H) : Option (Int × tm_H) := tm_wl (fL_areReasons_S0 a1 a2) (.inr (.inr (.inr (.inr (.inr (.inr (.inr (.inr (.inl ((x3, x4, x5, x6, h)))))))))))
noncomputable def fL_areReasons_L222 (a1 : Nat) (a2 : Int) (x3 : Int) (x4 : Int) (x5 : Int) (x6 : Int) (s0 : Int) (h : tm_H) : Option (Int × tm_H) := tm_wl (fL_areReasons_S0 a1 a2) (.inr (.inr (.inr (.inr (.inr (.inr (.inr (.inr (.inr (.inl ((x3, x4, x5, x6, s0, h))))))))))))
noncomputable def fL_areReasons_L229 (a1 : Nat) (a2 : Int) (x2 : Int) (x3 : Int) (x4 : Int) (x5 : Int) (h : tm_H) : Option (Int × tm_H) := tm_wl (fL_areReasons_S0 a1 a2) (.inr (.inr (.inr (.inr (.inr (.inr (.inr (.inr (.inr (.inr (.inl ((x2, x3, x4, x5, h)))))))))))))
noncomputable def fL_areReasons_L261 (a1 : Nat) (a2 : Int) (x3 : Int) (x4 : Int) (s0 : Int) (h : tm_H) : Option (Int × tm_H) := tm_wl (fL_areReasons_S0 a1 a2) (.inr (.inr (.inr (.inr (.inr (.inr (.inr (.inr (.inr (.inr (.inr (.inl ((x3, x4, s0, h))))))))))))))
noncomputable def fL_areReasons_L262 (a1 : Nat) (a2 : Int) (x3 : Int) (x4 : Int) (s0 : Int) (s1 : Int) (h : tm_H) : Option (Int × tm_H) := tm_wl (fL_areReasons_S0 a1 a2) (.inr (.inr (.inr (.inr (.inr (.inr (.inr (.inr (.inr (.inr (.inr (.inr (.inl ((x3, x4, s0, s1, h)))))))))))))))
noncomputable def fL_areReasons_L269 (a1 : Nat) (a2 : Int) (x3 : Int) (x4 : Int) (h : tm_H) : Option (Int × tm_H) := tm_wl (fL_areReasons_S0 a1 a2) (.inr (.inr (.inr (.inr (.inr (.inr (.inr (.inr (.inr (.inr (.inr (.inr (.inr (.inl ((x3, x4, h))))))))))))))))
noncomputable def fL_areReasons_L270 (a1 : Nat) (a2 : Int) (x3 : Int) (x4 : Int) (s0 : Int) (h : tm_H) : Option (Int × tm_H) := tm_wl (fL_areReasons_S0 a1 a2) (.inr (.inr (.inr (.inr (.inr (.inr (.inr (.inr (.inr (.inr (.inr (.inr (.inr (.inr ((x3, x4, s0, h))))))))))))))))
theorem fL_areReasons_L11_eq (a1 : Nat) (a2 : Int) (x2 : Int) (x3 : Int) (x4 : Int) (h : tm_H) : fL_areReasons_L11 a1 a2 x2 x3 x4 h =
    (fX8_count a1 2 h).bind fun q14 =>
    if x4 < q14.1 then
    (if x2 = 0 then
    ((tm_zr x2).bind fun z => some (z, q14.2))
    else
    (fL_areReasons_L31 a1 a2 x2 x3 x4 0 0 q14.2))
    else
    ((tm_zr x2).bind fun z => some (z, q14.2)) := by
  unfold fL_areReasons_L11
  rw [tm_wl_eq]
  simp only [fL_areReasons_S0, tm_go_ite, tm_go_bind, tm_go_inl, tm_go_inr, tm_go_out, tm_go_th]
  try rfl
theorem fL_areReasons_L31_eq (a1 : Nat) (a2 : Int) (x2 : Int) (x3 : Int) (x4 : Int) (x5 : Int) (x6 : Int) (h : tm_H) : fL_areReasons_L31 a1 a2 x2 x3 x4 x5 x6 h =
    if x6 < x3 then
    (if x2 = 0 then
    (fL_areReasons_L229 a1 a2 x2 x3 x4 x5 h)
    else
    ((fX8_why a1 a2 x6 x4 h).bind fun q15 =>
    if q15.1 = 0 then
    (fL_areReasons_L64 a1 a2 x3 x4 x6 q15.1 x5 1 q15.2)
    else
    (fL_areReasons_L64 a1 a2 x3 x4 x6 q15.1 x5 0 q15.2)))
    else
    (fL_areReasons_L229 a1 a2 x2 x3 x4 x5 h) := by
  unfold fL_areReasons_L31
  rw [tm_wl_eq]
  simp only [fL_areReasons_S0, tm_go_ite, tm_go_bind, tm_go_inl, tm_go_inr, tm_go_out, tm_go_th]
  try rfl
theorem fL_areReasons_L64_eq (a1 : Nat) (a2 : Int) (x3 : Int) (x4 : Int) (x6 : Int) (x7 : Int) (s0 : Int) (s1 : Int) (h : tm_H) : fL_areReasons_L64 a1 a2 x3 x4 x6 x7 s0 s1 h =
    (fX8_place a1 a2 x6 1 h).bind fun q16 =>
    if x7 < 0 then
    (fL_areReasons_L221 a1 a2 x3 x4 (tm_wr (s0 + s1)) x6 q16.2)
    else
    (if x7 < 6 then
    (if x7 = 2 then
    (if q16.1 = x4 then
    (fL_areReasons_L221 a1 a2 x3 x4 (tm_wr (s0 + s1)) x6 q16.2)
    else
    ((fX8_place a1 a2 x6 2 q16.2).bind fun q17 =>
    if q17.1 = 0 then
    ((fX8_term a1 q16.1 0 q17.2).bind fun q18 =>
    (fX8_term a1 x4 0 q18.2).bind fun q19 =>
    if q19.1 < q18.1 then
    (fL_areReasons_L130 a1 a2 x3 x4 (tm_wr (s0 + s1)) x6 x7 q16.1 q19.2)
    else
    (fL_areReasons_L221 a1 a2 x3 x4 (tm_wr (s0 + s1)) x6 q19.2))
    else
    (fL_areReasons_L221 a1 a2 x3 x4 (tm_wr (s0 + s1)) x6 q17.2)))
    else
    (fL_areReasons_L130 a1 a2 x3 x4 (tm_wr (s0 + s1)) x6 x7 q16.1 q16.2))
    else
    (fL_areReasons_L221 a1 a2 x3 x4 (tm_wr (s0 + s1)) x6 q16.2)) := by
  unfold fL_areReasons_L64
  rw [tm_wl_eq]
  simp only [fL_areReasons_S0, tm_go_ite, tm_go_bind, tm_go_inl, tm_go_inr, tm_go_out, tm_go_th]
  try rfl
theorem fL_areReasons_L130_eq (a1 : Nat) (a2 : Int) (x3 : Int) (x4 : Int) (x5 : Int) (x6 : Int) (x7 : Int) (x8 : Int) (h : tm_H) : fL_areReasons_L130 a1 a2 x3 x4 x5 x6 x7 x8 h =
    if x7 = 3 then
    ((fX8_place a1 a2 x6 2 h).bind fun q20 =>
    if 0 < q20.1 then
    (fL_areReasons_L147 a1 a2 x3 x4 x5 x6 x7 x8 q20.2)
    else
    (fL_areReasons_L221 a1 a2 x3 x4 x5 x6 q20.2))
    else
    (fL_areReasons_L147 a1 a2 x3 x4 x5 x6 x7 x8 h) := by
  unfold fL_areReasons_L130
  rw [tm_wl_eq]
  simp only [fL_areReasons_S0, tm_go_ite, tm_go_bind, tm_go_inl, tm_go_inr, tm_go_out, tm_go_th]
  try rfl
theorem fL_areReasons_L147_eq (a1 : Nat) (a2 : Int) (x3 : Int) (x4 : Int) (x5 : Int) (x6 : Int) (x7 : Int) (x8 : Int) (h : tm_H) : fL_areReasons_L147 a1 a2 x3 x4 x5 x6 x7 x8 h =
    if x7 = 4 then
    ((fX8_term a1 x4 5 h).bind fun q21 =>
    if q21.1 = 1 then
    (fL_areReasons_L164 a1 a2 x3 x4 x5 x6 x7 x8 q21.2)
    else
    (fL_areReasons_L221 a1 a2 x3 x4 x5 x6 q21.2))
    else
    (fL_areReasons_L164 a1 a2 x3 x4 x5 x6 x7 x8 h) := by
  unfold fL_areReasons_L147
  rw [tm_wl_eq]
  simp only [fL_areReasons_S0, tm_go_ite, tm_go_bind, tm_go_inl, tm_go_inr, tm_go_out, tm_go_th]
  try rfl
theorem fL_areReasons_L164_eq (a1 : Nat) (a2 : Int) (x3 : Int) (x4 : Int) (x5 : Int) (x6 : Int) (x7 : Int) (x8 : Int) (h : tm_H) : fL_areReasons_L164 a1 a2 x3 x4 x5 x6 x7 x8 h =
    if x7 = 5 then
    ((fX8_firstUse a1 x4 a2 h).bind fun q22 =>
    if q22.1 < x6 then
    (fL_areReasons_L182 a1 a2 x3 x4 x5 x6 x7 x8 q22.2)
    else
    (fL_areReasons_L221 a1 a2 x3 x4 x5 x6 q22.2))
    else
    (fL_areReasons_L182 a1 a2 x3 x4 x5 x6 x7 x8 h) := by
  unfold fL_areReasons_L164
  rw [tm_wl_eq]
  simp only [fL_areReasons_S0, tm_go_ite, tm_go_bind, tm_go_inl, tm_go_inr, tm_go_out, tm_go_th]
  try rfl
theorem fL_areReasons_L182_eq (a1 : Nat) (a2 : Int) (x3 : Int) (x4 : Int) (x5 : Int) (x6 : Int) (x7 : Int) (x8 : Int) (h : tm_H) : fL_areReasons_L182 a1 a2 x3 x4 x5 x6 x7 x8 h =
    if x7 = 4 then
    (fL_areReasons_L217 a1 a2 x3 x4 x5 x6 h)
    else
    (if x7 = 5 then
    (fL_areReasons_L217 a1 a2 x3 x4 x5 x6 h)
    else
    (if x7 = 0 then
    (fL_areReasons_L217 a1 a2 x3 x4 x5 x6 h)
    else
    (if x8 = x4 then
    ((fX8_place a1 a2 x6 2 h).bind fun q23 =>
    if 0 < q23.1 then
    (fL_areReasons_L217 a1 a2 x3 x4 x5 x6 q23.2)
    else
    (fL_areReasons_L221 a1 a2 x3 x4 x5 x6 q23.2))
    else
    (fL_areReasons_L217 a1 a2 x3 x4 x5 x6 h)))) := by
  unfold fL_areReasons_L182
  rw [tm_wl_eq]
  simp only [fL_areReasons_S0, tm_go_ite, tm_go_bind, tm_go_inl, tm_go_inr, tm_go_out, tm_go_th]
  try rfl
theorem fL_areReasons_L217_eq (a1 : Nat) (a2 : Int) (x3 : Int) (x4 : Int) (x5 : Int) (x6 : Int) (h : tm_H) : fL_areReasons_L217 a1 a2 x3 x4 x5 x6 h =
    fL_areReasons_L222 a1 a2 x3 x4 x5 x6 1 h := by
  unfold fL_areReasons_L217
  rw [tm_wl_eq]
  simp only [fL_areReasons_S0, tm_go_ite, tm_go_bind, tm_go_inl, tm_go_inr, tm_go_out, tm_go_th]
  try rfl
theorem fL_areReasons_L221_eq (a1 : Nat) (a2 : Int) (x3 : Int) (x4 : Int) (x5 : Int) (x6 : Int) (h : tm_H) : fL_areReasons_L221 a1 a2 x3 x4 x5 x6 h =
    fL_areReasons_L222 a1 a2 x3 x4 x5 x6 0 h := by
  unfold fL_areReasons_L221
  rw [tm_wl_eq]
  simp only [fL_areReasons_S0, tm_go_ite, tm_go_bind, tm_go_inl, tm_go_inr, tm_go_out, tm_go_th]
  try rfl
theorem fL_areReasons_L222_eq (a1 : Nat) (a2 : Int) (x3 : Int) (x4 : Int) (x5 : Int) (x6 : Int) (s0 : Int) (h : tm_H) : fL_areReasons_L222 a1 a2 x3 x4 x5 x6 s0 h =
    fL_areReasons_L31 a1 a2 s0 x3 x4 x5 (tm_wr (x6 + 1)) h := by
  unfold fL_areReasons_L222
  rw [tm_wl_eq]
  simp only [fL_areReasons_S0, tm_go_ite, tm_go_bind, tm_go_inl, tm_go_inr, tm_go_out, tm_go_th]
  try rfl
theorem fL_areReasons_L229_eq (a1 : Nat) (a2 : Int) (x2 : Int) (x3 : Int) (x4 : Int) (x5 : Int) (h : tm_H) : fL_areReasons_L229 a1 a2 x2 x3 x4 x5 h =
    if x2 = 0 then
    (fL_areReasons_L269 a1 a2 x3 x4 h)
    else
    ((fX8_term a1 x4 5 h).bind fun q24 =>
    if q24.1 = 0 then
    ((fX8_firstUse a1 x4 a2 q24.2).bind fun q25 =>
    if q25.1 = ((-99)) then
    (fL_areReasons_L261 a1 a2 x3 x4 x5 q25.2)
    else
    (fL_areReasons_L262 a1 a2 x3 x4 x5 1 q25.2))
    else
    (fL_areReasons_L261 a1 a2 x3 x4 x5 q24.2)) := by
  unfold fL_areReasons_L229
  rw [tm_wl_eq]
  simp only [fL_areReasons_S0, tm_go_ite, tm_go_bind, tm_go_inl, tm_go_inr, tm_go_out, tm_go_th]
  try rfl
theorem fL_areReasons_L261_eq (a1 : Nat) (a2 : Int) (x3 : Int) (x4 : Int) (s0 : Int) (h : tm_H) : fL_areReasons_L261 a1 a2 x3 x4 s0 h =
    fL_areReasons_L262 a1 a2 x3 x4 s0 0 h := by
  unfold fL_areReasons_L261
  rw [tm_wl_eq]
  simp only [fL_areReasons_S0, tm_go_ite, tm_go_bind, tm_go_inl, tm_go_inr, tm_go_out, tm_go_th]
  try rfl
theorem fL_areReasons_L262_eq (a1 : Nat) (a2 : Int) (x3 : Int) (x4 : Int) (s0 : Int) (s1 : Int) (h : tm_H) : fL_areReasons_L262 a1 a2 x3 x4 s0 s1 h =
    if s0 = s1 then
    (fL_areReasons_L270 a1 a2 x3 x4 1 h)
    else
    (fL_areReasons_L269 a1 a2 x3 x4 h) := by
  unfold fL_areReasons_L262
  rw [tm_wl_eq]
  simp only [fL_areReasons_S0, tm_go_ite, tm_go_bind, tm_go_inl, tm_go_inr, tm_go_out, tm_go_th]
  try rfl
theorem fL_areReasons_L269_eq (a1 : Nat) (a2 : Int) (x3 : Int) (x4 : Int) (h : tm_H) : fL_areReasons_L269 a1 a2 x3 x4 h =
    fL_areReasons_L270 a1 a2 x3 x4 0 h := by
  unfold fL_areReasons_L269
  rw [tm_wl_eq]
  simp only [fL_areReasons_S0, tm_go_ite, tm_go_bind, tm_go_inl, tm_go_inr, tm_go_out, tm_go_th]
  try rfl
theorem fL_areReasons_L270_eq (a1 : Nat) (a2 : Int) (x3 : Int) (x4 : Int) (s0 : Int) (h : tm_H) : fL_areReasons_L270 a1 a2 x3 x4 s0 h =
    fL_areReasons_L11 a1 a2 s0 x3 (tm_wr (x4 + 1)) h := by
  unfold fL_areReasons_L270
  rw [tm_wl_eq]
  simp only [fL_areReasons_S0, tm_go_ite, tm_go_bind, tm_go_inl, tm_go_inr, tm_go_out, tm_go_th]
  try rfl
noncomputable def fL_areReasons (a1 : Nat) (a2 : Int) (h : tm_H) : Option (Int × tm_H) :=
  (fL_size a1 a2 h).bind fun q1 =>
  fL_areReasons_L11 a1 a2 1 q1.1 0 q1.2
noncomputable def fL_areBases_L102 (a1 : Nat) (x1 : Int) (x2 : Int) (h : tm_H) : Option (Int × tm_H) :=
  if x2 = 0 then
  (some (0, h))
  else
  ((fX8_count a1 6 h).bind fun q7 =>
  if x1 = q7.1 then
  (some (1, q7.2))
  else
  (some (0, q7.2)))
noncomputable def fL_areBases_S1 (a1 : Nat) (st : (Int × Int × Int × tm_H) ⊕ (Int × Int × Int × tm_H) ⊕ (Int × Int × Int × Int × tm_H) ⊕ (Int × Int × Int × Int × tm_H)) : Option (((Int × Int × Int × tm_H) ⊕ (Int × Int × Int × tm_H) ⊕ (Int × Int × Int × Int × tm_H) ⊕ (Int × Int × Int × Int × tm_H)) ⊕ (Int × tm_H)) := match st with
  | .inl ((x1, x2, x3, h)) =>
    (fX8_count a1 0 h).bind fun q1 =>
    if x3 < q1.1 then
    (if x2 = 0 then
    (tm_out (fL_areBases_L102 a1 x1 x2 q1.2))
    else
    ((fX8_base a1 x3 q1.2).bind fun v2 =>
    if v2 < 0 then
    (some (.inl (.inr (.inl ((x1, x3, v2, q1.2))))))
    else
    ((fX8_base a1 v2 q1.2).bind fun v3 =>
    if v3 = v2 then
    ((fX8_letter a1 x3 0 q1.2).bind fun v4 =>
    if v4 < 97 then
    (some (.inl (.inr (.inl ((x1, x3, v2, q1.2))))))
    else
    ((fX8_letter a1 x3 0 q1.2).bind fun v5 =>
    if 122 < v5 then
    (some (.inl (.inr (.inl ((x1, x3, v2, q1.2))))))
    else
    ((fX8_letter a1 x3 8 q1.2).bind fun v6 =>
    if v6 = ((-99)) then
    (some (.inl (.inr (.inr (.inl ((x1, x3, v2, 1, q1.2)))))))
    else
    (some (.inl (.inr (.inl ((x1, x3, v2, q1.2)))))))))
    else
    (some (.inl (.inr (.inl ((x1, x3, v2, q1.2)))))))))
    else
    (tm_out (fL_areBases_L102 a1 x1 x2 q1.2))
  | .inr (.inl ((x1, x3, x4, h))) =>
    some (.inl (.inr (.inr (.inl ((x1, x3, x4, 0, h))))))
  | .inr (.inr (.inl ((x1, x3, x4, s0, h)))) =>
    if x4 = x3 then
    (some (.inl (.inr (.inr (.inr ((s0, x3, x1, 0, h)))))))
    else
    (some (.inl (.inr (.inr (.inr ((s0, x3, x1, 1, h)))))))
  | .inr (.inr (.inr ((x2, x3, s0, s1, h)))) =>
    some (.inl (.inl (((tm_wr (s0 + s1)), x2, (tm_wr (x3 + 1)), h))))
noncomputable def fL_areBases_L6 (a1 : Nat) (x1 : Int) (x2 : Int) (x3 : Int) (h : tm_H) : Option (Int × tm_H) := tm_wl (fL_areBases_S1 a1) (.inl ((x1, x2, x3, h)))
noncomputable def fL_areBases_L80 (a1 : Nat) (x1 : Int) (x3 : Int) (x4 : Int) (h : tm_H) : Option (Int × tm_H) := tm_wl (fL_areBases_S1 a1) (.inr (.inl ((x1, x3, x4, h))))
noncomputable def fL_areBases_L81 (a1 : Nat) (x1 : Int) (x3 : Int) (x4 : Int) (s0 : Int) (h : tm_H) : Option (Int × tm_H) := tm_wl (fL_areBases_S1 a1) (.inr (.inr (.inl ((x1, x3, x4, s0, h)))))
noncomputable def fL_areBases_L94 (a1 : Nat) (x2 : Int) (x3 : Int) (s0 : Int) (s1 : Int) (h : tm_H) : Option (Int × tm_H) := tm_wl (fL_areBases_S1 a1) (.inr (.inr (.inr ((x2, x3, s0, s1, h)))))
theorem fL_areBases_L6_eq (a1 : Nat) (x1 : Int) (x2 : Int) (x3 : Int) (h : tm_H) : fL_areBases_L6 a1 x1 x2 x3 h =
    (fX8_count a1 0 h).bind fun q8 =>
    if x3 < q8.1 then
    (if x2 = 0 then
    (fL_areBases_L102 a1 x1 x2 q8.2)
    else
    ((fX8_base a1 x3 q8.2).bind fun v9 =>
    if v9 < 0 then
    (fL_areBases_L80 a1 x1 x3 v9 q8.2)
    else
    ((fX8_base a1 v9 q8.2).bind fun v10 =>
    if v10 = v9 then
    ((fX8_letter a1 x3 0 q8.2).bind fun v11 =>
    if v11 < 97 then
    (fL_areBases_L80 a1 x1 x3 v9 q8.2)
    else
    ((fX8_letter a1 x3 0 q8.2).bind fun v12 =>
    if 122 < v12 then
    (fL_areBases_L80 a1 x1 x3 v9 q8.2)
    else
    ((fX8_letter a1 x3 8 q8.2).bind fun v13 =>
    if v13 = ((-99)) then
    (fL_areBases_L81 a1 x1 x3 v9 1 q8.2)
    else
    (fL_areBases_L80 a1 x1 x3 v9 q8.2))))
    else
    (fL_areBases_L80 a1 x1 x3 v9 q8.2))))
    else
    (fL_areBases_L102 a1 x1 x2 q8.2) := by
  unfold fL_areBases_L6
  rw [tm_wl_eq]
  simp only [fL_areBases_S1, tm_go_ite, tm_go_bind, tm_go_inl, tm_go_inr, tm_go_out, tm_go_th]
  try rfl
theorem fL_areBases_L80_eq (a1 : Nat) (x1 : Int) (x3 : Int) (x4 : Int) (h : tm_H) : fL_areBases_L80 a1 x1 x3 x4 h =
    fL_areBases_L81 a1 x1 x3 x4 0 h := by
  unfold fL_areBases_L80
  rw [tm_wl_eq]
  simp only [fL_areBases_S1, tm_go_ite, tm_go_bind, tm_go_inl, tm_go_inr, tm_go_out, tm_go_th]
  try rfl
theorem fL_areBases_L81_eq (a1 : Nat) (x1 : Int) (x3 : Int) (x4 : Int) (s0 : Int) (h : tm_H) : fL_areBases_L81 a1 x1 x3 x4 s0 h =
    if x4 = x3 then
    (fL_areBases_L94 a1 s0 x3 x1 0 h)
    else
    (fL_areBases_L94 a1 s0 x3 x1 1 h) := by
  unfold fL_areBases_L81
  rw [tm_wl_eq]
  simp only [fL_areBases_S1, tm_go_ite, tm_go_bind, tm_go_inl, tm_go_inr, tm_go_out, tm_go_th]
  try rfl
theorem fL_areBases_L94_eq (a1 : Nat) (x2 : Int) (x3 : Int) (s0 : Int) (s1 : Int) (h : tm_H) : fL_areBases_L94 a1 x2 x3 s0 s1 h =
    fL_areBases_L6 a1 (tm_wr (s0 + s1)) x2 (tm_wr (x3 + 1)) h := by
  unfold fL_areBases_L94
  rw [tm_wl_eq]
  simp only [fL_areBases_S1, tm_go_ite, tm_go_bind, tm_go_inl, tm_go_inr, tm_go_out, tm_go_th]
  try rfl
noncomputable def fL_areBases (a1 : Nat) (h : tm_H) : Option (Int × tm_H) :=
  fL_areBases_L6 a1 0 1 0 h
noncomputable def fL_isGain_L140 (a1 : Nat) (a2 : Int) (s0 : Int) (s1 : Int) (h : tm_H) : Option (Int × tm_H) :=
  if s0 = s1 then
  (some (1, h))
  else
  (some (0, h))
noncomputable def fL_isGain_L128 (a1 : Nat) (a2 : Int) (x5 : Int) (s0 : Int) (h : tm_H) : Option (Int × tm_H) :=
  if x5 = ((-2)) then
  (fL_isGain_L140 a1 a2 s0 1 h)
  else
  (fL_isGain_L140 a1 a2 s0 0 h)
noncomputable def fL_isGain_L224 (a1 : Nat) (a2 : Int) (x7 : Int64) (s0 : Int) (s1 : Int) (h : tm_H) : Option (Int × tm_H) :=
  if s0 = s1 then
  ((fL_print a1 h).bind fun q16 =>
  if (tm_lcmp q16.1 x7) = 0 then
  (some (1, q16.2))
  else
  (some (0, q16.2)))
  else
  (some (0, h))
noncomputable def fL_isGain_L201 (a1 : Nat) (a2 : Int) (x7 : Int64) (x9 : Int) (s0 : Int) (h : tm_H) : Option (Int × tm_H) :=
  if s0 = 0 then
  (some (0, h))
  else
  ((fX8_undo a1 h).bind fun q15 =>
  if x9 < 5 then
  (fL_isGain_L224 a1 a2 x7 q15.1 x9 q15.2)
  else
  (fL_isGain_L224 a1 a2 x7 q15.1 4 q15.2))
noncomputable def fL_isGain_L200 (a1 : Nat) (a2 : Int) (x7 : Int64) (x9 : Int) (h : tm_H) : Option (Int × tm_H) :=
  fL_isGain_L201 a1 a2 x7 x9 0 h
noncomputable def fL_isGain_L56 (a1 : Nat) (a2 : Int) (x2 : Int) (x3 : Int) (s0 : Int) (h : tm_H) : Option (Int × tm_H) :=
  (fX8_gain a1 x2 x3 s0 ((-1)) h).bind fun q6 =>
  (fX8_count a1 4 q6.2).bind fun q7 =>
  (fL_print a1 q7.2).bind fun q8 =>
  (fX8_count a1 8 q8.2).bind fun q9 =>
  (fX8_addTerm a1 x2 x3 s0 ((-1)) q9.2).bind fun q10 =>
  if q10.1 < 0 then
  ((fL_print a1 q10.2).bind fun q11 =>
  if (tm_lcmp q11.1 q8.1) = 0 then
  (if q10.1 = ((-2)) then
  (fL_isGain_L128 a1 a2 q6.1 1 q11.2)
  else
  (fL_isGain_L128 a1 a2 q6.1 0 q11.2))
  else
  (some (0, q11.2)))
  else
  (if 0 < q6.1 then
  ((fX8_count a1 4 q10.2).bind fun q12 =>
  if (tm_wr ((tm_wr (q12.1 - q7.1)) + 100)) = q6.1 then
  ((fX8_count a1 2 q12.2).bind fun q13 =>
  if q10.1 = (tm_wr (q13.1 - 1)) then
  ((fX8_gain a1 x2 x3 s0 ((-1)) q13.2).bind fun q14 =>
  if q14.1 = ((-2)) then
  (fL_isGain_L201 a1 a2 q8.1 q9.1 1 q14.2)
  else
  (fL_isGain_L200 a1 a2 q8.1 q9.1 q14.2))
  else
  (fL_isGain_L200 a1 a2 q8.1 q9.1 q13.2))
  else
  (fL_isGain_L200 a1 a2 q8.1 q9.1 q12.2))
  else
  (fL_isGain_L200 a1 a2 q8.1 q9.1 q10.2))
noncomputable def fL_isGain_L44 (a1 : Nat) (a2 : Int) (x2 : Int) (x3 : Int) (h : tm_H) : Option (Int × tm_H) :=
  fL_isGain_L56 a1 a2 x2 x3 ((-1)) h
noncomputable def fL_isGain_L28 (a1 : Nat) (a2 : Int) (x2 : Int) (s0 : Int) (h : tm_H) : Option (Int × tm_H) :=
  if s0 < 0 then
  (fL_isGain_L44 a1 a2 x2 s0 h)
  else
  ((fL_low (tm_shr a2 9) 2 h).bind fun v4 =>
  if v4 = 0 then
  (fL_isGain_L44 a1 a2 x2 s0 h)
  else
  ((fL_low (tm_shr a2 10) 5 h).bind fun v5 =>
  fL_isGain_L56 a1 a2 x2 s0 v5 h))
noncomputable def fL_isGain (a1 : Nat) (a2 : Int) (h : tm_H) : Option (Int × tm_H) :=
  (fL_low a2 5 h).bind fun v1 =>
  (fL_low (tm_shr a2 4) 3 h).bind fun v2 =>
  if v2 = 0 then
  (fL_isGain_L28 a1 a2 v1 ((-1)) h)
  else
  ((fL_low (tm_shr a2 6) 5 h).bind fun v3 =>
  fL_isGain_L28 a1 a2 v1 v3 h)
noncomputable def fL_isGreediest_L143 (a1 : Nat) (x1 : Int) (x2 : Int64) (x5 : Int) (x6 : Int) (h : tm_H) : Option (Int × tm_H) :=
  if x6 = 0 then
  (some (0, h))
  else
  (if x5 = x1 then
  ((fL_print a1 h).bind fun q9 =>
  if (tm_lcmp q9.1 x2) = 0 then
  (some (1, q9.2))
  else
  (some (0, q9.2)))
  else
  (some (0, h)))
noncomputable def fL_isGreediest_S1 (a1 : Nat) (st : (Int × Int64 × Int × Int × Int × Int × tm_H) ⊕ (Int × Int64 × Int × Int × Int × Int × tm_H) ⊕ (Int × Int64 × Int × Int × Int × Int × Int × tm_H) ⊕ (Int × Int64 × Int × Int × Int × Int × tm_H) ⊕ (Int × Int64 × Int × Int × Int × tm_H) ⊕ (Int × Int64 × Int × Int × Int × Int × tm_H)) : Option (((Int × Int64 × Int × Int × Int × Int × tm_H) ⊕ (Int × Int64 × Int × Int × Int × Int × tm_H) ⊕ (Int × Int64 × Int × Int × Int × Int × Int × tm_H) ⊕ (Int × Int64 × Int × Int × Int × Int × tm_H) ⊕ (Int × Int64 × Int × Int × Int × tm_H) ⊕ (Int × Int64 × Int × Int × Int × Int × tm_H)) ⊕ (Int × tm_H)) := match st with
  | .inl ((x1, x2, x4, x5, x6, x7, h)) =>
    (fX8_count a1 2 h).bind fun q4 =>
    if x7 < q4.1 then
    (if x6 = 0 then
    (tm_out (fL_isGreediest_L143 a1 x1 x2 x5 x6 q4.2))
    else
    ((fX8_removeTerm a1 x7 q4.2).bind fun q5 =>
    (fX8_count a1 2 q5.2).bind fun q6 =>
    if q5.1 = q6.1 then
    (some (.inl (.inr (.inl ((x1, x2, x4, x5, x7, 1, q6.2))))))
    else
    (some (.inl (.inr (.inl ((x1, x2, x4, x5, x7, 0, q6.2))))))))
    else
    (tm_out (fL_isGreediest_L143 a1 x1 x2 x5 x6 q4.2))
  | .inr (.inl ((x1, x2, x4, x5, x7, s0, h))) =>
    (fX8_count a1 4 h).bind fun q7 =>
    if x4 < q7.1 then
    (some (.inl (.inr (.inr (.inl ((x1, x2, x4, s0, x7, q7.1, x7, q7.2)))))))
    else
    (some (.inl (.inr (.inr (.inl ((x1, x2, x4, s0, x7, q7.1, x5, q7.2)))))))
  | .inr (.inr (.inl ((x1, x2, x4, x6, x7, x8, s0, h)))) =>
    if x4 < x8 then
    (some (.inl (.inr (.inr (.inr (.inl ((x1, x2, s0, x6, x7, x8, h))))))))
    else
    (some (.inl (.inr (.inr (.inr (.inl ((x1, x2, s0, x6, x7, x4, h))))))))
  | .inr (.inr (.inr (.inl ((x1, x2, x5, x6, x7, s0, h))))) =>
    if x6 = 0 then
    (some (.inl (.inr (.inr (.inr (.inr (.inl ((x1, x2, s0, x5, x7, h)))))))))
    else
    ((fX8_undo a1 h).bind fun q8 =>
    if q8.1 < 0 then
    (some (.inl (.inr (.inr (.inr (.inr (.inl ((x1, x2, s0, x5, x7, q8.2)))))))))
    else
    (some (.inl (.inr (.inr (.inr (.inr (.inr ((x1, x2, s0, x5, x7, 1, q8.2))))))))))
  | .inr (.inr (.inr (.inr (.inl ((x1, x2, x4, x5, x7, h)))))) =>
    some (.inl (.inr (.inr (.inr (.inr (.inr ((x1, x2, x4, x5, x7, 0, h))))))))
  | .inr (.inr (.inr (.inr (.inr ((x1, x2, x4, x5, x7, s0, h)))))) =>
    some (.inl (.inl ((x1, x2, x4, x5, s0, (tm_wr (x7 + 1)), h))))
noncomputable def fL_isGreediest_L43 (a1 : Nat) (x1 : Int) (x2 : Int64) (x4 : Int) (x5 : Int) (x6 : Int) (x7 : Int) (h : tm_H) : Option (Int × tm_H) := tm_wl (fL_isGreediest_S1 a1) (.inl ((x1, x2, x4, x5, x6, x7, h)))
noncomputable def fL_isGreediest_L77 (a1 : Nat) (x1 : Int) (x2 : Int64) (x4 : Int) (x5 : Int) (x7 : Int) (s0 : Int) (h : tm_H) : Option (Int × tm_H) := tm_wl (fL_isGreediest_S1 a1) (.inr (.inl ((x1, x2, x4, x5, x7, s0, h))))
noncomputable def fL_isGreediest_L100 (a1 : Nat) (x1 : Int) (x2 : Int64) (x4 : Int) (x6 : Int) (x7 : Int) (x8 : Int) (s0 : Int) (h : tm_H) : Option (Int × tm_H) := tm_wl (fL_isGreediest_S1 a1) (.inr (.inr (.inl ((x1, x2, x4, x6, x7, x8, s0, h)))))
noncomputable def fL_isGreediest_L116 (a1 : Nat) (x1 : Int) (x2 : Int64) (x5 : Int) (x6 : Int) (x7 : Int) (s0 : Int) (h : tm_H) : Option (Int × tm_H) := tm_wl (fL_isGreediest_S1 a1) (.inr (.inr (.inr (.inl ((x1, x2, x5, x6, x7, s0, h))))))
noncomputable def fL_isGreediest_L134 (a1 : Nat) (x1 : Int) (x2 : Int64) (x4 : Int) (x5 : Int) (x7 : Int) (h : tm_H) : Option (Int × tm_H) := tm_wl (fL_isGreediest_S1 a1) (.inr (.inr (.inr (.inr (.inl ((x1, x2, x4, x5, x7, h)))))))
noncomputable def fL_isGreediest_L135 (a1 : Nat) (x1 : Int) (x2 : Int64) (x4 : Int) (x5 : Int) (x7 : Int) (s0 : Int) (h : tm_H) : Option (Int × tm_H) := tm_wl (fL_isGreediest_S1 a1) (.inr (.inr (.inr (.inr (.inr ((x1, x2, x4, x5, x7, s0, h)))))))
theorem fL_isGreediest_L43_eq (a1 : Nat) (x1 : Int) (x2 : Int64) (x4 : Int) (x5 : Int) (x6 : Int) (x7 : Int) (h : tm_H) : fL_isGreediest_L43 a1 x1 x2 x4 x5 x6 x7 h =
    (fX8_count a1 2 h).bind fun q10 =>
    if x7 < q10.1 then
    (if x6 = 0 then
    (fL_isGreediest_L143 a1 x1 x2 x5 x6 q10.2)
    else
    ((fX8_removeTerm a1 x7 q10.2).bind fun q11 =>
    (fX8_count a1 2 q11.2).bind fun q12 =>
    if q11.1 = q12.1 then
    (fL_isGreediest_L77 a1 x1 x2 x4 x5 x7 1 q12.2)
    else
    (fL_isGreediest_L77 a1 x1 x2 x4 x5 x7 0 q12.2)))
    else
    (fL_isGreediest_L143 a1 x1 x2 x5 x6 q10.2) := by
  unfold fL_isGreediest_L43
  rw [tm_wl_eq]
  simp only [fL_isGreediest_S1, tm_go_ite, tm_go_bind, tm_go_inl, tm_go_inr, tm_go_out, tm_go_th]
  try rfl
theorem fL_isGreediest_L77_eq (a1 : Nat) (x1 : Int) (x2 : Int64) (x4 : Int) (x5 : Int) (x7 : Int) (s0 : Int) (h : tm_H) : fL_isGreediest_L77 a1 x1 x2 x4 x5 x7 s0 h =
    (fX8_count a1 4 h).bind fun q13 =>
    if x4 < q13.1 then
    (fL_isGreediest_L100 a1 x1 x2 x4 s0 x7 q13.1 x7 q13.2)
    else
    (fL_isGreediest_L100 a1 x1 x2 x4 s0 x7 q13.1 x5 q13.2) := by
  unfold fL_isGreediest_L77
  rw [tm_wl_eq]
  simp only [fL_isGreediest_S1, tm_go_ite, tm_go_bind, tm_go_inl, tm_go_inr, tm_go_out, tm_go_th]
  try rfl
theorem fL_isGreediest_L100_eq (a1 : Nat) (x1 : Int) (x2 : Int64) (x4 : Int) (x6 : Int) (x7 : Int) (x8 : Int) (s0 : Int) (h : tm_H) : fL_isGreediest_L100 a1 x1 x2 x4 x6 x7 x8 s0 h =
    if x4 < x8 then
    (fL_isGreediest_L116 a1 x1 x2 s0 x6 x7 x8 h)
    else
    (fL_isGreediest_L116 a1 x1 x2 s0 x6 x7 x4 h) := by
  unfold fL_isGreediest_L100
  rw [tm_wl_eq]
  simp only [fL_isGreediest_S1, tm_go_ite, tm_go_bind, tm_go_inl, tm_go_inr, tm_go_out, tm_go_th]
  try rfl
theorem fL_isGreediest_L116_eq (a1 : Nat) (x1 : Int) (x2 : Int64) (x5 : Int) (x6 : Int) (x7 : Int) (s0 : Int) (h : tm_H) : fL_isGreediest_L116 a1 x1 x2 x5 x6 x7 s0 h =
    if x6 = 0 then
    (fL_isGreediest_L134 a1 x1 x2 s0 x5 x7 h)
    else
    ((fX8_undo a1 h).bind fun q14 =>
    if q14.1 < 0 then
    (fL_isGreediest_L134 a1 x1 x2 s0 x5 x7 q14.2)
    else
    (fL_isGreediest_L135 a1 x1 x2 s0 x5 x7 1 q14.2)) := by
  unfold fL_isGreediest_L116
  rw [tm_wl_eq]
  simp only [fL_isGreediest_S1, tm_go_ite, tm_go_bind, tm_go_inl, tm_go_inr, tm_go_out, tm_go_th]
  try rfl
theorem fL_isGreediest_L134_eq (a1 : Nat) (x1 : Int) (x2 : Int64) (x4 : Int) (x5 : Int) (x7 : Int) (h : tm_H) : fL_isGreediest_L134 a1 x1 x2 x4 x5 x7 h =
    fL_isGreediest_L135 a1 x1 x2 x4 x5 x7 0 h := by
  unfold fL_isGreediest_L134
  rw [tm_wl_eq]
  simp only [fL_isGreediest_S1, tm_go_ite, tm_go_bind, tm_go_inl, tm_go_inr, tm_go_out, tm_go_th]
  try rfl
theorem fL_isGreediest_L135_eq (a1 : Nat) (x1 : Int) (x2 : Int64) (x4 : Int) (x5 : Int) (x7 : Int) (s0 : Int) (h : tm_H) : fL_isGreediest_L135 a1 x1 x2 x4 x5 x7 s0 h =
    fL_isGreediest_L43 a1 x1 x2 x4 x5 s0 (tm_wr (x7 + 1)) h := by
  unfold fL_isGreediest_L135
  rw [tm_wl_eq]
  simp only [fL_isGreediest_S1, tm_go_ite, tm_go_bind, tm_go_inl, tm_go_inr, tm_go_out, tm_go_th]
  try rfl
noncomputable def fL_isGreediest (a1 : Nat) (h : tm_H) : Option (Int × tm_H) :=
  (fX8_greediest a1 h).bind fun q1 =>
  (fX8_count a1 2 q1.2).bind fun q2 =>
  if q2.1 = 0 then
  (if q1.1 = ((-99)) then
  (some (1, q2.2))
  else
  (some (0, q2.2)))
  else
  ((fL_print a1 q2.2).bind fun q3 =>
  fL_isGreediest_L43 a1 q1.1 q3.1 ((-1)) ((-99)) 1 0 q3.2)
noncomputable def fL_acts_L122 (a1 : Nat) (a2 : Int) (a3 : Int) (s0 : Nat) (s1 : Int) (s2 : Int) (h : tm_H) : Option (Int × tm_H) :=
  (fX8_addTerm s0 s1 s2 ((-1)) ((-1)) h).bind fun q49 =>
  some (q49.1, q49.2)
noncomputable def fL_acts (a1 : Nat) (a2 : Int) (a3 : Int) (h : tm_H) : Option (Int × tm_H) :=
  (fL_low a3 2 h).bind fun v1 =>
  (fL_size a1 (tm_wr (v1 * 3)) h).bind fun q2 =>
  (fL_low (tm_shr a3 3) 5 q2.2).bind fun v3 =>
  (fL_low a2 18 q2.2).bind fun v4 =>
  if v4 = 0 then
  ((fL_low (tm_shr a3 6) 2 q2.2).bind fun v5 =>
  if v5 = 0 then
  (fL_acts_L122 a1 a2 a3 a1 v3 ((-1)) q2.2)
  else
  ((fL_low (tm_shr a3 7) 5 q2.2).bind fun v6 =>
  fL_acts_L122 a1 a2 a3 a1 v3 v6 q2.2))
  else
  (if v4 = 1 then
  ((fL_low (tm_shr a3 6) 2 q2.2).bind fun v8 =>
  if v8 = 0 then
  (fL_acts_L122 a1 a2 a3 a1 v3 ((-1)) q2.2)
  else
  ((fL_low (tm_shr a3 7) 5 q2.2).bind fun v9 =>
  fL_acts_L122 a1 a2 a3 a1 v3 v9 q2.2))
  else
  (if v4 = 2 then
  ((fL_low (tm_shr a3 6) 2 q2.2).bind fun v11 =>
  if v11 = 0 then
  (fL_acts_L122 a1 a2 a3 a1 v3 ((-1)) q2.2)
  else
  ((fL_low (tm_shr a3 7) 5 q2.2).bind fun v12 =>
  fL_acts_L122 a1 a2 a3 a1 v3 v12 q2.2))
  else
  (if v4 = 3 then
  ((fL_low (tm_shr a3 2) 13 q2.2).bind fun v14 =>
  (fX8_removeTerm a1 v14 q2.2).bind fun q15 =>
  some (q15.1, q15.2))
  else
  (if v4 = 4 then
  ((fL_low (tm_shr a3 2) 8 q2.2).bind fun v17 =>
  (fL_low a3 2 q2.2).bind fun v18 =>
  (fX8_setQuiet a1 v17 v18 q2.2).bind fun q19 =>
  some (q19.1, q19.2))
  else
  (if v4 = 5 then
  ((fL_low (tm_shr a3 6) 6 q2.2).bind fun v21 =>
  (fX8_setBase a1 v3 v21 q2.2).bind fun q22 =>
  some (q22.1, q22.2))
  else
  (if v4 = 6 then
  ((fL_low (tm_shr a3 6) 6 q2.2).bind fun v24 =>
  (fX8_setBase a1 v3 v24 q2.2).bind fun q25 =>
  some (q25.1, q25.2))
  else
  (if v4 = 7 then
  ((fL_low (tm_shr a3 4) (tm_wr (q2.1 + 1)) q2.2).bind fun v27 =>
  (fL_low (tm_shr a3 4) (tm_wr (q2.1 + 1)) q2.2).bind fun v28 =>
  (fL_low (tm_shr a3 9) 2 q2.2).bind fun v29 =>
  (fX8_delete a1 (tm_wr (v1 * 3)) v27 (tm_wr (v28 + v29)) q2.2).bind fun q30 =>
  some (q30.1, q30.2))
  else
  (if v4 = 8 then
  ((fL_low (tm_shr a3 6) 6 q2.2).bind fun v32 =>
  (fX8_replace a1 v3 v32 q2.2).bind fun q33 =>
  some (q33.1, q33.2))
  else
  (if v4 = 9 then
  ((fL_low a3 6 q2.2).bind fun v35 =>
  (fL_low (tm_shr a3 3) 6 q2.2).bind fun v36 =>
  (fX8_swap a1 v35 v36 q2.2).bind fun q37 =>
  some (q37.1, q37.2))
  else
  (if v4 = 10 then
  ((fL_low a3 2 q2.2).bind fun v39 =>
  (fX8_take a1 v39 q2.2).bind fun q40 =>
  some (q40.1, q40.2))
  else
  (if v4 = 11 then
  ((fL_low a3 2 q2.2).bind fun v42 =>
  (fX8_restore a1 v42 q2.2).bind fun q43 =>
  some (q43.1, q43.2))
  else
  (if v4 = 12 then
  ((fX8_undo a1 q2.2).bind fun q45 =>
  some (q45.1, q45.2))
  else
  ((fL_low (tm_shr a3 4) (tm_wr (q2.1 + 1)) q2.2).bind fun v47 =>
  (fX8_insert a1 (tm_wr (v1 * 3)) v47 v3 q2.2).bind fun q48 =>
  some (q48.1, q48.2))))))))))))))
noncomputable def fL_law_L331 (scr : tm_Xs) (x1 : Nat) (x2 : Int) (h : tm_H) : Option (Int) :=
  if x2 = 0 then
  (some 0)
  else
  ((fL_refused x1 h).bind fun q29 =>
  if q29.1 = 0 then
  (some 0)
  else
  ((fL_areReadings x1 q29.2).bind fun q30 =>
  if q30.1 = 0 then
  (some 0)
  else
  ((fL_areBases x1 q30.2).bind fun q31 =>
  if q31.1 = 0 then
  (some 0)
  else
  (some 1))))
noncomputable def fL_law_S1 (scr : tm_Xs) (st : (Nat × Int × Int × tm_H) ⊕ (Nat × Int × Int × Int × Int64 × Int × tm_H) ⊕ (Nat × Int × Int × Int × Int64 × Int × tm_H) ⊕ (Nat × Int × Int × Int64 × Int × Int × tm_H) ⊕ (Nat × Int × Int × Int64 × Int × Int × Int × tm_H) ⊕ (Nat × Int × Int × Int64 × Int × Int × Int × tm_H) ⊕ (Nat × Int × Int × Int64 × Int × Int × Int × Int × tm_H) ⊕ (Nat × Int × Int × tm_H) ⊕ (Nat × Int × Int × Int × tm_H) ⊕ (Nat × Int × Int × Int × tm_H) ⊕ (Nat × Int × Int × tm_H) ⊕ (Nat × Int × tm_H) ⊕ (Nat × Int × tm_H) ⊕ (Nat × Int × tm_H) ⊕ (Nat × Int × tm_H) ⊕ (Nat × Int × Int × tm_H)) : Option (((Nat × Int × Int × tm_H) ⊕ (Nat × Int × Int × Int × Int64 × Int × tm_H) ⊕ (Nat × Int × Int × Int × Int64 × Int × tm_H) ⊕ (Nat × Int × Int × Int64 × Int × Int × tm_H) ⊕ (Nat × Int × Int × Int64 × Int × Int × Int × tm_H) ⊕ (Nat × Int × Int × Int64 × Int × Int × Int × tm_H) ⊕ (Nat × Int × Int × Int64 × Int × Int × Int × Int × tm_H) ⊕ (Nat × Int × Int × tm_H) ⊕ (Nat × Int × Int × Int × tm_H) ⊕ (Nat × Int × Int × Int × tm_H) ⊕ (Nat × Int × Int × tm_H) ⊕ (Nat × Int × tm_H) ⊕ (Nat × Int × tm_H) ⊕ (Nat × Int × tm_H) ⊕ (Nat × Int × tm_H) ⊕ (Nat × Int × Int × tm_H)) ⊕ (Int)) := match st with
  | .inl ((x1, x2, x3, h)) =>
    if x3 < 50 then
    (if x2 = 0 then
    (tm_out (fL_law_L331 scr x1 x2 h))
    else
    ((fL_cell scr (tm_wr (2 * x3)) h).bind fun v7 =>
    (fL_cell scr (tm_wr ((tm_wr (2 * x3)) + 1)) h).bind fun v8 =>
    (fL_print x1 h).bind fun q9 =>
    (fX8_count x1 8 q9.2).bind fun q10 =>
    if x3 < 10 then
    (some (.inl (.inr (.inl ((x1, x3, v7, v8, q9.1, q10.1, q10.2))))))
    else
    (if x3 < 18 then
    (some (.inl (.inr (.inr (.inl ((x1, x3, v7, v8, q9.1, q10.1, q10.2)))))))
    else
    (if x3 < 23 then
    (some (.inl (.inr (.inl ((x1, x3, v7, v8, q9.1, q10.1, q10.2))))))
    else
    (some (.inl (.inr (.inr (.inl ((x1, x3, v7, v8, q9.1, q10.1, q10.2)))))))))))
    else
    (tm_out (fL_law_L331 scr x1 x2 h))
  | .inr (.inl ((x1, x3, x4, x5, x6, x8, h))) =>
    (fL_low (tm_shr x4 5) 999999 h).bind fun v28 =>
    some (.inl (.inr (.inr (.inr (.inl ((x1, x3, x5, x6, x8, (tm_wr ((tm_wr (18 * v28)) + 13)), h)))))))
  | .inr (.inr (.inl ((x1, x3, x4, x5, x6, x8, h)))) =>
    some (.inl (.inr (.inr (.inr (.inl ((x1, x3, x5, x6, x8, x4, h)))))))
  | .inr (.inr (.inr (.inl ((x1, x3, x5, x6, x8, s0, h))))) =>
    (fL_acts x1 s0 x5 h).bind fun q11 =>
    (fX8_count x1 8 q11.2).bind fun q12 =>
    if q11.1 < 0 then
    (if q11.1 < ((-3)) then
    (some (.inl (.inr (.inr (.inr (.inr (.inr (.inl ((x1, x3, x5, x6, x8, q11.1, q12.1, q12.2))))))))))
    else
    ((fL_print x1 q12.2).bind fun q13 =>
    if (tm_lcmp q13.1 x6) = 0 then
    (if q12.1 = x8 then
    (some (.inl (.inr (.inr (.inr (.inr (.inl ((x1, x3, x5, x6, x8, q11.1, q12.1, q13.2)))))))))
    else
    (some (.inl (.inr (.inr (.inr (.inr (.inr (.inl ((x1, x3, x5, x6, x8, q11.1, q12.1, q13.2)))))))))))
    else
    (some (.inl (.inr (.inr (.inr (.inr (.inr (.inl ((x1, x3, x5, x6, x8, q11.1, q12.1, q13.2))))))))))))
    else
    (some (.inl (.inr (.inr (.inr (.inr (.inl ((x1, x3, x5, x6, x8, q11.1, q12.1, q12.2)))))))))
  | .inr (.inr (.inr (.inr (.inl ((x1, x3, x5, x6, x8, x10, x11, h)))))) =>
    some (.inl (.inr (.inr (.inr (.inr (.inr (.inr (.inl ((x1, x3, x5, x6, x8, x10, x11, 1, h))))))))))
  | .inr (.inr (.inr (.inr (.inr (.inl ((x1, x3, x5, x6, x8, x10, x11, h))))))) =>
    some (.inl (.inr (.inr (.inr (.inr (.inr (.inr (.inl ((x1, x3, x5, x6, x8, x10, x11, 0, h))))))))))
  | .inr (.inr (.inr (.inr (.inr (.inr (.inl ((x1, x3, x5, x6, x8, x10, x11, s0, h)))))))) =>
    if s0 = 0 then
    (some (.inl (.inr (.inr (.inr (.inr (.inr (.inr (.inr (.inr (.inr (.inl ((x1, s0, x3, x5, h))))))))))))))
    else
    (if x10 < 0 then
    (some (.inl (.inr (.inr (.inr (.inr (.inr (.inr (.inr (.inr (.inr (.inl ((x1, s0, x3, x5, h))))))))))))))
    else
    ((tm_rem x3 6).bind fun v14 =>
    if v14 = 5 then
    (if x8 < x11 then
    ((fX8_undo x1 h).bind fun q15 =>
    if q15.1 = x8 then
    ((fL_print x1 q15.2).bind fun q16 =>
    if (tm_lcmp q16.1 x6) = 0 then
    (some (.inl (.inr (.inr (.inr (.inr (.inr (.inr (.inr (.inr (.inl ((x1, x3, x5, 1, q16.2)))))))))))))
    else
    (some (.inl (.inr (.inr (.inr (.inr (.inr (.inr (.inr (.inl ((x1, x3, x5, q16.2)))))))))))))
    else
    (some (.inl (.inr (.inr (.inr (.inr (.inr (.inr (.inr (.inl ((x1, x3, x5, q15.2)))))))))))))
    else
    (some (.inl (.inr (.inr (.inr (.inr (.inr (.inr (.inr (.inr (.inr (.inl ((x1, s0, x3, x5, h)))))))))))))))
    else
    (some (.inl (.inr (.inr (.inr (.inr (.inr (.inr (.inr (.inr (.inr (.inl ((x1, s0, x3, x5, h))))))))))))))))
  | .inr (.inr (.inr (.inr (.inr (.inr (.inr (.inl ((x1, x3, x5, h))))))))) =>
    some (.inl (.inr (.inr (.inr (.inr (.inr (.inr (.inr (.inr (.inl ((x1, x3, x5, 0, h))))))))))))
  | .inr (.inr (.inr (.inr (.inr (.inr (.inr (.inr (.inl ((x1, x3, x5, s0, h)))))))))) =>
    some (.inl (.inr (.inr (.inr (.inr (.inr (.inr (.inr (.inr (.inr (.inl ((x1, s0, x3, x5, h)))))))))))))
  | .inr (.inr (.inr (.inr (.inr (.inr (.inr (.inr (.inr (.inl ((x1, x2, x3, x5, h))))))))))) =>
    if x2 = 0 then
    (some (.inl (.inr (.inr (.inr (.inr (.inr (.inr (.inr (.inr (.inr (.inr (.inr (.inr (.inr (.inr (.inl ((x1, x3, h)))))))))))))))))))
    else
    ((fL_areReadings x1 h).bind fun q17 =>
    if q17.1 = 0 then
    (some (.inl (.inr (.inr (.inr (.inr (.inr (.inr (.inr (.inr (.inr (.inr (.inr (.inr (.inr (.inr (.inl ((x1, x3, q17.2)))))))))))))))))))
    else
    ((tm_rem x3 2).bind fun v18 =>
    (fL_areReasons x1 (tm_wr (3 * v18)) q17.2).bind fun q19 =>
    if q19.1 = 0 then
    (some (.inl (.inr (.inr (.inr (.inr (.inr (.inr (.inr (.inr (.inr (.inr (.inr (.inr (.inr (.inr (.inl ((x1, x3, q19.2)))))))))))))))))))
    else
    ((tm_rem x3 5).bind fun v20 =>
    if v20 = 2 then
    ((fL_areBases x1 q19.2).bind fun q21 =>
    if q21.1 = 0 then
    (some (.inl (.inr (.inr (.inr (.inr (.inr (.inr (.inr (.inr (.inr (.inr (.inr (.inr (.inr (.inr (.inl ((x1, x3, q21.2)))))))))))))))))))
    else
    (some (.inl (.inr (.inr (.inr (.inr (.inr (.inr (.inr (.inr (.inr (.inr (.inl ((x1, x3, x5, q21.2))))))))))))))))
    else
    (some (.inl (.inr (.inr (.inr (.inr (.inr (.inr (.inr (.inr (.inr (.inr (.inl ((x1, x3, x5, q19.2))))))))))))))))))
  | .inr (.inr (.inr (.inr (.inr (.inr (.inr (.inr (.inr (.inr (.inl ((x1, x3, x5, h)))))))))))) =>
    (tm_rem x3 4).bind fun v22 =>
    if v22 = 1 then
    ((fL_isGain x1 (tm_shr x5 1) h).bind fun q23 =>
    if q23.1 = 0 then
    (some (.inl (.inr (.inr (.inr (.inr (.inr (.inr (.inr (.inr (.inr (.inr (.inr (.inr (.inr (.inr (.inl ((x1, x3, q23.2)))))))))))))))))))
    else
    (some (.inl (.inr (.inr (.inr (.inr (.inr (.inr (.inr (.inr (.inr (.inr (.inr (.inl ((x1, x3, q23.2)))))))))))))))))
    else
    (some (.inl (.inr (.inr (.inr (.inr (.inr (.inr (.inr (.inr (.inr (.inr (.inr (.inl ((x1, x3, h))))))))))))))))
  | .inr (.inr (.inr (.inr (.inr (.inr (.inr (.inr (.inr (.inr (.inr (.inl ((x1, x3, h))))))))))))) =>
    (tm_rem x3 9).bind fun v24 =>
    if v24 = 7 then
    ((fL_isGreediest x1 h).bind fun q25 =>
    if q25.1 = 0 then
    (some (.inl (.inr (.inr (.inr (.inr (.inr (.inr (.inr (.inr (.inr (.inr (.inr (.inr (.inr (.inr (.inl ((x1, x3, q25.2)))))))))))))))))))
    else
    (some (.inl (.inr (.inr (.inr (.inr (.inr (.inr (.inr (.inr (.inr (.inr (.inr (.inr (.inl ((x1, x3, q25.2))))))))))))))))))
    else
    (some (.inl (.inr (.inr (.inr (.inr (.inr (.inr (.inr (.inr (.inr (.inr (.inr (.inr (.inl ((x1, x3, h)))))))))))))))))
  | .inr (.inr (.inr (.inr (.inr (.inr (.inr (.inr (.inr (.inr (.inr (.inr (.inl ((x1, x3, h)))))))))))))) =>
    (tm_rem x3 8).bind fun v26 =>
    if v26 = 6 then
    ((fL_refused x1 h).bind fun q27 =>
    if q27.1 = 0 then
    (some (.inl (.inr (.inr (.inr (.inr (.inr (.inr (.inr (.inr (.inr (.inr (.inr (.inr (.inr (.inr (.inl ((x1, x3, q27.2)))))))))))))))))))
    else
    (some (.inl (.inr (.inr (.inr (.inr (.inr (.inr (.inr (.inr (.inr (.inr (.inr (.inr (.inr (.inl ((x1, x3, q27.2)))))))))))))))))))
    else
    (some (.inl (.inr (.inr (.inr (.inr (.inr (.inr (.inr (.inr (.inr (.inr (.inr (.inr (.inr (.inl ((x1, x3, h))))))))))))))))))
  | .inr (.inr (.inr (.inr (.inr (.inr (.inr (.inr (.inr (.inr (.inr (.inr (.inr (.inl ((x1, x3, h))))))))))))))) =>
    some (.inl (.inr (.inr (.inr (.inr (.inr (.inr (.inr (.inr (.inr (.inr (.inr (.inr (.inr (.inr (.inr ((x1, x3, 1, h))))))))))))))))))
  | .inr (.inr (.inr (.inr (.inr (.inr (.inr (.inr (.inr (.inr (.inr (.inr (.inr (.inr (.inl ((x1, x3, h)))))))))))))))) =>
    some (.inl (.inr (.inr (.inr (.inr (.inr (.inr (.inr (.inr (.inr (.inr (.inr (.inr (.inr (.inr (.inr ((x1, x3, 0, h))))))))))))))))))
  | .inr (.inr (.inr (.inr (.inr (.inr (.inr (.inr (.inr (.inr (.inr (.inr (.inr (.inr (.inr ((x1, x3, s0, h)))))))))))))))) =>
    some (.inl (.inl ((x1, s0, (tm_wr (x3 + 1)), h))))
noncomputable def fL_law_L46 (scr : tm_Xs) (x1 : Nat) (x2 : Int) (x3 : Int) (h : tm_H) : Option (Int) := tm_wl (fL_law_S1 scr) (.inl ((x1, x2, x3, h)))
noncomputable def fL_law_L108 (scr : tm_Xs) (x1 : Nat) (x3 : Int) (x4 : Int) (x5 : Int) (x6 : Int64) (x8 : Int) (h : tm_H) : Option (Int) := tm_wl (fL_law_S1 scr) (.inr (.inl ((x1, x3, x4, x5, x6, x8, h))))
noncomputable def fL_law_L126 (scr : tm_Xs) (x1 : Nat) (x3 : Int) (x4 : Int) (x5 : Int) (x6 : Int64) (x8 : Int) (h : tm_H) : Option (Int) := tm_wl (fL_law_S1 scr) (.inr (.inr (.inl ((x1, x3, x4, x5, x6, x8, h)))))
noncomputable def fL_law_L128 (scr : tm_Xs) (x1 : Nat) (x3 : Int) (x5 : Int) (x6 : Int64) (x8 : Int) (s0 : Int) (h : tm_H) : Option (Int) := tm_wl (fL_law_S1 scr) (.inr (.inr (.inr (.inl ((x1, x3, x5, x6, x8, s0, h))))))
noncomputable def fL_law_L177 (scr : tm_Xs) (x1 : Nat) (x3 : Int) (x5 : Int) (x6 : Int64) (x8 : Int) (x10 : Int) (x11 : Int) (h : tm_H) : Option (Int) := tm_wl (fL_law_S1 scr) (.inr (.inr (.inr (.inr (.inl ((x1, x3, x5, x6, x8, x10, x11, h)))))))
noncomputable def fL_law_L181 (scr : tm_Xs) (x1 : Nat) (x3 : Int) (x5 : Int) (x6 : Int64) (x8 : Int) (x10 : Int) (x11 : Int) (h : tm_H) : Option (Int) := tm_wl (fL_law_S1 scr) (.inr (.inr (.inr (.inr (.inr (.inl ((x1, x3, x5, x6, x8, x10, x11, h))))))))
noncomputable def fL_law_L182 (scr : tm_Xs) (x1 : Nat) (x3 : Int) (x5 : Int) (x6 : Int64) (x8 : Int) (x10 : Int) (x11 : Int) (s0 : Int) (h : tm_H) : Option (Int) := tm_wl (fL_law_S1 scr) (.inr (.inr (.inr (.inr (.inr (.inr (.inl ((x1, x3, x5, x6, x8, x10, x11, s0, h)))))))))
noncomputable def fL_law_L230 (scr : tm_Xs) (x1 : Nat) (x3 : Int) (x5 : Int) (h : tm_H) : Option (Int) := tm_wl (fL_law_S1 scr) (.inr (.inr (.inr (.inr (.inr (.inr (.inr (.inl ((x1, x3, x5, h))))))))))
noncomputable def fL_law_L231 (scr : tm_Xs) (x1 : Nat) (x3 : Int) (x5 : Int) (s0 : Int) (h : tm_H) : Option (Int) := tm_wl (fL_law_S1 scr) (.inr (.inr (.inr (.inr (.inr (.inr (.inr (.inr (.inl ((x1, x3, x5, s0, h)))))))))))
noncomputable def fL_law_L232 (scr : tm_Xs) (x1 : Nat) (x2 : Int) (x3 : Int) (x5 : Int) (h : tm_H) : Option (Int) := tm_wl (fL_law_S1 scr) (.inr (.inr (.inr (.inr (.inr (.inr (.inr (.inr (.inr (.inl ((x1, x2, x3, x5, h))))))))))))
noncomputable def fL_law_L269 (scr : tm_Xs) (x1 : Nat) (x3 : Int) (x5 : Int) (h : tm_H) : Option (Int) := tm_wl (fL_law_S1 scr) (.inr (.inr (.inr (.inr (.inr (.inr (.inr (.inr (.inr (.inr (.inl ((x1, x3, x5, h)))))))))))))
noncomputable def fL_law_L287 (scr : tm_Xs) (x1 : Nat) (x3 : Int) (h : tm_H) : Option (Int) := tm_wl (fL_law_S1 scr) (.inr (.inr (.inr (.inr (.inr (.inr (.inr (.inr (.inr (.inr (.inr (.inl ((x1, x3, h))))))))))))))
noncomputable def fL_law_L303 (scr : tm_Xs) (x1 : Nat) (x3 : Int) (h : tm_H) : Option (Int) := tm_wl (fL_law_S1 scr) (.inr (.inr (.inr (.inr (.inr (.inr (.inr (.inr (.inr (.inr (.inr (.inr (.inl ((x1, x3, h)))))))))))))))
noncomputable def fL_law_L319 (scr : tm_Xs) (x1 : Nat) (x3 : Int) (h : tm_H) : Option (Int) := tm_wl (fL_law_S1 scr) (.inr (.inr (.inr (.inr (.inr (.inr (.inr (.inr (.inr (.inr (.inr (.inr (.inr (.inl ((x1, x3, h))))))))))))))))
noncomputable def fL_law_L323 (scr : tm_Xs) (x1 : Nat) (x3 : Int) (h : tm_H) : Option (Int) := tm_wl (fL_law_S1 scr) (.inr (.inr (.inr (.inr (.inr (.inr (.inr (.inr (.inr (.inr (.inr (.inr (.inr (.inr (.inl ((x1, x3, h)))))))))))))))))
noncomputable def fL_law_L324 (scr : tm_Xs) (x1 : Nat) (x3 : Int) (s0 : Int) (h : tm_H) : Option (Int) := tm_wl (fL_law_S1 scr) (.inr (.inr (.inr (.inr (.inr (.inr (.inr (.inr (.inr (.inr (.inr (.inr (.inr (.inr (.inr ((x1, x3, s0, h)))))))))))))))))
theorem fL_law_L46_eq (scr : tm_Xs) (x1 : Nat) (x2 : Int) (x3 : Int) (h : tm_H) : fL_law_L46 scr x1 x2 x3 h =
    if x3 < 50 then
    (if x2 = 0 then
    (fL_law_L331 scr x1 x2 h)
    else
    ((fL_cell scr (tm_wr (2 * x3)) h).bind fun v32 =>
    (fL_cell scr (tm_wr ((tm_wr (2 * x3)) + 1)) h).bind fun v33 =>
    (fL_print x1 h).bind fun q34 =>
    (fX8_count x1 8 q34.2).bind fun q35 =>
    if x3 < 10 then
    (fL_law_L108 scr x1 x3 v32 v33 q34.1 q35.1 q35.2)
    else
    (if x3 < 18 then
    (fL_law_L126 scr x1 x3 v32 v33 q34.1 q35.1 q35.2)
    else
    (if x3 < 23 then
    (fL_law_L108 scr x1 x3 v32 v33 q34.1 q35.1 q35.2)
    else
    (fL_law_L126 scr x1 x3 v32 v33 q34.1 q35.1 q35.2)))))
    else
    (fL_law_L331 scr x1 x2 h) := by
  unfold fL_law_L46
  rw [tm_wl_eq]
  simp only [fL_law_S1, tm_go_ite, tm_go_bind, tm_go_inl, tm_go_inr, tm_go_out, tm_go_th]
  try rfl
theorem fL_law_L108_eq (scr : tm_Xs) (x1 : Nat) (x3 : Int) (x4 : Int) (x5 : Int) (x6 : Int64) (x8 : Int) (h : tm_H) : fL_law_L108 scr x1 x3 x4 x5 x6 x8 h =
    (fL_low (tm_shr x4 5) 999999 h).bind fun v36 =>
    fL_law_L128 scr x1 x3 x5 x6 x8 (tm_wr ((tm_wr (18 * v36)) + 13)) h := by
  unfold fL_law_L108
  rw [tm_wl_eq]
  simp only [fL_law_S1, tm_go_ite, tm_go_bind, tm_go_inl, tm_go_inr, tm_go_out, tm_go_th]
  try rfl
theorem fL_law_L126_eq (scr : tm_Xs) (x1 : Nat) (x3 : Int) (x4 : Int) (x5 : Int) (x6 : Int64) (x8 : Int) (h : tm_H) : fL_law_L126 scr x1 x3 x4 x5 x6 x8 h =
    fL_law_L128 scr x1 x3 x5 x6 x8 x4 h := by
  unfold fL_law_L126
  rw [tm_wl_eq]
  simp only [fL_law_S1, tm_go_ite, tm_go_bind, tm_go_inl, tm_go_inr, tm_go_out, tm_go_th]
  try rfl
theorem fL_law_L128_eq (scr : tm_Xs) (x1 : Nat) (x3 : Int) (x5 : Int) (x6 : Int64) (x8 : Int) (s0 : Int) (h : tm_H) : fL_law_L128 scr x1 x3 x5 x6 x8 s0 h =
    (fL_acts x1 s0 x5 h).bind fun q37 =>
    (fX8_count x1 8 q37.2).bind fun q38 =>
    if q37.1 < 0 then
    (if q37.1 < ((-3)) then
    (fL_law_L181 scr x1 x3 x5 x6 x8 q37.1 q38.1 q38.2)
    else
    ((fL_print x1 q38.2).bind fun q39 =>
    if (tm_lcmp q39.1 x6) = 0 then
    (if q38.1 = x8 then
    (fL_law_L177 scr x1 x3 x5 x6 x8 q37.1 q38.1 q39.2)
    else
    (fL_law_L181 scr x1 x3 x5 x6 x8 q37.1 q38.1 q39.2))
    else
    (fL_law_L181 scr x1 x3 x5 x6 x8 q37.1 q38.1 q39.2)))
    else
    (fL_law_L177 scr x1 x3 x5 x6 x8 q37.1 q38.1 q38.2) := by
  unfold fL_law_L128
  rw [tm_wl_eq]
  simp only [fL_law_S1, tm_go_ite, tm_go_bind, tm_go_inl, tm_go_inr, tm_go_out, tm_go_th]
  try rfl
theorem fL_law_L177_eq (scr : tm_Xs) (x1 : Nat) (x3 : Int) (x5 : Int) (x6 : Int64) (x8 : Int) (x10 : Int) (x11 : Int) (h : tm_H) : fL_law_L177 scr x1 x3 x5 x6 x8 x10 x11 h =
    fL_law_L182 scr x1 x3 x5 x6 x8 x10 x11 1 h := by
  unfold fL_law_L177
  rw [tm_wl_eq]
  simp only [fL_law_S1, tm_go_ite, tm_go_bind, tm_go_inl, tm_go_inr, tm_go_out, tm_go_th]
  try rfl
theorem fL_law_L181_eq (scr : tm_Xs) (x1 : Nat) (x3 : Int) (x5 : Int) (x6 : Int64) (x8 : Int) (x10 : Int) (x11 : Int) (h : tm_H) : fL_law_L181 scr x1 x3 x5 x6 x8 x10 x11 h =
    fL_law_L182 scr x1 x3 x5 x6 x8 x10 x11 0 h := by
  unfold fL_law_L181
  rw [tm_wl_eq]
  simp only [fL_law_S1, tm_go_ite, tm_go_bind, tm_go_inl, tm_go_inr, tm_go_out, tm_go_th]
  try rfl
theorem fL_law_L182_eq (scr : tm_Xs) (x1 : Nat) (x3 : Int) (x5 : Int) (x6 : Int64) (x8 : Int) (x10 : Int) (x11 : Int) (s0 : Int) (h : tm_H) : fL_law_L182 scr x1 x3 x5 x6 x8 x10 x11 s0 h =
    if s0 = 0 then
    (fL_law_L232 scr x1 s0 x3 x5 h)
    else
    (if x10 < 0 then
    (fL_law_L232 scr x1 s0 x3 x5 h)
    else
    ((tm_rem x3 6).bind fun v40 =>
    if v40 = 5 then
    (if x8 < x11 then
    ((fX8_undo x1 h).bind fun q41 =>
    if q41.1 = x8 then
    ((fL_print x1 q41.2).bind fun q42 =>
    if (tm_lcmp q42.1 x6) = 0 then
    (fL_law_L231 scr x1 x3 x5 1 q42.2)
    else
    (fL_law_L230 scr x1 x3 x5 q42.2))
    else
    (fL_law_L230 scr x1 x3 x5 q41.2))
    else
    (fL_law_L232 scr x1 s0 x3 x5 h))
    else
    (fL_law_L232 scr x1 s0 x3 x5 h))) := by
  unfold fL_law_L182
  rw [tm_wl_eq]
  simp only [fL_law_S1, tm_go_ite, tm_go_bind, tm_go_inl, tm_go_inr, tm_go_out, tm_go_th]
  try rfl
theorem fL_law_L230_eq (scr : tm_Xs) (x1 : Nat) (x3 : Int) (x5 : Int) (h : tm_H) : fL_law_L230 scr x1 x3 x5 h =
    fL_law_L231 scr x1 x3 x5 0 h := by
  unfold fL_law_L230
  rw [tm_wl_eq]
  simp only [fL_law_S1, tm_go_ite, tm_go_bind, tm_go_inl, tm_go_inr, tm_go_out, tm_go_th]
  try rfl
theorem fL_law_L231_eq (scr : tm_Xs) (x1 : Nat) (x3 : Int) (x5 : Int) (s0 : Int) (h : tm_H) : fL_law_L231 scr x1 x3 x5 s0 h =
    fL_law_L232 scr x1 s0 x3 x5 h := by
  unfold fL_law_L231
  rw [tm_wl_eq]
  simp only [fL_law_S1, tm_go_ite, tm_go_bind, tm_go_inl, tm_go_inr, tm_go_out, tm_go_th]
  try rfl
theorem fL_law_L232_eq (scr : tm_Xs) (x1 : Nat) (x2 : Int) (x3 : Int) (x5 : Int) (h : tm_H) : fL_law_L232 scr x1 x2 x3 x5 h =
    if x2 = 0 then
    (fL_law_L323 scr x1 x3 h)
    else
    ((fL_areReadings x1 h).bind fun q43 =>
    if q43.1 = 0 then
    (fL_law_L323 scr x1 x3 q43.2)
    else
    ((tm_rem x3 2).bind fun v44 =>
    (fL_areReasons x1 (tm_wr (3 * v44)) q43.2).bind fun q45 =>
    if q45.1 = 0 then
    (fL_law_L323 scr x1 x3 q45.2)
    else
    ((tm_rem x3 5).bind fun v46 =>
    if v46 = 2 then
    ((fL_areBases x1 q45.2).bind fun q47 =>
    if q47.1 = 0 then
    (fL_law_L323 scr x1 x3 q47.2)
    else
    (fL_law_L269 scr x1 x3 x5 q47.2))
    else
    (fL_law_L269 scr x1 x3 x5 q45.2)))) := by
  unfold fL_law_L232
  rw [tm_wl_eq]
  simp only [fL_law_S1, tm_go_ite, tm_go_bind, tm_go_inl, tm_go_inr, tm_go_out, tm_go_th]
  try rfl
theorem fL_law_L269_eq (scr : tm_Xs) (x1 : Nat) (x3 : Int) (x5 : Int) (h : tm_H) : fL_law_L269 scr x1 x3 x5 h =
    (tm_rem x3 4).bind fun v48 =>
    if v48 = 1 then
    ((fL_isGain x1 (tm_shr x5 1) h).bind fun q49 =>
    if q49.1 = 0 then
    (fL_law_L323 scr x1 x3 q49.2)
    else
    (fL_law_L287 scr x1 x3 q49.2))
    else
    (fL_law_L287 scr x1 x3 h) := by
  unfold fL_law_L269
  rw [tm_wl_eq]
  simp only [fL_law_S1, tm_go_ite, tm_go_bind, tm_go_inl, tm_go_inr, tm_go_out, tm_go_th]
  try rfl
theorem fL_law_L287_eq (scr : tm_Xs) (x1 : Nat) (x3 : Int) (h : tm_H) : fL_law_L287 scr x1 x3 h =
    (tm_rem x3 9).bind fun v50 =>
    if v50 = 7 then
    ((fL_isGreediest x1 h).bind fun q51 =>
    if q51.1 = 0 then
    (fL_law_L323 scr x1 x3 q51.2)
    else
    (fL_law_L303 scr x1 x3 q51.2))
    else
    (fL_law_L303 scr x1 x3 h) := by
  unfold fL_law_L287
  rw [tm_wl_eq]
  simp only [fL_law_S1, tm_go_ite, tm_go_bind, tm_go_inl, tm_go_inr, tm_go_out, tm_go_th]
  try rfl
theorem fL_law_L303_eq (scr : tm_Xs) (x1 : Nat) (x3 : Int) (h : tm_H) : fL_law_L303 scr x1 x3 h =
    (tm_rem x3 8).bind fun v52 =>
    if v52 = 6 then
    ((fL_refused x1 h).bind fun q53 =>
    if q53.1 = 0 then
    (fL_law_L323 scr x1 x3 q53.2)
    else
    (fL_law_L319 scr x1 x3 q53.2))
    else
    (fL_law_L319 scr x1 x3 h) := by
  unfold fL_law_L303
  rw [tm_wl_eq]
  simp only [fL_law_S1, tm_go_ite, tm_go_bind, tm_go_inl, tm_go_inr, tm_go_out, tm_go_th]
  try rfl
theorem fL_law_L319_eq (scr : tm_Xs) (x1 : Nat) (x3 : Int) (h : tm_H) : fL_law_L319 scr x1 x3 h =
    fL_law_L324 scr x1 x3 1 h := by
  unfold fL_law_L319
  rw [tm_wl_eq]
  simp only [fL_law_S1, tm_go_ite, tm_go_bind, tm_go_inl, tm_go_inr, tm_go_out, tm_go_th]
  try rfl
theorem fL_law_L323_eq (scr : tm_Xs) (x1 : Nat) (x3 : Int) (h : tm_H) : fL_law_L323 scr x1 x3 h =
    fL_law_L324 scr x1 x3 0 h := by
  unfold fL_law_L323
  rw [tm_wl_eq]
  simp only [fL_law_S1, tm_go_ite, tm_go_bind, tm_go_inl, tm_go_inr, tm_go_out, tm_go_th]
  try rfl
theorem fL_law_L324_eq (scr : tm_Xs) (x1 : Nat) (x3 : Int) (s0 : Int) (h : tm_H) : fL_law_L324 scr x1 x3 s0 h =
    fL_law_L46 scr x1 s0 (tm_wr (x3 + 1)) h := by
  unfold fL_law_L324
  rw [tm_wl_eq]
  simp only [fL_law_S1, tm_go_ite, tm_go_bind, tm_go_inl, tm_go_inr, tm_go_out, tm_go_th]
  try rfl
noncomputable def fL_law_L43 (scr : tm_Xs) (x1 : Nat) (s0 : Int) (h : tm_H) : Option (Int) :=
  fL_law_L46 scr x1 s0 0 h
noncomputable def fL_law_L42 (scr : tm_Xs) (x1 : Nat) (h : tm_H) : Option (Int) :=
  fL_law_L43 scr x1 0 h
noncomputable def fL_law (scr : tm_Xs) (h : tm_H) (n : Nat) : Option (Int) :=
  (tm_nw h n (.inl (8, [.inr none, .inr none, .inr none, .inr none, .inr none, .inr none]))).bind fun h1 =>
  (fX8_init n h1 (n + 1)).bind fun q2 =>
  (fX8_undo n q2.1).bind fun q3 =>
  if q3.1 = ((-2)) then
  ((fL_refused n q3.2).bind fun q4 =>
  if q4.1 = 0 then
  (fL_law_L42 scr n q4.2)
  else
  ((fL_areReadings n q4.2).bind fun q5 =>
  if q5.1 = 0 then
  (fL_law_L42 scr n q5.2)
  else
  ((fL_areBases n q5.2).bind fun q6 =>
  if q6.1 = 0 then
  (fL_law_L42 scr n q6.2)
  else
  (fL_law_L43 scr n 1 q6.2))))
  else
  (fL_law_L42 scr n q3.2)
