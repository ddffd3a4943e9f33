noncomputable def fX0_init (this : Nat) (h : tm_H) (n : Nat) : Option (tm_H × Nat) :=
  tm_th h 0 this (
    (tm_nm h n 6 40).bind fun h1 =>
    (tm_sF h1 0 0 this (.inr (some n))).bind fun h2 =>
    (tm_nw h2 (n + 7) (.inr (0, 6, .inl (fun _ => 0)))).bind fun h3 =>
    (tm_sF h3 0 1 this (.inr (some (n + 7)))).bind fun h4 =>
    some (h4, n + 8))
noncomputable def fX0_has (this : Nat) (a1 : Int) (h : tm_H) : Option (Int) :=
  tm_th h 0 this (
    if a1 < 0 then
    (some 0)
    else
    (if a1 < 6 then
    (some 1)
    else
    (some 0)))
noncomputable def fX0_hasPlace (this : Nat) (a1 : Int) (a2 : Int) (h : tm_H) : Option (Int) :=
  tm_th h 0 this (
    if a1 < 0 then
    (some 0)
    else
    (if a1 < 6 then
    (if a2 < 0 then
    (some 0)
    else
    ((tm_gR h 0 1 this).bind fun r1 =>
    (tm_lI h 0 r1 a1).bind fun v2 =>
    if a2 < v2 then
    (some 1)
    else
    (some 0)))
    else
    (some 0)))
noncomputable def fX0_lengthOf (this : Nat) (a1 : Int) (h : tm_H) : Option (Int) :=
  tm_th h 0 this (
    if a1 < 0 then
    (some 0)
    else
    (if a1 < 6 then
    ((tm_gR h 0 1 this).bind fun r1 =>
    (tm_lI h 0 r1 a1).bind fun v2 =>
    some v2)
    else
    (some 0)))
noncomputable def fX0_wordAt (this : Nat) (a1 : Int) (a2 : Int) (h : tm_H) : Option (Int) :=
  tm_th h 0 this (
    if a1 < 0 then
    (some ((-99)))
    else
    (if a1 < 6 then
    (if a2 < 0 then
    (some ((-99)))
    else
    ((tm_gR h 0 1 this).bind fun r1 =>
    (tm_lI h 0 r1 a1).bind fun v2 =>
    if a2 < v2 then
    ((tm_gR h 0 0 this).bind fun r3 =>
    (tm_lR h 5 r3 a1).bind fun r4 =>
    (tm_lI h 0 r4 a2).bind fun v5 =>
    some v5)
    else
    (some ((-99)))))
    else
    (some ((-99)))))
noncomputable def fX0_put_S0 (this : Nat) (a1 : Int) (a2 : Int) (a3 : Int) (st : (Nat × Int × tm_H)) : Option (((Nat × Int × tm_H)) ⊕ (tm_H)) := match st with
  | (x4, x5, h) =>
    if a2 < x5 then
    ((tm_lI h 0 x4 (tm_wr (x5 - 1))).bind fun v10 =>
    (tm_wI h 0 x4 x5 v10).bind fun h11 =>
    some (.inl ((x4, (tm_wr (x5 + (-1))), h11))))
    else
    ((tm_wI h 0 x4 a2 a3).bind fun h12 =>
    (tm_gR h12 0 1 this).bind fun r13 =>
    (tm_lI h12 0 r13 a1).bind fun v14 =>
    (tm_wI h12 0 r13 a1 (tm_wr (v14 + 1))).bind fun h15 =>
    some (.inr h15))
noncomputable def fX0_put_L50 (this : Nat) (a1 : Int) (a2 : Int) (a3 : Int) (x4 : Nat) (x5 : Int) (h : tm_H) : Option (tm_H) := tm_wl (fX0_put_S0 this a1 a2 a3) ((x4, x5, h))
theorem fX0_put_L50_eq (this : Nat) (a1 : Int) (a2 : Int) (a3 : Int) (x4 : Nat) (x5 : Int) (h : tm_H) : fX0_put_L50 this a1 a2 a3 x4 x5 h =
    if a2 < x5 then
    ((tm_lI h 0 x4 (tm_wr (x5 - 1))).bind fun v16 =>
    (tm_wI h 0 x4 x5 v16).bind fun h17 =>
    fX0_put_L50 this a1 a2 a3 x4 (tm_wr (x5 + (-1))) h17)
    else
    ((tm_wI h 0 x4 a2 a3).bind fun h18 =>
    (tm_gR h18 0 1 this).bind fun r19 =>
    (tm_lI h18 0 r19 a1).bind fun v20 =>
    (tm_wI h18 0 r19 a1 (tm_wr (v20 + 1))).bind fun h21 =>
    some h21) := by
  unfold fX0_put_L50
  rw [tm_wl_eq]
  simp only [fX0_put_S0, tm_go_ite, tm_go_bind, tm_go_inl, tm_go_inr, tm_go_out, tm_go_th]
  try rfl
noncomputable def fX0_put (this : Nat) (a1 : Int) (a2 : Int) (a3 : Int) (h : tm_H) : Option (tm_H) :=
  tm_th h 0 this (
    (fX0_has this a1 h).bind fun v1 =>
    if v1 = 0 then
    (some h)
    else
    (if a2 < 0 then
    (some h)
    else
    ((tm_gR h 0 1 this).bind fun r2 =>
    (tm_lI h 0 r2 a1).bind fun v3 =>
    if v3 < a2 then
    (some h)
    else
    ((tm_gR h 0 1 this).bind fun r4 =>
    (tm_lI h 0 r4 a1).bind fun v5 =>
    if v5 < 40 then
    ((tm_gR h 0 0 this).bind fun r6 =>
    (tm_lR h 5 r6 a1).bind fun r7 =>
    (tm_gR h 0 1 this).bind fun r8 =>
    (tm_lI h 0 r8 a1).bind fun v9 =>
    fX0_put_L50 this a1 a2 a3 r7 v9 h)
    else
    (some h)))))
noncomputable def fX0_cut_S0 (this : Nat) (a1 : Int) (a2 : Int) (a3 : Int) (st : (Nat × Int × Int × tm_H)) : Option (((Nat × Int × Int × tm_H)) ⊕ (tm_H)) := match st with
  | (x4, x5, x6, h) =>
    (tm_gR h 0 1 this).bind fun r5 =>
    (tm_lI h 0 r5 a1).bind fun v6 =>
    if x6 < v6 then
    ((tm_lI h 0 x4 x6).bind fun v7 =>
    (tm_wI h 0 x4 (tm_wr (x6 - x5)) v7).bind fun h8 =>
    some (.inl ((x4, x5, (tm_wr (x6 + 1)), h8))))
    else
    ((tm_gR h 0 1 this).bind fun r9 =>
    (tm_lI h 0 r9 a1).bind fun v10 =>
    (tm_wI h 0 r9 a1 (tm_wr (v10 - x5))).bind fun h11 =>
    some (.inr h11))
noncomputable def fX0_cut_L44 (this : Nat) (a1 : Int) (a2 : Int) (a3 : Int) (x4 : Nat) (x5 : Int) (x6 : Int) (h : tm_H) : Option (tm_H) := tm_wl (fX0_cut_S0 this a1 a2 a3) ((x4, x5, x6, h))
theorem fX0_cut_L44_eq (this : Nat) (a1 : Int) (a2 : Int) (a3 : Int) (x4 : Nat) (x5 : Int) (x6 : Int) (h : tm_H) : fX0_cut_L44 this a1 a2 a3 x4 x5 x6 h =
    (tm_gR h 0 1 this).bind fun r12 =>
    (tm_lI h 0 r12 a1).bind fun v13 =>
    if x6 < v13 then
    ((tm_lI h 0 x4 x6).bind fun v14 =>
    (tm_wI h 0 x4 (tm_wr (x6 - x5)) v14).bind fun h15 =>
    fX0_cut_L44 this a1 a2 a3 x4 x5 (tm_wr (x6 + 1)) h15)
    else
    ((tm_gR h 0 1 this).bind fun r16 =>
    (tm_lI h 0 r16 a1).bind fun v17 =>
    (tm_wI h 0 r16 a1 (tm_wr (v17 - x5))).bind fun h18 =>
    some h18) := by
  unfold fX0_cut_L44
  rw [tm_wl_eq]
  simp only [fX0_cut_S0, tm_go_ite, tm_go_bind, tm_go_inl, tm_go_inr, tm_go_out, tm_go_th]
  try rfl
noncomputable def fX0_cut (this : Nat) (a1 : Int) (a2 : Int) (a3 : Int) (h : tm_H) : Option (tm_H) :=
  tm_th h 0 this (
    (fX0_hasPlace this a1 a2 h).bind fun v1 =>
    if v1 = 0 then
    (some h)
    else
    ((fX0_hasPlace this a1 a3 h).bind fun v2 =>
    if v2 = 0 then
    (some h)
    else
    (if a3 < a2 then
    (some h)
    else
    ((tm_gR h 0 0 this).bind fun r3 =>
    (tm_lR h 5 r3 a1).bind fun r4 =>
    fX0_cut_L44 this a1 a2 a3 r4 (tm_wr ((tm_wr (a3 - a2)) + 1)) (tm_wr (a3 + 1)) h))))
noncomputable def fX0_empty (this : Nat) (a1 : Int) (h : tm_H) : Option (tm_H) :=
  tm_th h 0 this (
    (fX0_has this a1 h).bind fun v1 =>
    if v1 = 0 then
    (some h)
    else
    ((tm_gR h 0 1 this).bind fun r2 =>
    (tm_wI h 0 r2 a1 0).bind fun h3 =>
    some h3))
noncomputable def fX0_exchange_S0 (this : Nat) (a1 : Int) (a2 : Int) (st : (Int × Int × tm_H) ⊕ (Int × Int × Int × tm_H) ⊕ (Int × Int × Int × tm_H)) : Option (((Int × Int × tm_H) ⊕ (Int × Int × Int × tm_H) ⊕ (Int × Int × Int × tm_H)) ⊕ (Int × tm_H)) := match st with
  | .inl ((x3, x4, h)) =>
    if x4 < 6 then
    (some (.inl (.inr (.inl ((x3, x4, 0, h))))))
    else
    (some (.inr (x3, h)))
  | .inr (.inl ((x3, x4, x5, h))) =>
    (tm_gR h 0 1 this).bind fun r1 =>
    (tm_lI h 0 r1 x4).bind fun v2 =>
    if x5 < v2 then
    ((tm_gR h 0 0 this).bind fun r3 =>
    (tm_lR h 5 r3 x4).bind fun r4 =>
    (tm_lI h 0 r4 x5).bind fun v5 =>
    if v5 = a1 then
    ((tm_gR h 0 0 this).bind fun r6 =>
    (tm_lR h 5 r6 x4).bind fun r7 =>
    (tm_wI h 0 r7 x5 a2).bind fun h8 =>
    some (.inl (.inr (.inr (((tm_wr (x3 + 1)), x4, x5, h8))))))
    else
    (some (.inl (.inr (.inr ((x3, x4, x5, h)))))))
    else
    (some (.inl (.inl ((x3, (tm_wr (x4 + 1)), h)))))
  | .inr (.inr ((x3, x4, x5, h))) =>
    some (.inl (.inr (.inl ((x3, x4, (tm_wr (x5 + 1)), h)))))
noncomputable def fX0_exchange_L5 (this : Nat) (a1 : Int) (a2 : Int) (x3 : Int) (x4 : Int) (h : tm_H) : Option (Int × tm_H) := tm_wl (fX0_exchange_S0 this a1 a2) (.inl ((x3, x4, h)))
noncomputable def fX0_exchange_L15 (this : Nat) (a1 : Int) (a2 : Int) (x3 : Int) (x4 : Int) (x5 : Int) (h : tm_H) : Option (Int × tm_H) := tm_wl (fX0_exchange_S0 this a1 a2) (.inr (.inl ((x3, x4, x5, h))))
noncomputable def fX0_exchange_L55 (this : Nat) (a1 : Int) (a2 : Int) (x3 : Int) (x4 : Int) (x5 : Int) (h : tm_H) : Option (Int × tm_H) := tm_wl (fX0_exchange_S0 this a1 a2) (.inr (.inr ((x3, x4, x5, h))))
theorem fX0_exchange_L5_eq (this : Nat) (a1 : Int) (a2 : Int) (x3 : Int) (x4 : Int) (h : tm_H) : fX0_exchange_L5 this a1 a2 x3 x4 h =
    if x4 < 6 then
    (fX0_exchange_L15 this a1 a2 x3 x4 0 h)
    else
    (some (x3, h)) := by
  unfold fX0_exchange_L5
  rw [tm_wl_eq]
  simp only [fX0_exchange_S0, tm_go_ite, tm_go_bind, tm_go_inl, tm_go_inr, tm_go_out, tm_go_th]
  try rfl
theorem fX0_exchange_L15_eq (this : Nat) (a1 : Int) (a2 : Int) (x3 : Int) (x4 : Int) (x5 : Int) (h : tm_H) : fX0_exchange_L15 this a1 a2 x3 x4 x5 h =
    (tm_gR h 0 1 this).bind fun r9 =>
    (tm_lI h 0 r9 x4).bind fun v10 =>
    if x5 < v10 then
    ((tm_gR h 0 0 this).bind fun r11 =>
    (tm_lR h 5 r11 x4).bind fun r12 =>
    (tm_lI h 0 r12 x5).bind fun v13 =>
    if v13 = a1 then
    ((tm_gR h 0 0 this).bind fun r14 =>
    (tm_lR h 5 r14 x4).bind fun r15 =>
    (tm_wI h 0 r15 x5 a2).bind fun h16 =>
    fX0_exchange_L55 this a1 a2 (tm_wr (x3 + 1)) x4 x5 h16)
    else
    (fX0_exchange_L55 this a1 a2 x3 x4 x5 h))
    else
    (fX0_exchange_L5 this a1 a2 x3 (tm_wr (x4 + 1)) h) := by
  unfold fX0_exchange_L15
  rw [tm_wl_eq]
  simp only [fX0_exchange_S0, tm_go_ite, tm_go_bind, tm_go_inl, tm_go_inr, tm_go_out, tm_go_th]
  try rfl
theorem fX0_exchange_L55_eq (this : Nat) (a1 : Int) (a2 : Int) (x3 : Int) (x4 : Int) (x5 : Int) (h : tm_H) : fX0_exchange_L55 this a1 a2 x3 x4 x5 h =
    fX0_exchange_L15 this a1 a2 x3 x4 (tm_wr (x5 + 1)) h := by
  unfold fX0_exchange_L55
  rw [tm_wl_eq]
  simp only [fX0_exchange_S0, tm_go_ite, tm_go_bind, tm_go_inl, tm_go_inr, tm_go_out, tm_go_th]
  try rfl
noncomputable def fX0_exchange (this : Nat) (a1 : Int) (a2 : Int) (h : tm_H) : Option (Int × tm_H) :=
  tm_th h 0 this (
    fX0_exchange_L5 this a1 a2 0 0 h)
noncomputable def fX0_trade (this : Nat) (a1 : Int) (a2 : Int) (h : tm_H) : Option (tm_H) :=
  tm_th h 0 this (
    (fX0_has this a1 h).bind fun v1 =>
    if v1 = 0 then
    (some h)
    else
    ((fX0_has this a2 h).bind fun v2 =>
    if v2 = 0 then
    (some h)
    else
    ((tm_gR h 0 0 this).bind fun r3 =>
    (tm_lR h 5 r3 a1).bind fun r4 =>
    (tm_gR h 0 0 this).bind fun r5 =>
    (tm_gR h 0 0 this).bind fun r6 =>
    (tm_lR h 5 r6 a2).bind fun r7 =>
    (tm_wR h 5 r5 a1 100 r7).bind fun h8 =>
    (tm_gR h8 0 0 this).bind fun r9 =>
    (tm_wR h8 5 r9 a2 100 r4).bind fun h10 =>
    (tm_gR h10 0 1 this).bind fun r11 =>
    (tm_lI h10 0 r11 a1).bind fun v12 =>
    (tm_gR h10 0 1 this).bind fun r13 =>
    (tm_gR h10 0 1 this).bind fun r14 =>
    (tm_lI h10 0 r14 a2).bind fun v15 =>
    (tm_wI h10 0 r13 a1 v15).bind fun h16 =>
    (tm_gR h16 0 1 this).bind fun r17 =>
    (tm_wI h16 0 r17 a2 v12).bind fun h18 =>
    some h18)))
noncomputable def fX0_total_S0 (this : Nat) (h : tm_H) (st : (Int × Int)) : Option (((Int × Int)) ⊕ (Int)) := match st with
  | (x1, x2) =>
    if x2 < 6 then
    ((tm_gR h 0 1 this).bind fun r1 =>
    (tm_lI h 0 r1 x2).bind fun v2 =>
    some (.inl (((tm_wr (x1 + v2)), (tm_wr (x2 + 1))))))
    else
    (some (.inr x1))
noncomputable def fX0_total_L4 (this : Nat) (h : tm_H) (x1 : Int) (x2 : Int) : Option (Int) := tm_wl (fX0_total_S0 this h) ((x1, x2))
theorem fX0_total_L4_eq (this : Nat) (h : tm_H) (x1 : Int) (x2 : Int) : fX0_total_L4 this h x1 x2 =
    if x2 < 6 then
    ((tm_gR h 0 1 this).bind fun r3 =>
    (tm_lI h 0 r3 x2).bind fun v4 =>
    fX0_total_L4 this h (tm_wr (x1 + v4)) (tm_wr (x2 + 1)))
    else
    (some x1) := by
  unfold fX0_total_L4
  rw [tm_wl_eq]
  simp only [fX0_total_S0, tm_go_ite, tm_go_bind, tm_go_inl, tm_go_inr, tm_go_out, tm_go_th]
  try rfl
noncomputable def fX0_total (this : Nat) (h : tm_H) : Option (Int) :=
  tm_th h 0 this (
    fX0_total_L4 this h 0 0)
noncomputable def fX0_copyFrom_S0 (this : Nat) (a1 : Nat) (st : (Int × tm_H)) : Option (((Int × tm_H)) ⊕ (tm_H)) := match st with
  | (x2, h) =>
    if x2 < 6 then
    ((tm_gR h 0 0 a1).bind fun r1 =>
    (tm_lR h 5 r1 x2).bind fun r2 =>
    (tm_gR h 0 0 this).bind fun r3 =>
    (tm_lR h 5 r3 x2).bind fun r4 =>
    (tm_cpI h 0 r2 0 r4 0 40).bind fun h5 =>
    some (.inl (((tm_wr (x2 + 1)), h5))))
    else
    ((tm_gR h 0 1 a1).bind fun r6 =>
    (tm_gR h 0 1 this).bind fun r7 =>
    (tm_cpI h 0 r6 0 r7 0 6).bind fun h8 =>
    some (.inr h8))
noncomputable def fX0_copyFrom_L2 (this : Nat) (a1 : Nat) (x2 : Int) (h : tm_H) : Option (tm_H) := tm_wl (fX0_copyFrom_S0 this a1) ((x2, h))
theorem fX0_copyFrom_L2_eq (this : Nat) (a1 : Nat) (x2 : Int) (h : tm_H) : fX0_copyFrom_L2 this a1 x2 h =
    if x2 < 6 then
    ((tm_gR h 0 0 a1).bind fun r9 =>
    (tm_lR h 5 r9 x2).bind fun r10 =>
    (tm_gR h 0 0 this).bind fun r11 =>
    (tm_lR h 5 r11 x2).bind fun r12 =>
    (tm_cpI h 0 r10 0 r12 0 40).bind fun h13 =>
    fX0_copyFrom_L2 this a1 (tm_wr (x2 + 1)) h13)
    else
    ((tm_gR h 0 1 a1).bind fun r14 =>
    (tm_gR h 0 1 this).bind fun r15 =>
    (tm_cpI h 0 r14 0 r15 0 6).bind fun h16 =>
    some h16) := by
  unfold fX0_copyFrom_L2
  rw [tm_wl_eq]
  simp only [fX0_copyFrom_S0, tm_go_ite, tm_go_bind, tm_go_inl, tm_go_inr, tm_go_out, tm_go_th]
  try rfl
noncomputable def fX0_copyFrom (this : Nat) (a1 : Nat) (h : tm_H) : Option (tm_H) :=
  tm_th h 0 this (
    fX0_copyFrom_L2 this a1 0 h)
noncomputable def fX7_add (this : Nat) (a1 : Int64) (h : tm_H) : Option (Int × tm_H) :=
  tm_th h 7 this (
    (tm_gI h 7 2 this).bind fun v1 =>
    if v1 < 60 then
    ((tm_gR h 7 0 this).bind fun r2 =>
    (tm_gI h 7 2 this).bind fun v3 =>
    (tm_wL h 1 r2 v3 a1).bind fun h4 =>
    (tm_gR h4 7 1 this).bind fun r5 =>
    (tm_gI h4 7 2 this).bind fun v6 =>
    (tm_gI h4 7 2 this).bind fun v7 =>
    (tm_wI h4 0 r5 v6 v7).bind fun h8 =>
    (tm_gI h8 7 2 this).bind fun v9 =>
    (tm_sF h8 7 2 this (.inl (tm_wr (v9 + 1)))).bind fun h10 =>
    (tm_gI h10 7 2 this).bind fun v11 =>
    some (tm_wr (v11 - 1), h10))
    else
    (some ((-99), h)))
noncomputable def fX7_init_S0 (this : Nat) (n : Nat) (st : (Int × tm_H)) : Option (((Int × tm_H)) ⊕ (tm_H × Nat)) := match st with
  | (x1, h) =>
    if 122 < x1 then
    (some (.inr (h, n + 2)))
    else
    ((fX7_add this (tm_i2l x1) h).bind fun q6 =>
    some (.inl (((tm_wr (x1 + 1)), q6.2))))
noncomputable def fX7_init_L28 (this : Nat) (n : Nat) (x1 : Int) (h : tm_H) : Option (tm_H × Nat) := tm_wl (fX7_init_S0 this n) ((x1, h))
theorem fX7_init_L28_eq (this : Nat) (n : Nat) (x1 : Int) (h : tm_H) : fX7_init_L28 this n x1 h =
    if 122 < x1 then
    (some (h, n + 2))
    else
    ((fX7_add this (tm_i2l x1) h).bind fun q7 =>
    fX7_init_L28 this n (tm_wr (x1 + 1)) q7.2) := by
  unfold fX7_init_L28
  rw [tm_wl_eq]
  simp only [fX7_init_S0, tm_go_ite, tm_go_bind, tm_go_inl, tm_go_inr, tm_go_out, tm_go_th]
  try rfl
noncomputable def fX7_init (this : Nat) (h : tm_H) (n : Nat) : Option (tm_H × Nat) :=
  tm_th h 7 this (
    (tm_nw h n (.inr (1, 60, .inr (.inl (fun _ => 0))))).bind fun h1 =>
    (tm_sF h1 7 0 this (.inr (some n))).bind fun h2 =>
    (tm_nw h2 (n + 1) (.inr (0, 60, .inl (fun _ => 0)))).bind fun h3 =>
    (tm_sF h3 7 1 this (.inr (some (n + 1)))).bind fun h4 =>
    (tm_sF h4 7 2 this (.inl 0)).bind fun h5 =>
    fX7_init_L28 this n 97 h5)
noncomputable def fX5_init (this : Nat) (h : tm_H) (n : Nat) : Option (tm_H × Nat) :=
  tm_th h 5 this (
    (tm_nm h n 13 4).bind fun h1 =>
    (tm_sF h1 5 0 this (.inr (some n))).bind fun h2 =>
    (tm_nw h2 (n + 14) (.inr (0, 13, .inl (fun _ => 0)))).bind fun h3 =>
    (tm_sF h3 5 1 this (.inr (some (n + 14)))).bind fun h4 =>
    (tm_nw h4 (n + 15) (.inr (2, 13, .inl (fun _ => 0)))).bind fun h5 =>
    (tm_sF h5 5 2 this (.inr (some (n + 15)))).bind fun h6 =>
    (tm_sF h6 5 3 this (.inl 0)).bind fun h7 =>
    some (h7, n + 16))
noncomputable def fX4_init (this : Nat) (h : tm_H) (n : Nat) : Option (tm_H × Nat) :=
  tm_th h 4 this (
    (tm_nw h n (.inl (7, [.inr none, .inr none, .inl 0]))).bind fun h1 =>
    (fX7_init n h1 (n + 1)).bind fun q2 =>
    (tm_sF q2.1 4 0 this (.inr (some n))).bind fun h3 =>
    (tm_nw h3 q2.2 (.inl (0, [.inr none, .inr none]))).bind fun h4 =>
    (fX0_init q2.2 h4 (q2.2 + 1)).bind fun q5 =>
    (tm_sF q5.1 4 1 this (.inr (some q2.2))).bind fun h6 =>
    (tm_nw h6 q5.2 (.inl (5, [.inr none, .inr none, .inr none, .inl 0]))).bind fun h7 =>
    (fX5_init q5.2 h7 (q5.2 + 1)).bind fun q8 =>
    (tm_sF q8.1 4 2 this (.inr (some q5.2))).bind fun h9 =>
    (tm_nw h9 q8.2 (.inr (3, 2, .inr (.inr (fun _ => none))))).bind fun h10 =>
    (tm_sF h10 4 3 this (.inr (some q8.2))).bind fun h11 =>
    (tm_nw h11 (q8.2 + 1) (.inr (2, 2, .inl (fun _ => 0)))).bind fun h12 =>
    (tm_sF h12 4 4 this (.inr (some (q8.2 + 1)))).bind fun h13 =>
    (tm_gR h13 4 3 this).bind fun r14 =>
    (tm_nw h13 (q8.2 + 2) (.inl (0, [.inr none, .inr none]))).bind fun h15 =>
    (fX0_init (q8.2 + 2) h15 (q8.2 + 3)).bind fun q16 =>
    (tm_wR q16.1 3 r14 0 0 (q8.2 + 2)).bind fun h17 =>
    (tm_gR h17 4 3 this).bind fun r18 =>
    (tm_nw h17 q16.2 (.inl (0, [.inr none, .inr none]))).bind fun h19 =>
    (fX0_init q16.2 h19 (q16.2 + 1)).bind fun q20 =>
    (tm_wR q20.1 3 r18 1 0 q16.2).bind fun h21 =>
    some (h21, q20.2))
noncomputable def fX1_init (this : Nat) (h : tm_H) (n : Nat) : Option (tm_H × Nat) :=
  tm_th h 1 this (
    (tm_nw h n (.inr (4, 5, .inr (.inr (fun _ => none))))).bind fun h1 =>
    (tm_sF h1 1 0 this (.inr (some n))).bind fun h2 =>
    (tm_sF h2 1 1 this (.inl 0)).bind fun h3 =>
    (tm_gR h3 1 0 this).bind fun r4 =>
    (tm_nw h3 (n + 1) (.inl (4, [.inr none, .inr none, .inr none, .inr none, .inr none]))).bind fun h5 =>
    (fX4_init (n + 1) h5 (n + 2)).bind fun q6 =>
    (tm_wR q6.1 4 r4 0 4 (n + 1)).bind fun h7 =>
    (tm_gR h7 1 0 this).bind fun r8 =>
    (tm_nw h7 q6.2 (.inl (4, [.inr none, .inr none, .inr none, .inr none, .inr none]))).bind fun h9 =>
    (fX4_init q6.2 h9 (q6.2 + 1)).bind fun q10 =>
    (tm_wR q10.1 4 r8 1 4 q6.2).bind fun h11 =>
    (tm_gR h11 1 0 this).bind fun r12 =>
    (tm_nw h11 q10.2 (.inl (4, [.inr none, .inr none, .inr none, .inr none, .inr none]))).bind fun h13 =>
    (fX4_init q10.2 h13 (q10.2 + 1)).bind fun q14 =>
    (tm_wR q14.1 4 r12 2 4 q10.2).bind fun h15 =>
    (tm_gR h15 1 0 this).bind fun r16 =>
    (tm_nw h15 q14.2 (.inl (4, [.inr none, .inr none, .inr none, .inr none, .inr none]))).bind fun h17 =>
    (fX4_init q14.2 h17 (q14.2 + 1)).bind fun q18 =>
    (tm_wR q18.1 4 r16 3 4 q14.2).bind fun h19 =>
    (tm_gR h19 1 0 this).bind fun r20 =>
    (tm_nw h19 q18.2 (.inl (4, [.inr none, .inr none, .inr none, .inr none, .inr none]))).bind fun h21 =>
    (fX4_init q18.2 h21 (q18.2 + 1)).bind fun q22 =>
    (tm_wR q22.1 4 r20 4 4 q18.2).bind fun h23 =>
    some (h23, q22.2))
noncomputable def fX1_size (this : Nat) (h : tm_H) : Option (Int) :=
  tm_th h 1 this (
    (tm_gI h 1 1 this).bind fun v1 =>
    some v1)
noncomputable def fX1_dropOldest_S0 (this : Nat) (st : (Nat × Int × tm_H)) : Option (((Nat × Int × tm_H)) ⊕ (tm_H)) := match st with
  | (x1, x2, h) =>
    if x2 < 5 then
    ((tm_gR h 1 0 this).bind fun r3 =>
    (tm_gR h 1 0 this).bind fun r4 =>
    (tm_lR h 4 r4 x2).bind fun r5 =>
    (tm_wR h 4 r3 (tm_wr (x2 - 1)) 4 r5).bind fun h6 =>
    some (.inl ((x1, (tm_wr (x2 + 1)), h6))))
    else
    ((tm_gR h 1 0 this).bind fun r7 =>
    (tm_wR h 4 r7 4 4 x1).bind fun h8 =>
    (tm_gI h8 1 1 this).bind fun v9 =>
    (tm_sF h8 1 1 this (.inl (tm_wr (v9 - 1)))).bind fun h10 =>
    some (.inr h10))
noncomputable def fX1_dropOldest_L9 (this : Nat) (x1 : Nat) (x2 : Int) (h : tm_H) : Option (tm_H) := tm_wl (fX1_dropOldest_S0 this) ((x1, x2, h))
theorem fX1_dropOldest_L9_eq (this : Nat) (x1 : Nat) (x2 : Int) (h : tm_H) : fX1_dropOldest_L9 this x1 x2 h =
    if x2 < 5 then
    ((tm_gR h 1 0 this).bind fun r11 =>
    (tm_gR h 1 0 this).bind fun r12 =>
    (tm_lR h 4 r12 x2).bind fun r13 =>
    (tm_wR h 4 r11 (tm_wr (x2 - 1)) 4 r13).bind fun h14 =>
    fX1_dropOldest_L9 this x1 (tm_wr (x2 + 1)) h14)
    else
    ((tm_gR h 1 0 this).bind fun r15 =>
    (tm_wR h 4 r15 4 4 x1).bind fun h16 =>
    (tm_gI h16 1 1 this).bind fun v17 =>
    (tm_sF h16 1 1 this (.inl (tm_wr (v17 - 1)))).bind fun h18 =>
    some h18) := by
  unfold fX1_dropOldest_L9
  rw [tm_wl_eq]
  simp only [fX1_dropOldest_S0, tm_go_ite, tm_go_bind, tm_go_inl, tm_go_inr, tm_go_out, tm_go_th]
  try rfl
noncomputable def fX1_dropOldest (this : Nat) (h : tm_H) : Option (tm_H) :=
  tm_th h 1 this (
    (tm_gR h 1 0 this).bind fun r1 =>
    (tm_lR h 4 r1 0).bind fun r2 =>
    fX1_dropOldest_L9 this r2 1 h)
noncomputable def fX7_copyFrom (this : Nat) (a1 : Nat) (h : tm_H) : Option (tm_H) :=
  tm_th h 7 this (
    (tm_gR h 7 0 a1).bind fun r1 =>
    (tm_gR h 7 0 this).bind fun r2 =>
    (tm_cpL h 1 r1 0 r2 0 60).bind fun h3 =>
    (tm_gR h3 7 1 a1).bind fun r4 =>
    (tm_gR h3 7 1 this).bind fun r5 =>
    (tm_cpI h3 0 r4 0 r5 0 60).bind fun h6 =>
    (tm_gI h6 7 2 a1).bind fun v7 =>
    (tm_sF h6 7 2 this (.inl v7)).bind fun h8 =>
    some h8)
noncomputable def fX5_copyFrom_S0 (this : Nat) (a1 : Nat) (st : (Int × tm_H)) : Option (((Int × tm_H)) ⊕ (tm_H)) := match st with
  | (x2, h) =>
    if x2 < 13 then
    ((tm_gR h 5 0 a1).bind fun r1 =>
    (tm_lR h 5 r1 x2).bind fun r2 =>
    (tm_gR h 5 0 this).bind fun r3 =>
    (tm_lR h 5 r3 x2).bind fun r4 =>
    (tm_cpI h 0 r2 0 r4 0 4).bind fun h5 =>
    (tm_gR h5 5 1 this).bind fun r6 =>
    (tm_gR h5 5 1 a1).bind fun r7 =>
    (tm_lI h5 0 r7 x2).bind fun v8 =>
    (tm_wI h5 0 r6 x2 v8).bind fun h9 =>
    (tm_gR h9 5 2 this).bind fun r10 =>
    (tm_gR h9 5 2 a1).bind fun r11 =>
    (tm_lI h9 2 r11 x2).bind fun v12 =>
    (tm_wZ h9 2 r10 x2 v12).bind fun h13 =>
    some (.inl (((tm_wr (x2 + 1)), h13))))
    else
    ((tm_gI h 5 3 a1).bind fun v14 =>
    (tm_sF h 5 3 this (.inl v14)).bind fun h15 =>
    some (.inr h15))
noncomputable def fX5_copyFrom_L2 (this : Nat) (a1 : Nat) (x2 : Int) (h : tm_H) : Option (tm_H) := tm_wl (fX5_copyFrom_S0 this a1) ((x2, h))
theorem fX5_copyFrom_L2_eq (this : Nat) (a1 : Nat) (x2 : Int) (h : tm_H) : fX5_copyFrom_L2 this a1 x2 h =
    if x2 < 13 then
    ((tm_gR h 5 0 a1).bind fun r16 =>
    (tm_lR h 5 r16 x2).bind fun r17 =>
    (tm_gR h 5 0 this).bind fun r18 =>
    (tm_lR h 5 r18 x2).bind fun r19 =>
    (tm_cpI h 0 r17 0 r19 0 4).bind fun h20 =>
    (tm_gR h20 5 1 this).bind fun r21 =>
    (tm_gR h20 5 1 a1).bind fun r22 =>
    (tm_lI h20 0 r22 x2).bind fun v23 =>
    (tm_wI h20 0 r21 x2 v23).bind fun h24 =>
    (tm_gR h24 5 2 this).bind fun r25 =>
    (tm_gR h24 5 2 a1).bind fun r26 =>
    (tm_lI h24 2 r26 x2).bind fun v27 =>
    (tm_wZ h24 2 r25 x2 v27).bind fun h28 =>
    fX5_copyFrom_L2 this a1 (tm_wr (x2 + 1)) h28)
    else
    ((tm_gI h 5 3 a1).bind fun v29 =>
    (tm_sF h 5 3 this (.inl v29)).bind fun h30 =>
    some h30) := by
  unfold fX5_copyFrom_L2
  rw [tm_wl_eq]
  simp only [fX5_copyFrom_S0, tm_go_ite, tm_go_bind, tm_go_inl, tm_go_inr, tm_go_out, tm_go_th]
  try rfl
noncomputable def fX5_copyFrom (this : Nat) (a1 : Nat) (h : tm_H) : Option (tm_H) :=
  tm_th h 5 this (
    fX5_copyFrom_L2 this a1 0 h)
noncomputable def fX4_copyFrom_S0 (this : Nat) (a1 : Nat) (st : (Int × tm_H)) : Option (((Int × tm_H)) ⊕ (tm_H)) := match st with
  | (x2, h) =>
    if x2 < 2 then
    ((tm_gR h 4 3 this).bind fun r10 =>
    (tm_lR h 3 r10 x2).bind fun r11 =>
    (tm_gR h 4 3 a1).bind fun r12 =>
    (tm_lR h 3 r12 x2).bind fun r13 =>
    (fX0_copyFrom r11 r13 h).bind fun h14 =>
    (tm_gR h14 4 4 this).bind fun r15 =>
    (tm_gR h14 4 4 a1).bind fun r16 =>
    (tm_lI h14 2 r16 x2).bind fun v17 =>
    (tm_wZ h14 2 r15 x2 v17).bind fun h18 =>
    some (.inl (((tm_wr (x2 + 1)), h18))))
    else
    (some (.inr h))
noncomputable def fX4_copyFrom_L35 (this : Nat) (a1 : Nat) (x2 : Int) (h : tm_H) : Option (tm_H) := tm_wl (fX4_copyFrom_S0 this a1) ((x2, h))
theorem fX4_copyFrom_L35_eq (this : Nat) (a1 : Nat) (x2 : Int) (h : tm_H) : fX4_copyFrom_L35 this a1 x2 h =
    if x2 < 2 then
    ((tm_gR h 4 3 this).bind fun r19 =>
    (tm_lR h 3 r19 x2).bind fun r20 =>
    (tm_gR h 4 3 a1).bind fun r21 =>
    (tm_lR h 3 r21 x2).bind fun r22 =>
    (fX0_copyFrom r20 r22 h).bind fun h23 =>
    (tm_gR h23 4 4 this).bind fun r24 =>
    (tm_gR h23 4 4 a1).bind fun r25 =>
    (tm_lI h23 2 r25 x2).bind fun v26 =>
    (tm_wZ h23 2 r24 x2 v26).bind fun h27 =>
    fX4_copyFrom_L35 this a1 (tm_wr (x2 + 1)) h27)
    else
    (some h) := by
  unfold fX4_copyFrom_L35
  rw [tm_wl_eq]
  simp only [fX4_copyFrom_S0, tm_go_ite, tm_go_bind, tm_go_inl, tm_go_inr, tm_go_out, tm_go_th]
  try rfl
noncomputable def fX4_copyFrom (this : Nat) (a1 : Nat) (h : tm_H) : Option (tm_H) :=
  tm_th h 4 this (
    (tm_gR h 4 0 this).bind fun r1 =>
    (tm_gR h 4 0 a1).bind fun r2 =>
    (fX7_copyFrom r1 r2 h).bind fun h3 =>
    (tm_gR h3 4 1 this).bind fun r4 =>
    (tm_gR h3 4 1 a1).bind fun r5 =>
    (fX0_copyFrom r4 r5 h3).bind fun h6 =>
    (tm_gR h6 4 2 this).bind fun r7 =>
    (tm_gR h6 4 2 a1).bind fun r8 =>
    (fX5_copyFrom r7 r8 h6).bind fun h9 =>
    fX4_copyFrom_L35 this a1 0 h9)
noncomputable def fX1_keep_L12 (this : Nat) (a1 : Nat)  (h : tm_H) : Option (tm_H) :=
  (tm_gR h 1 0 this).bind fun r3 =>
  (tm_gI h 1 1 this).bind fun v4 =>
  (tm_lR h 4 r3 v4).bind fun r5 =>
  (fX4_copyFrom r5 a1 h).bind fun h6 =>
  (tm_gI h6 1 1 this).bind fun v7 =>
  (tm_sF h6 1 1 this (.inl (tm_wr (v7 + 1)))).bind fun h8 =>
  some h8
noncomputable def fX1_keep (this : Nat) (a1 : Nat) (h : tm_H) : Option (tm_H) :=
  tm_th h 1 this (
    (tm_gI h 1 1 this).bind fun v1 =>
    if v1 < 5 then
    (fX1_keep_L12 this a1 h)
    else
    ((fX1_dropOldest this h).bind fun h2 =>
    fX1_keep_L12 this a1 h2))
noncomputable def fX1_giveBack (this : Nat) (a1 : Nat) (h : tm_H) : Option (tm_H) :=
  tm_th h 1 this (
    (tm_gI h 1 1 this).bind fun v1 =>
    if 0 < v1 then
    ((tm_gI h 1 1 this).bind fun v2 =>
    (tm_sF h 1 1 this (.inl (tm_wr (v2 - 1)))).bind fun h3 =>
    (tm_gR h3 1 0 this).bind fun r4 =>
    (tm_gI h3 1 1 this).bind fun v5 =>
    (tm_lR h3 4 r4 v5).bind fun r6 =>
    (fX4_copyFrom a1 r6 h3).bind fun h7 =>
    some h7)
    else
    (some h))
noncomputable def fX6_init (this : Nat) (h : tm_H) (n : Nat) : Option (tm_H × Nat) :=
  tm_th h 6 this (
    (tm_nw h n (.inr (0, 140, .inl (fun _ => 0)))).bind fun h1 =>
    (tm_sF h1 6 0 this (.inr (some n))).bind fun h2 =>
    (tm_sF h2 6 1 this (.inl 0)).bind fun h3 =>
    some (h3, n + 1))
noncomputable def fX2_init (this : Nat) (h : tm_H) (n : Nat) : Option (tm_H × Nat) :=
  tm_th h 2 this (
    (tm_nw h n (.inl (6, [.inr none, .inl 0]))).bind fun h1 =>
    (fX6_init n h1 (n + 1)).bind fun q2 =>
    (tm_sF q2.1 2 0 this (.inr (some n))).bind fun h3 =>
    (tm_nw h3 q2.2 (.inl (4, [.inr none, .inr none, .inr none, .inr none, .inr none]))).bind fun h4 =>
    (fX4_init q2.2 h4 (q2.2 + 1)).bind fun q5 =>
    (tm_sF q5.1 2 1 this (.inr (some q2.2))).bind fun h6 =>
    (tm_nw h6 q5.2 (.inr (0, 4, .inl (fun _ => 0)))).bind fun h7 =>
    (tm_sF h7 2 2 this (.inr (some q5.2))).bind fun h8 =>
    (tm_sF h8 2 3 this (.inl 0)).bind fun h9 =>
    (tm_sF h9 2 4 this (.inl 0)).bind fun h10 =>
    some (h10, q5.2 + 1))
noncomputable def fX6_length (this : Nat) (h : tm_H) : Option (Int) :=
  tm_th h 6 this (
    (tm_gI h 6 1 this).bind fun v1 =>
    some v1)
noncomputable def fX6_at (this : Nat) (a1 : Int) (h : tm_H) : Option (Int) :=
  tm_th h 6 this (
    if a1 < 0 then
    (some 0)
    else
    ((tm_gI h 6 1 this).bind fun v1 =>
    if a1 < v1 then
    ((tm_gR h 6 0 this).bind fun r2 =>
    (tm_lI h 0 r2 a1).bind fun v3 =>
    some v3)
    else
    (some 0)))
noncomputable def fX2_isLetter (a1 : Int) (h : tm_H) : Option (Int) :=
  if a1 < 97 then
  (some 0)
  else
  (if 122 < a1 then
  (some 0)
  else
  (some 1))
noncomputable def fX2_step_L103 (this : Nat)  (h : tm_H) : Option (tm_H) :=
  (tm_gI h 2 4 this).bind fun v22 =>
  (tm_gI h 2 3 this).bind fun v23 =>
  if v22 = v23 then
  ((tm_gI h 2 4 this).bind fun v24 =>
  (tm_gR h 2 0 this).bind fun r25 =>
  (fX6_length r25 h).bind fun v26 =>
  if v24 < v26 then
  ((tm_gI h 2 4 this).bind fun v27 =>
  (tm_sF h 2 4 this (.inl (tm_wr (v27 + 1)))).bind fun h28 =>
  some h28)
  else
  (some h))
  else
  (some h)
noncomputable def fX2_step_S1 (this : Nat) (st : (tm_H)) : Option (((tm_H)) ⊕ (tm_H)) := match st with
  | (h) =>
    (tm_gI h 2 4 this).bind fun v13 =>
    (tm_gR h 2 0 this).bind fun r14 =>
    (fX6_length r14 h).bind fun v15 =>
    if v13 < v15 then
    ((tm_gR h 2 0 this).bind fun r16 =>
    (tm_gI h 2 4 this).bind fun v17 =>
    (fX6_at r16 v17 h).bind fun v18 =>
    (fX2_isLetter v18 h).bind fun v19 =>
    if v19 = 0 then
    (tm_out (fX2_step_L103 this h))
    else
    ((tm_gI h 2 4 this).bind fun v20 =>
    (tm_sF h 2 4 this (.inl (tm_wr (v20 + 1)))).bind fun h21 =>
    some (.inl ((h21)))))
    else
    (tm_out (fX2_step_L103 this h))
noncomputable def fX2_step_L59 (this : Nat)  (h : tm_H) : Option (tm_H) := tm_wl (fX2_step_S1 this) ((h))
theorem fX2_step_L59_eq (this : Nat)  (h : tm_H) : fX2_step_L59 this h =
    (tm_gI h 2 4 this).bind fun v29 =>
    (tm_gR h 2 0 this).bind fun r30 =>
    (fX6_length r30 h).bind fun v31 =>
    if v29 < v31 then
    ((tm_gR h 2 0 this).bind fun r32 =>
    (tm_gI h 2 4 this).bind fun v33 =>
    (fX6_at r32 v33 h).bind fun v34 =>
    (fX2_isLetter v34 h).bind fun v35 =>
    if v35 = 0 then
    (fX2_step_L103 this h)
    else
    ((tm_gI h 2 4 this).bind fun v36 =>
    (tm_sF h 2 4 this (.inl (tm_wr (v36 + 1)))).bind fun h37 =>
    fX2_step_L59 this h37))
    else
    (fX2_step_L103 this h) := by
  unfold fX2_step_L59
  rw [tm_wl_eq]
  simp only [fX2_step_S1, tm_go_ite, tm_go_bind, tm_go_inl, tm_go_inr, tm_go_out, tm_go_th]
  try rfl
noncomputable def fX2_step_L51 (this : Nat)  (h : tm_H) : Option (tm_H) :=
  (tm_gI h 2 3 this).bind fun v11 =>
  (tm_sF h 2 4 this (.inl v11)).bind fun h12 =>
  fX2_step_L59 this h12
noncomputable def fX2_step_S3 (this : Nat) (st : (tm_H)) : Option (((tm_H)) ⊕ (tm_H)) := match st with
  | (h) =>
    (tm_gI h 2 3 this).bind fun v3 =>
    (tm_gR h 2 0 this).bind fun r4 =>
    (fX6_length r4 h).bind fun v5 =>
    if v3 < v5 then
    ((tm_gR h 2 0 this).bind fun r6 =>
    (tm_gI h 2 3 this).bind fun v7 =>
    (fX6_at r6 v7 h).bind fun v8 =>
    if v8 = 32 then
    ((tm_gI h 2 3 this).bind fun v9 =>
    (tm_sF h 2 3 this (.inl (tm_wr (v9 + 1)))).bind fun h10 =>
    some (.inl ((h10))))
    else
    (tm_out (fX2_step_L51 this h)))
    else
    (tm_out (fX2_step_L51 this h))
noncomputable def fX2_step_L8 (this : Nat)  (h : tm_H) : Option (tm_H) := tm_wl (fX2_step_S3 this) ((h))
theorem fX2_step_L8_eq (this : Nat)  (h : tm_H) : fX2_step_L8 this h =
    (tm_gI h 2 3 this).bind fun v38 =>
    (tm_gR h 2 0 this).bind fun r39 =>
    (fX6_length r39 h).bind fun v40 =>
    if v38 < v40 then
    ((tm_gR h 2 0 this).bind fun r41 =>
    (tm_gI h 2 3 this).bind fun v42 =>
    (fX6_at r41 v42 h).bind fun v43 =>
    if v43 = 32 then
    ((tm_gI h 2 3 this).bind fun v44 =>
    (tm_sF h 2 3 this (.inl (tm_wr (v44 + 1)))).bind fun h45 =>
    fX2_step_L8 this h45)
    else
    (fX2_step_L51 this h))
    else
    (fX2_step_L51 this h) := by
  unfold fX2_step_L8
  rw [tm_wl_eq]
  simp only [fX2_step_S3, tm_go_ite, tm_go_bind, tm_go_inl, tm_go_inr, tm_go_out, tm_go_th]
  try rfl
noncomputable def fX2_step (this : Nat) (h : tm_H) : Option (tm_H) :=
  tm_th h 2 this (
    (tm_gI h 2 4 this).bind fun v1 =>
    (tm_sF h 2 3 this (.inl v1)).bind fun h2 =>
    fX2_step_L8 this h2)
noncomputable def fX2_isWord_S0 (this : Nat) (a1 : Nat) (h : tm_H) (st : (Int)) : Option (((Int)) ⊕ (Int)) := match st with
  | (x2) =>
    (tm_sl a1).bind fun v4 =>
    if x2 < v4 then
    ((tm_gR h 2 0 this).bind fun r5 =>
    (tm_gI h 2 3 this).bind fun v6 =>
    (fX6_at r5 (tm_wr (v6 + x2)) h).bind fun v7 =>
    (tm_sc a1 x2).bind fun v8 =>
    if v7 = v8 then
    (some (.inl (((tm_wr (x2 + 1))))))
    else
    (some (.inr 0)))
    else
    (some (.inr 1))
noncomputable def fX2_isWord_L20 (this : Nat) (a1 : Nat) (h : tm_H) (x2 : Int) : Option (Int) := tm_wl (fX2_isWord_S0 this a1 h) ((x2))
theorem fX2_isWord_L20_eq (this : Nat) (a1 : Nat) (h : tm_H) (x2 : Int) : fX2_isWord_L20 this a1 h x2 =
    (tm_sl a1).bind fun v9 =>
    if x2 < v9 then
    ((tm_gR h 2 0 this).bind fun r10 =>
    (tm_gI h 2 3 this).bind fun v11 =>
    (fX6_at r10 (tm_wr (v11 + x2)) h).bind fun v12 =>
    (tm_sc a1 x2).bind fun v13 =>
    if v12 = v13 then
    (fX2_isWord_L20 this a1 h (tm_wr (x2 + 1)))
    else
    (some 0))
    else
    (some 1) := by
  unfold fX2_isWord_L20
  rw [tm_wl_eq]
  simp only [fX2_isWord_S0, tm_go_ite, tm_go_bind, tm_go_inl, tm_go_inr, tm_go_out, tm_go_th]
  try rfl
noncomputable def fX2_isWord (this : Nat) (a1 : Nat) (h : tm_H) : Option (Int) :=
  tm_th h 2 this (
    (tm_gI h 2 4 this).bind fun v1 =>
    (tm_gI h 2 3 this).bind fun v2 =>
    (tm_sl a1).bind fun v3 =>
    if (tm_wr (v1 - v2)) = v3 then
    (fX2_isWord_L20 this a1 h 0)
    else
    (some 0))
noncomputable def fX2_pass (this : Nat) (a1 : Int) (h : tm_H) : Option (Int × tm_H) :=
  tm_th h 2 this (
    (tm_gR h 2 0 this).bind fun r1 =>
    (tm_gI h 2 3 this).bind fun v2 =>
    (fX6_at r1 v2 h).bind fun v3 =>
    if v3 = a1 then
    ((fX2_step this h).bind fun h4 =>
    some (1, h4))
    else
    (some (0, h)))
noncomputable def fX2_isRun (this : Nat) (h : tm_H) : Option (Int) :=
  tm_th h 2 this (
    (tm_gR h 2 0 this).bind fun r1 =>
    (tm_gI h 2 3 this).bind fun v2 =>
    (fX6_at r1 v2 h).bind fun v3 =>
    (fX2_isLetter v3 h).bind fun v4 =>
    (tm_zr v4).bind fun z => some z)
noncomputable def fX7_spell (a1 : Int64) (a2 : Int) (a3 : Int) (h : tm_H) : Option (Int64) :=
  some (a1 ||| (tm_lshl (tm_i2l a3) (tm_wr (a2 * 8))))
noncomputable def fX7_find_S0 (this : Nat) (a1 : Int64) (h : tm_H) (st : (Int)) : Option (((Int)) ⊕ (Int)) := match st with
  | (x3) =>
    (tm_gI h 7 2 this).bind fun v1 =>
    if x3 < v1 then
    ((tm_gR h 7 0 this).bind fun r2 =>
    (tm_lL h 1 r2 x3).bind fun j3 =>
    if (tm_lcmp j3 a1) = 0 then
    (some (.inr x3))
    else
    (some (.inl (((tm_wr (x3 + 1)))))))
    else
    (some (.inr ((-99))))
noncomputable def fX7_find_L2 (this : Nat) (a1 : Int64) (h : tm_H) (x3 : Int) : Option (Int) := tm_wl (fX7_find_S0 this a1 h) ((x3))
theorem fX7_find_L2_eq (this : Nat) (a1 : Int64) (h : tm_H) (x3 : Int) : fX7_find_L2 this a1 h x3 =
    (tm_gI h 7 2 this).bind fun v4 =>
    if x3 < v4 then
    ((tm_gR h 7 0 this).bind fun r5 =>
    (tm_lL h 1 r5 x3).bind fun j6 =>
    if (tm_lcmp j6 a1) = 0 then
    (some x3)
    else
    (fX7_find_L2 this a1 h (tm_wr (x3 + 1))))
    else
    (some ((-99))) := by
  unfold fX7_find_L2
  rw [tm_wl_eq]
  simp only [fX7_find_S0, tm_go_ite, tm_go_bind, tm_go_inl, tm_go_inr, tm_go_out, tm_go_th]
  try rfl
noncomputable def fX7_find (this : Nat) (a1 : Int64) (h : tm_H) : Option (Int) :=
  tm_th h 7 this (
    fX7_find_L2 this a1 h 0)
noncomputable def fX2_readWord_L94 (this : Nat) (x3 : Int) (h : tm_H) : Option (Int × tm_H) :=
  if x3 = ((-99)) then
  (some (x3, h))
  else
  ((fX2_step this h).bind fun h16 =>
  some (x3, h16))
noncomputable def fX2_readWord_S1 (this : Nat) (st : (Int64 × Int × tm_H)) : Option (((Int64 × Int × tm_H)) ⊕ (Int × tm_H)) := match st with
  | (x1, x3, h) =>
    (tm_gI h 2 4 this).bind fun v5 =>
    if x3 < v5 then
    ((tm_gI h 2 3 this).bind fun v6 =>
    (tm_gR h 2 0 this).bind fun r7 =>
    (fX6_at r7 x3 h).bind fun v8 =>
    (fX7_spell x1 (tm_wr (x3 - v6)) v8 h).bind fun v9 =>
    some (.inl ((v9, (tm_wr (x3 + 1)), h))))
    else
    ((tm_gR h 2 1 this).bind fun r10 =>
    (tm_gR h 4 0 r10).bind fun r11 =>
    (fX7_find r11 x1 h).bind fun v12 =>
    if v12 = ((-99)) then
    ((tm_gR h 2 1 this).bind fun r13 =>
    (tm_gR h 4 0 r13).bind fun r14 =>
    (fX7_add r14 x1 h).bind fun q15 =>
    tm_out (fX2_readWord_L94 this q15.1 q15.2))
    else
    (tm_out (fX2_readWord_L94 this v12 h)))
noncomputable def fX2_readWord_L31 (this : Nat) (x1 : Int64) (x3 : Int) (h : tm_H) : Option (Int × tm_H) := tm_wl (fX2_readWord_S1 this) ((x1, x3, h))
theorem fX2_readWord_L31_eq (this : Nat) (x1 : Int64) (x3 : Int) (h : tm_H) : fX2_readWord_L31 this x1 x3 h =
    (tm_gI h 2 4 this).bind fun v17 =>
    if x3 < v17 then
    ((tm_gI h 2 3 this).bind fun v18 =>
    (tm_gR h 2 0 this).bind fun r19 =>
    (fX6_at r19 x3 h).bind fun v20 =>
    (fX7_spell x1 (tm_wr (x3 - v18)) v20 h).bind fun v21 =>
    fX2_readWord_L31 this v21 (tm_wr (x3 + 1)) h)
    else
    ((tm_gR h 2 1 this).bind fun r22 =>
    (tm_gR h 4 0 r22).bind fun r23 =>
    (fX7_find r23 x1 h).bind fun v24 =>
    if v24 = ((-99)) then
    ((tm_gR h 2 1 this).bind fun r25 =>
    (tm_gR h 4 0 r25).bind fun r26 =>
    (fX7_add r26 x1 h).bind fun q27 =>
    fX2_readWord_L94 this q27.1 q27.2)
    else
    (fX2_readWord_L94 this v24 h)) := by
  unfold fX2_readWord_L31
  rw [tm_wl_eq]
  simp only [fX2_readWord_S1, tm_go_ite, tm_go_bind, tm_go_inl, tm_go_inr, tm_go_out, tm_go_th]
  try rfl
noncomputable def fX2_readWord (this : Nat) (h : tm_H) : Option (Int × tm_H) :=
  tm_th h 2 this (
    (fX2_isRun this h).bind fun v1 =>
    if v1 = 0 then
    (some ((-99), h))
    else
    ((tm_gI h 2 4 this).bind fun v2 =>
    (tm_gI h 2 3 this).bind fun v3 =>
    if 8 < (tm_wr (v2 - v3)) then
    (some ((-99), h))
    else
    ((tm_gI h 2 3 this).bind fun v4 =>
    fX2_readWord_L31 this 0 v4 h)))
noncomputable def fX2_readChapter_L108 (this : Nat)  (h : tm_H) : Option (Int × tm_H) :=
  (fX2_pass this 59 h).bind fun q18 =>
  (tm_zr q18.1).bind fun z => some (z, q18.2)
noncomputable def fX2_readChapter_S1 (this : Nat) (st : (Int × Int × tm_H)) : Option (((Int × Int × tm_H)) ⊕ (Int × tm_H)) := match st with
  | (x1, x2, h) =>
    if x2 < 40 then
    ((fX2_isRun this h).bind fun v13 =>
    if v13 = 0 then
    (tm_out (fX2_readChapter_L108 this h))
    else
    ((fX2_readWord this h).bind fun q14 =>
    if q14.1 = ((-99)) then
    (some (.inr (0, q14.2)))
    else
    ((tm_gR q14.2 2 1 this).bind fun r15 =>
    (tm_gR q14.2 4 1 r15).bind fun r16 =>
    (fX0_put r16 x1 x2 q14.1 q14.2).bind fun h17 =>
    some (.inl ((x1, (tm_wr (x2 + 1)), h17))))))
    else
    (tm_out (fX2_readChapter_L108 this h))
noncomputable def fX2_readChapter_L63 (this : Nat) (x1 : Int) (x2 : Int) (h : tm_H) : Option (Int × tm_H) := tm_wl (fX2_readChapter_S1 this) ((x1, x2, h))
theorem fX2_readChapter_L63_eq (this : Nat) (x1 : Int) (x2 : Int) (h : tm_H) : fX2_readChapter_L63 this x1 x2 h =
    if x2 < 40 then
    ((fX2_isRun this h).bind fun v19 =>
    if v19 = 0 then
    (fX2_readChapter_L108 this h)
    else
    ((fX2_readWord this h).bind fun q20 =>
    if q20.1 = ((-99)) then
    (some (0, q20.2))
    else
    ((tm_gR q20.2 2 1 this).bind fun r21 =>
    (tm_gR q20.2 4 1 r21).bind fun r22 =>
    (fX0_put r22 x1 x2 q20.1 q20.2).bind fun h23 =>
    fX2_readChapter_L63 this x1 (tm_wr (x2 + 1)) h23)))
    else
    (fX2_readChapter_L108 this h) := by
  unfold fX2_readChapter_L63
  rw [tm_wl_eq]
  simp only [fX2_readChapter_S1, tm_go_ite, tm_go_bind, tm_go_inl, tm_go_inr, tm_go_out, tm_go_th]
  try rfl
noncomputable def fX2_readChapter (this : Nat) (h : tm_H) : Option (Int × tm_H) :=
  tm_th h 2 this (
    (fX2_step this h).bind fun h1 =>
    (tm_gR h1 2 0 this).bind fun r2 =>
    (tm_gI h1 2 3 this).bind fun v3 =>
    (fX6_at r2 v3 h1).bind fun v4 =>
    (tm_gR h1 2 1 this).bind fun r5 =>
    (tm_gR h1 4 1 r5).bind fun r6 =>
    (fX0_has r6 (tm_wr (v4 - 48)) h1).bind fun v7 =>
    if v7 = 0 then
    (some (0, h1))
    else
    ((fX2_step this h1).bind fun h8 =>
    (fX2_pass this 58 h8).bind fun q9 =>
    if q9.1 = 0 then
    (some (0, q9.2))
    else
    ((tm_gR q9.2 2 1 this).bind fun r10 =>
    (tm_gR q9.2 4 1 r10).bind fun r11 =>
    (fX0_empty r11 (tm_wr (v4 - 48)) q9.2).bind fun h12 =>
    fX2_readChapter_L63 this (tm_wr (v4 - 48)) 0 h12)))
noncomputable def fX5_size (this : Nat) (h : tm_H) : Option (Int) :=
  tm_th h 5 this (
    (tm_gI h 5 3 this).bind fun v1 =>
    some v1)
noncomputable def fX7_baseOf (this : Nat) (a1 : Int) (h : tm_H) : Option (Int) :=
  tm_th h 7 this (
    if a1 < 0 then
    (some ((-99)))
    else
    ((tm_gI h 7 2 this).bind fun v1 =>
    if a1 < v1 then
    ((tm_gR h 7 1 this).bind fun r2 =>
    (tm_lI h 0 r2 a1).bind fun v3 =>
    some v3)
    else
    (some ((-99)))))
noncomputable def fX5_sameBases_S0 (a1 : Nat) (a2 : Nat) (a3 : Nat) (a4 : Int) (h : tm_H) (st : (Int)) : Option (((Int)) ⊕ (Int)) := match st with
  | (x4) =>
    if x4 < a4 then
    ((tm_len h 0 a2).bind fun v1 =>
    if x4 < v1 then
    ((tm_len h 0 a3).bind fun v2 =>
    if x4 < v2 then
    ((tm_lI h 0 a2 x4).bind fun v3 =>
    (fX7_baseOf a1 v3 h).bind fun v4 =>
    (tm_lI h 0 a3 x4).bind fun v5 =>
    (fX7_baseOf a1 v5 h).bind fun v6 =>
    if v4 = v6 then
    (some (.inl (((tm_wr (x4 + 1))))))
    else
    (some (.inr 0)))
    else
    (some (.inr 1)))
    else
    (some (.inr 1)))
    else
    (some (.inr 1))
noncomputable def fX5_sameBases_L3 (a1 : Nat) (a2 : Nat) (a3 : Nat) (a4 : Int) (h : tm_H) (x4 : Int) : Option (Int) := tm_wl (fX5_sameBases_S0 a1 a2 a3 a4 h) ((x4))
theorem fX5_sameBases_L3_eq (a1 : Nat) (a2 : Nat) (a3 : Nat) (a4 : Int) (h : tm_H) (x4 : Int) : fX5_sameBases_L3 a1 a2 a3 a4 h x4 =
    if x4 < a4 then
    ((tm_len h 0 a2).bind fun v7 =>
    if x4 < v7 then
    ((tm_len h 0 a3).bind fun v8 =>
    if x4 < v8 then
    ((tm_lI h 0 a2 x4).bind fun v9 =>
    (fX7_baseOf a1 v9 h).bind fun v10 =>
    (tm_lI h 0 a3 x4).bind fun v11 =>
    (fX7_baseOf a1 v11 h).bind fun v12 =>
    if v10 = v12 then
    (fX5_sameBases_L3 a1 a2 a3 a4 h (tm_wr (x4 + 1)))
    else
    (some 0))
    else
    (some 1))
    else
    (some 1))
    else
    (some 1) := by
  unfold fX5_sameBases_L3
  rw [tm_wl_eq]
  simp only [fX5_sameBases_S0, tm_go_ite, tm_go_bind, tm_go_inl, tm_go_inr, tm_go_out, tm_go_th]
  try rfl
noncomputable def fX5_sameBases (a1 : Nat) (a2 : Nat) (a3 : Nat) (a4 : Int) (h : tm_H) : Option (Int) :=
  fX5_sameBases_L3 a1 a2 a3 a4 h 0
noncomputable def fX5_hasLike_S0 (this : Nat) (a1 : Nat) (a2 : Nat) (a3 : Int) (h : tm_H) (st : (Int) ⊕ (Int)) : Option (((Int) ⊕ (Int)) ⊕ (Int)) := match st with
  | .inl ((x4)) =>
    (tm_gI h 5 3 this).bind fun v1 =>
    if x4 < v1 then
    ((tm_gR h 5 1 this).bind fun r2 =>
    (tm_lI h 0 r2 x4).bind fun v3 =>
    if v3 = a3 then
    ((tm_gR h 5 0 this).bind fun r4 =>
    (tm_lR h 5 r4 x4).bind fun r5 =>
    (fX5_sameBases a1 r5 a2 a3 h).bind fun v6 =>
    if v6 = 0 then
    (some (.inl (.inr ((x4)))))
    else
    (some (.inr 1)))
    else
    (some (.inl (.inr ((x4))))))
    else
    (some (.inr 0))
  | .inr ((x4)) =>
    some (.inl (.inl (((tm_wr (x4 + 1))))))
noncomputable def fX5_hasLike_L3 (this : Nat) (a1 : Nat) (a2 : Nat) (a3 : Int) (h : tm_H) (x4 : Int) : Option (Int) := tm_wl (fX5_hasLike_S0 this a1 a2 a3 h) (.inl ((x4)))
noncomputable def fX5_hasLike_L41 (this : Nat) (a1 : Nat) (a2 : Nat) (a3 : Int) (h : tm_H) (x4 : Int) : Option (Int) := tm_wl (fX5_hasLike_S0 this a1 a2 a3 h) (.inr ((x4)))
theorem fX5_hasLike_L3_eq (this : Nat) (a1 : Nat) (a2 : Nat) (a3 : Int) (h : tm_H) (x4 : Int) : fX5_hasLike_L3 this a1 a2 a3 h x4 =
    (tm_gI h 5 3 this).bind fun v7 =>
    if x4 < v7 then
    ((tm_gR h 5 1 this).bind fun r8 =>
    (tm_lI h 0 r8 x4).bind fun v9 =>
    if v9 = a3 then
    ((tm_gR h 5 0 this).bind fun r10 =>
    (tm_lR h 5 r10 x4).bind fun r11 =>
    (fX5_sameBases a1 r11 a2 a3 h).bind fun v12 =>
    if v12 = 0 then
    (fX5_hasLike_L41 this a1 a2 a3 h x4)
    else
    (some 1))
    else
    (fX5_hasLike_L41 this a1 a2 a3 h x4))
    else
    (some 0) := by
  unfold fX5_hasLike_L3
  rw [tm_wl_eq]
  simp only [fX5_hasLike_S0, tm_go_ite, tm_go_bind, tm_go_inl, tm_go_inr, tm_go_out, tm_go_th]
  try rfl
theorem fX5_hasLike_L41_eq (this : Nat) (a1 : Nat) (a2 : Nat) (a3 : Int) (h : tm_H) (x4 : Int) : fX5_hasLike_L41 this a1 a2 a3 h x4 =
    fX5_hasLike_L3 this a1 a2 a3 h (tm_wr (x4 + 1)) := by
  unfold fX5_hasLike_L41
  rw [tm_wl_eq]
  simp only [fX5_hasLike_S0, tm_go_ite, tm_go_bind, tm_go_inl, tm_go_inr, tm_go_out, tm_go_th]
  try rfl
noncomputable def fX5_hasLike (this : Nat) (a1 : Nat) (a2 : Nat) (a3 : Int) (h : tm_H) : Option (Int) :=
  tm_th h 5 this (
    fX5_hasLike_L3 this a1 a2 a3 h 0)
noncomputable def fX5_add (this : Nat) (a1 : Nat) (a2 : Int) (h : tm_H) : Option (tm_H) :=
  tm_th h 5 this (
    (tm_gI h 5 3 this).bind fun v1 =>
    if v1 < 13 then
    (if a2 < 1 then
    (some h)
    else
    (if 4 < a2 then
    (some h)
    else
    ((tm_len h 0 a1).bind fun v2 =>
    if v2 < a2 then
    (some h)
    else
    ((tm_gR h 5 0 this).bind fun r3 =>
    (tm_gI h 5 3 this).bind fun v4 =>
    (tm_lR h 5 r3 v4).bind fun r5 =>
    (tm_cpI h 0 a1 0 r5 0 a2).bind fun h6 =>
    (tm_gR h6 5 1 this).bind fun r7 =>
    (tm_gI h6 5 3 this).bind fun v8 =>
    (tm_wI h6 0 r7 v8 a2).bind fun h9 =>
    (tm_gR h9 5 2 this).bind fun r10 =>
    (tm_gI h9 5 3 this).bind fun v11 =>
    (tm_wZ h9 2 r10 v11 0).bind fun h12 =>
    (tm_gI h12 5 3 this).bind fun v13 =>
    (tm_sF h12 5 3 this (.inl (tm_wr (v13 + 1)))).bind fun h14 =>
    some h14))))
    else
    (some h))
noncomputable def fX2_readTerm_L44 (this : Nat) (x1 : Int) (h : tm_H) : Option (Int × tm_H) :=
  if x1 = 0 then
  (some (0, h))
  else
  ((tm_gR h 2 0 this).bind fun r6 =>
  (tm_gI h 2 3 this).bind fun v7 =>
  (fX6_at r6 v7 h).bind fun v8 =>
  if v8 = 59 then
  ((tm_gR h 2 1 this).bind fun r9 =>
  (tm_gR h 4 2 r9).bind fun r10 =>
  (fX5_size r10 h).bind fun v11 =>
  if v11 < 12 then
  ((tm_gR h 2 1 this).bind fun r12 =>
  (tm_gR h 4 2 r12).bind fun r13 =>
  (tm_gR h 2 1 this).bind fun r14 =>
  (tm_gR h 4 0 r14).bind fun r15 =>
  (tm_gR h 2 2 this).bind fun r16 =>
  (fX5_hasLike r13 r15 r16 x1 h).bind fun v17 =>
  if v17 = 0 then
  ((tm_gR h 2 1 this).bind fun r18 =>
  (tm_gR h 4 2 r18).bind fun r19 =>
  (tm_gR h 2 2 this).bind fun r20 =>
  (fX5_add r19 r20 x1 h).bind fun h21 =>
  (fX2_pass this 59 h21).bind fun q22 =>
  (tm_zr q22.1).bind fun z => some (z, q22.2))
  else
  (some (0, h)))
  else
  (some (0, h)))
  else
  (some (0, h)))
noncomputable def fX2_readTerm_S1 (this : Nat) (st : (Int × tm_H)) : Option (((Int × tm_H)) ⊕ (Int × tm_H)) := match st with
  | (x1, h) =>
    if x1 < 4 then
    ((fX2_isRun this h).bind fun v2 =>
    if v2 = 0 then
    (tm_out (fX2_readTerm_L44 this x1 h))
    else
    ((fX2_readWord this h).bind fun q3 =>
    if q3.1 = ((-99)) then
    (some (.inr (0, q3.2)))
    else
    ((tm_gR q3.2 2 2 this).bind fun r4 =>
    (tm_wI q3.2 0 r4 x1 q3.1).bind fun h5 =>
    some (.inl (((tm_wr (x1 + 1)), h5))))))
    else
    (tm_out (fX2_readTerm_L44 this x1 h))
noncomputable def fX2_readTerm_L6 (this : Nat) (x1 : Int) (h : tm_H) : Option (Int × tm_H) := tm_wl (fX2_readTerm_S1 this) ((x1, h))
theorem fX2_readTerm_L6_eq (this : Nat) (x1 : Int) (h : tm_H) : fX2_readTerm_L6 this x1 h =
    if x1 < 4 then
    ((fX2_isRun this h).bind fun v23 =>
    if v23 = 0 then
    (fX2_readTerm_L44 this x1 h)
    else
    ((fX2_readWord this h).bind fun q24 =>
    if q24.1 = ((-99)) then
    (some (0, q24.2))
    else
    ((tm_gR q24.2 2 2 this).bind fun r25 =>
    (tm_wI q24.2 0 r25 x1 q24.1).bind fun h26 =>
    fX2_readTerm_L6 this (tm_wr (x1 + 1)) h26)))
    else
    (fX2_readTerm_L44 this x1 h) := by
  unfold fX2_readTerm_L6
  rw [tm_wl_eq]
  simp only [fX2_readTerm_S1, tm_go_ite, tm_go_bind, tm_go_inl, tm_go_inr, tm_go_out, tm_go_th]
  try rfl
noncomputable def fX2_readTerm (this : Nat) (h : tm_H) : Option (Int × tm_H) :=
  tm_th h 2 this (
    (fX2_step this h).bind fun h1 =>
    fX2_readTerm_L6 this 0 h1)
noncomputable def fX7_isForm (this : Nat) (a1 : Int) (h : tm_H) : Option (Int) :=
  tm_th h 7 this (
    (fX7_baseOf this a1 h).bind fun v1 =>
    if v1 = a1 then
    (some 0)
    else
    (some 1))
noncomputable def fX7_hasForms_S0 (this : Nat) (a1 : Int) (h : tm_H) (st : (Int) ⊕ (Int)) : Option (((Int) ⊕ (Int)) ⊕ (Int)) := match st with
  | .inl ((x2)) =>
    (tm_gI h 7 2 this).bind fun v1 =>
    if x2 < v1 then
    (if x2 = a1 then
    (some (.inl (.inr ((x2)))))
    else
    ((tm_gR h 7 1 this).bind fun r2 =>
    (tm_lI h 0 r2 x2).bind fun v3 =>
    if v3 = a1 then
    (some (.inr 1))
    else
    (some (.inl (.inr ((x2)))))))
    else
    (some (.inr 0))
  | .inr ((x2)) =>
    some (.inl (.inl (((tm_wr (x2 + 1))))))
noncomputable def fX7_hasForms_L2 (this : Nat) (a1 : Int) (h : tm_H) (x2 : Int) : Option (Int) := tm_wl (fX7_hasForms_S0 this a1 h) (.inl ((x2)))
noncomputable def fX7_hasForms_L27 (this : Nat) (a1 : Int) (h : tm_H) (x2 : Int) : Option (Int) := tm_wl (fX7_hasForms_S0 this a1 h) (.inr ((x2)))
theorem fX7_hasForms_L2_eq (this : Nat) (a1 : Int) (h : tm_H) (x2 : Int) : fX7_hasForms_L2 this a1 h x2 =
    (tm_gI h 7 2 this).bind fun v4 =>
    if x2 < v4 then
    (if x2 = a1 then
    (fX7_hasForms_L27 this a1 h x2)
    else
    ((tm_gR h 7 1 this).bind fun r5 =>
    (tm_lI h 0 r5 x2).bind fun v6 =>
    if v6 = a1 then
    (some 1)
    else
    (fX7_hasForms_L27 this a1 h x2)))
    else
    (some 0) := by
  unfold fX7_hasForms_L2
  rw [tm_wl_eq]
  simp only [fX7_hasForms_S0, tm_go_ite, tm_go_bind, tm_go_inl, tm_go_inr, tm_go_out, tm_go_th]
  try rfl
theorem fX7_hasForms_L27_eq (this : Nat) (a1 : Int) (h : tm_H) (x2 : Int) : fX7_hasForms_L27 this a1 h x2 =
    fX7_hasForms_L2 this a1 h (tm_wr (x2 + 1)) := by
  unfold fX7_hasForms_L27
  rw [tm_wl_eq]
  simp only [fX7_hasForms_S0, tm_go_ite, tm_go_bind, tm_go_inl, tm_go_inr, tm_go_out, tm_go_th]
  try rfl
noncomputable def fX7_hasForms (this : Nat) (a1 : Int) (h : tm_H) : Option (Int) :=
  tm_th h 7 this (
    fX7_hasForms_L2 this a1 h 0)
noncomputable def fX7_has (this : Nat) (a1 : Int) (h : tm_H) : Option (Int) :=
  tm_th h 7 this (
    if a1 < 0 then
    (some 0)
    else
    ((tm_gI h 7 2 this).bind fun v1 =>
    if a1 < v1 then
    (some 1)
    else
    (some 0)))
noncomputable def fX7_putBase (this : Nat) (a1 : Int) (a2 : Int) (h : tm_H) : Option (tm_H) :=
  tm_th h 7 this (
    (fX7_has this a1 h).bind fun v1 =>
    if v1 = 0 then
    (some h)
    else
    ((fX7_has this a2 h).bind fun v2 =>
    if v2 = 0 then
    (some h)
    else
    ((tm_gR h 7 1 this).bind fun r3 =>
    (tm_wI h 0 r3 a1 a2).bind fun h4 =>
    some h4)))
noncomputable def fX5_twoAreAlike_S0 (this : Nat) (a1 : Nat) (h : tm_H) (st : (Int) ⊕ (Int × Int) ⊕ (Int × Int)) : Option (((Int) ⊕ (Int × Int) ⊕ (Int × Int)) ⊕ (Int)) := match st with
  | .inl ((x2)) =>
    (tm_gI h 5 3 this).bind fun v1 =>
    if x2 < v1 then
    (some (.inl (.inr (.inl ((x2, (tm_wr (x2 + 1))))))))
    else
    (some (.inr 0))
  | .inr (.inl ((x2, x3))) =>
    (tm_gI h 5 3 this).bind fun v2 =>
    if x3 < v2 then
    ((tm_gR h 5 1 this).bind fun r3 =>
    (tm_lI h 0 r3 x2).bind fun v4 =>
    (tm_gR h 5 1 this).bind fun r5 =>
    (tm_lI h 0 r5 x3).bind fun v6 =>
    if v4 = v6 then
    ((tm_gR h 5 0 this).bind fun r7 =>
    (tm_lR h 5 r7 x2).bind fun r8 =>
    (tm_gR h 5 0 this).bind fun r9 =>
    (tm_lR h 5 r9 x3).bind fun r10 =>
    (tm_gR h 5 1 this).bind fun r11 =>
    (tm_lI h 0 r11 x2).bind fun v12 =>
    (fX5_sameBases a1 r8 r10 v12 h).bind fun v13 =>
    if v13 = 0 then
    (some (.inl (.inr (.inr ((x2, x3))))))
    else
    (some (.inr 1)))
    else
    (some (.inl (.inr (.inr ((x2, x3)))))))
    else
    (some (.inl (.inl (((tm_wr (x2 + 1)))))))
  | .inr (.inr ((x2, x3))) =>
    some (.inl (.inr (.inl ((x2, (tm_wr (x3 + 1)))))))
noncomputable def fX5_twoAreAlike_L2 (this : Nat) (a1 : Nat) (h : tm_H) (x2 : Int) : Option (Int) := tm_wl (fX5_twoAreAlike_S0 this a1 h) (.inl ((x2)))
noncomputable def fX5_twoAreAlike_L14 (this : Nat) (a1 : Nat) (h : tm_H) (x2 : Int) (x3 : Int) : Option (Int) := tm_wl (fX5_twoAreAlike_S0 this a1 h) (.inr (.inl ((x2, x3))))
noncomputable def fX5_twoAreAlike_L64 (this : Nat) (a1 : Nat) (h : tm_H) (x2 : Int) (x3 : Int) : Option (Int) := tm_wl (fX5_twoAreAlike_S0 this a1 h) (.inr (.inr ((x2, x3))))
theorem fX5_twoAreAlike_L2_eq (this : Nat) (a1 : Nat) (h : tm_H) (x2 : Int) : fX5_twoAreAlike_L2 this a1 h x2 =
    (tm_gI h 5 3 this).bind fun v14 =>
    if x2 < v14 then
    (fX5_twoAreAlike_L14 this a1 h x2 (tm_wr (x2 + 1)))
    else
    (some 0) := by
  unfold fX5_twoAreAlike_L2
  rw [tm_wl_eq]
  simp only [fX5_twoAreAlike_S0, tm_go_ite, tm_go_bind, tm_go_inl, tm_go_inr, tm_go_out, tm_go_th]
  try rfl
theorem fX5_twoAreAlike_L14_eq (this : Nat) (a1 : Nat) (h : tm_H) (x2 : Int) (x3 : Int) : fX5_twoAreAlike_L14 this a1 h x2 x3 =
    (tm_gI h 5 3 this).bind fun v15 =>
    if x3 < v15 then
    ((tm_gR h 5 1 this).bind fun r16 =>
    (tm_lI h 0 r16 x2).bind fun v17 =>
    (tm_gR h 5 1 this).bind fun r18 =>
    (tm_lI h 0 r18 x3).bind fun v19 =>
    if v17 = v19 then
    ((tm_gR h 5 0 this).bind fun r20 =>
    (tm_lR h 5 r20 x2).bind fun r21 =>
    (tm_gR h 5 0 this).bind fun r22 =>
    (tm_lR h 5 r22 x3).bind fun r23 =>
    (tm_gR h 5 1 this).bind fun r24 =>
    (tm_lI h 0 r24 x2).bind fun v25 =>
    (fX5_sameBases a1 r21 r23 v25 h).bind fun v26 =>
    if v26 = 0 then
    (fX5_twoAreAlike_L64 this a1 h x2 x3)
    else
    (some 1))
    else
    (fX5_twoAreAlike_L64 this a1 h x2 x3))
    else
    (fX5_twoAreAlike_L2 this a1 h (tm_wr (x2 + 1))) := by
  unfold fX5_twoAreAlike_L14
  rw [tm_wl_eq]
  simp only [fX5_twoAreAlike_S0, tm_go_ite, tm_go_bind, tm_go_inl, tm_go_inr, tm_go_out, tm_go_th]
  try rfl
theorem fX5_twoAreAlike_L64_eq (this : Nat) (a1 : Nat) (h : tm_H) (x2 : Int) (x3 : Int) : fX5_twoAreAlike_L64 this a1 h x2 x3 =
    fX5_twoAreAlike_L14 this a1 h x2 (tm_wr (x3 + 1)) := by
  unfold fX5_twoAreAlike_L64
  rw [tm_wl_eq]
  simp only [fX5_twoAreAlike_S0, tm_go_ite, tm_go_bind, tm_go_inl, tm_go_inr, tm_go_out, tm_go_th]
  try rfl
noncomputable def fX5_twoAreAlike (this : Nat) (a1 : Nat) (h : tm_H) : Option (Int) :=
  tm_th h 5 this (
    fX5_twoAreAlike_L2 this a1 h 0)
noncomputable def fX4_mayHaveBase_L29 (this : Nat) (a1 : Int) (a2 : Int)  (h : tm_H) : Option (Int × tm_H) :=
  (tm_gR h 4 0 this).bind fun r5 =>
  (fX7_baseOf r5 a1 h).bind fun v6 =>
  (tm_gR h 4 0 this).bind fun r7 =>
  (fX7_putBase r7 a1 a2 h).bind fun h8 =>
  (tm_gR h8 4 2 this).bind fun r9 =>
  (tm_gR h8 4 0 this).bind fun r10 =>
  (fX5_twoAreAlike r9 r10 h8).bind fun v11 =>
  (tm_gR h8 4 0 this).bind fun r12 =>
  (fX7_putBase r12 a1 v6 h8).bind fun h13 =>
  if v11 = 0 then
  (some (1, h13))
  else
  (some (0, h13))
noncomputable def fX4_mayHaveBase (this : Nat) (a1 : Int) (a2 : Int) (h : tm_H) : Option (Int × tm_H) :=
  tm_th h 4 this (
    if a2 = a1 then
    (fX4_mayHaveBase_L29 this a1 a2 h)
    else
    ((tm_gR h 4 0 this).bind fun r1 =>
    (fX7_isForm r1 a2 h).bind fun v2 =>
    if v2 = 0 then
    ((tm_gR h 4 0 this).bind fun r3 =>
    (fX7_hasForms r3 a1 h).bind fun v4 =>
    if v4 = 0 then
    (fX4_mayHaveBase_L29 this a1 a2 h)
    else
    (some (0, h)))
    else
    (some (0, h))))
noncomputable def fX2_readForm (this : Nat) (h : tm_H) : Option (Int × tm_H) :=
  tm_th h 2 this (
    (fX2_step this h).bind fun h1 =>
    (fX2_readWord this h1).bind fun q2 =>
    if q2.1 = ((-99)) then
    (some (0, q2.2))
    else
    ((fX2_pass this 61 q2.2).bind fun q3 =>
    if q3.1 = 0 then
    (some (0, q3.2))
    else
    ((fX2_readWord this q3.2).bind fun q4 =>
    if q4.1 = ((-99)) then
    (some (0, q4.2))
    else
    ((tm_gR q4.2 2 0 this).bind fun r5 =>
    (tm_gI q4.2 2 3 this).bind fun v6 =>
    (fX6_at r5 v6 q4.2).bind fun v7 =>
    if v7 = 59 then
    ((tm_gR q4.2 2 1 this).bind fun r8 =>
    (tm_gR q4.2 4 0 r8).bind fun r9 =>
    (fX7_baseOf r9 q4.1 q4.2).bind fun v10 =>
    (tm_gR q4.2 2 1 this).bind fun r11 =>
    (fX4_mayHaveBase r11 q2.1 v10 q4.2).bind fun q12 =>
    if q12.1 = 0 then
    (some (0, q12.2))
    else
    ((tm_gR q12.2 2 1 this).bind fun r13 =>
    (tm_gR q12.2 4 0 r13).bind fun r14 =>
    (fX7_putBase r14 q2.1 v10 q12.2).bind fun h15 =>
    (fX2_pass this 59 h15).bind fun q16 =>
    (tm_zr q16.1).bind fun z => some (z, q16.2)))
    else
    (some (0, q4.2))))))
noncomputable def fX2_read_L111 (this : Nat) (a1 : Nat)  (h : tm_H) : Option (Int × tm_H) :=
  (tm_gI h 2 3 this).bind fun v14 =>
  some (tm_wr (((-1000)) - v14), h)
noncomputable def fX2_read_S1 (this : Nat) (a1 : Nat) (st : (Int × tm_H) ⊕ (Int × tm_H) ⊕ (Int × Int × tm_H) ⊕ (Int × Int × tm_H)) : Option (((Int × tm_H) ⊕ (Int × tm_H) ⊕ (Int × Int × tm_H) ⊕ (Int × Int × tm_H)) ⊕ (Int × tm_H)) := match st with
  | .inl ((x2, h)) =>
    if 140 < x2 then
    (tm_out (fX2_read_L111 this a1 h))
    else
    ((tm_gI h 2 3 this).bind fun v5 =>
    (tm_gR h 2 0 this).bind fun r6 =>
    (fX6_length r6 h).bind fun v7 =>
    if v5 < v7 then
    ((fX2_isWord this 0 h).bind fun v8 =>
    if v8 = 0 then
    ((fX2_isWord this 1 h).bind fun v9 =>
    if v9 = 0 then
    ((fX2_isWord this 2 h).bind fun v10 =>
    if v10 = 0 then
    (some (.inl (.inr (.inl ((x2, h))))))
    else
    ((fX2_readForm this h).bind fun q11 =>
    if q11.1 = 0 then
    (some (.inl (.inr (.inl ((x2, q11.2))))))
    else
    (some (.inl (.inr (.inr (.inl ((x2, 1, q11.2)))))))))
    else
    ((fX2_readTerm this h).bind fun q12 =>
    some (.inl (.inr (.inr (.inr ((x2, q12.1, q12.2))))))))
    else
    ((fX2_readChapter this h).bind fun q13 =>
    some (.inl (.inr (.inr (.inr ((x2, q13.1, q13.2))))))))
    else
    (some (.inr (x2, h))))
  | .inr (.inl ((x2, h))) =>
    some (.inl (.inr (.inr (.inl ((x2, 0, h))))))
  | .inr (.inr (.inl ((x2, s0, h)))) =>
    some (.inl (.inr (.inr (.inr ((x2, s0, h))))))
  | .inr (.inr (.inr ((x2, x3, h)))) =>
    if x3 = 0 then
    (tm_out (fX2_read_L111 this a1 h))
    else
    (some (.inl (.inl (((tm_wr (x2 + 1)), h)))))
noncomputable def fX2_read_L19 (this : Nat) (a1 : Nat) (x2 : Int) (h : tm_H) : Option (Int × tm_H) := tm_wl (fX2_read_S1 this a1) (.inl ((x2, h)))
noncomputable def fX2_read_L96 (this : Nat) (a1 : Nat) (x2 : Int) (h : tm_H) : Option (Int × tm_H) := tm_wl (fX2_read_S1 this a1) (.inr (.inl ((x2, h))))
noncomputable def fX2_read_L97 (this : Nat) (a1 : Nat) (x2 : Int) (s0 : Int) (h : tm_H) : Option (Int × tm_H) := tm_wl (fX2_read_S1 this a1) (.inr (.inr (.inl ((x2, s0, h)))))
noncomputable def fX2_read_L98 (this : Nat) (a1 : Nat) (x2 : Int) (x3 : Int) (h : tm_H) : Option (Int × tm_H) := tm_wl (fX2_read_S1 this a1) (.inr (.inr (.inr ((x2, x3, h)))))
theorem fX2_read_L19_eq (this : Nat) (a1 : Nat) (x2 : Int) (h : tm_H) : fX2_read_L19 this a1 x2 h =
    if 140 < x2 then
    (fX2_read_L111 this a1 h)
    else
    ((tm_gI h 2 3 this).bind fun v15 =>
    (tm_gR h 2 0 this).bind fun r16 =>
    (fX6_length r16 h).bind fun v17 =>
    if v15 < v17 then
    ((fX2_isWord this 0 h).bind fun v18 =>
    if v18 = 0 then
    ((fX2_isWord this 1 h).bind fun v19 =>
    if v19 = 0 then
    ((fX2_isWord this 2 h).bind fun v20 =>
    if v20 = 0 then
    (fX2_read_L96 this a1 x2 h)
    else
    ((fX2_readForm this h).bind fun q21 =>
    if q21.1 = 0 then
    (fX2_read_L96 this a1 x2 q21.2)
    else
    (fX2_read_L97 this a1 x2 1 q21.2)))
    else
    ((fX2_readTerm this h).bind fun q22 =>
    fX2_read_L98 this a1 x2 q22.1 q22.2))
    else
    ((fX2_readChapter this h).bind fun q23 =>
    fX2_read_L98 this a1 x2 q23.1 q23.2))
    else
    (some (x2, h))) := by
  unfold fX2_read_L19
  rw [tm_wl_eq]
  simp only [fX2_read_S1, tm_go_ite, tm_go_bind, tm_go_inl, tm_go_inr, tm_go_out, tm_go_th]
  try rfl
theorem fX2_read_L96_eq (this : Nat) (a1 : Nat) (x2 : Int) (h : tm_H) : fX2_read_L96 this a1 x2 h =
    fX2_read_L97 this a1 x2 0 h := by
  unfold fX2_read_L96
  rw [tm_wl_eq]
  simp only [fX2_read_S1, tm_go_ite, tm_go_bind, tm_go_inl, tm_go_inr, tm_go_out, tm_go_th]
  try rfl
theorem fX2_read_L97_eq (this : Nat) (a1 : Nat) (x2 : Int) (s0 : Int) (h : tm_H) : fX2_read_L97 this a1 x2 s0 h =
    fX2_read_L98 this a1 x2 s0 h := by
  unfold fX2_read_L97
  rw [tm_wl_eq]
  simp only [fX2_read_S1, tm_go_ite, tm_go_bind, tm_go_inl, tm_go_inr, tm_go_out, tm_go_th]
  try rfl
theorem fX2_read_L98_eq (this : Nat) (a1 : Nat) (x2 : Int) (x3 : Int) (h : tm_H) : fX2_read_L98 this a1 x2 x3 h =
    if x3 = 0 then
    (fX2_read_L111 this a1 h)
    else
    (fX2_read_L19 this a1 (tm_wr (x2 + 1)) h) := by
  unfold fX2_read_L98
  rw [tm_wl_eq]
  simp only [fX2_read_S1, tm_go_ite, tm_go_bind, tm_go_inl, tm_go_inr, tm_go_out, tm_go_th]
  try rfl
noncomputable def fX2_read (this : Nat) (a1 : Nat) (h : tm_H) : Option (Int × tm_H) :=
  tm_th h 2 this (
    (tm_gR h 2 1 this).bind fun r1 =>
    (fX4_copyFrom r1 a1 h).bind fun h2 =>
    (tm_sF h2 2 4 this (.inl 0)).bind fun h3 =>
    (fX2_step this h3).bind fun h4 =>
    fX2_read_L19 this a1 0 h4)
noncomputable def fX3_init (this : Nat) (h : tm_H) (n : Nat) : Option (tm_H × Nat) :=
  tm_th h 3 this (
    (tm_nm h n 6 40).bind fun h1 =>
    (tm_sF h1 3 0 this (.inr (some n))).bind fun h2 =>
    (tm_nm h2 (n + 7) 6 40).bind fun h3 =>
    (tm_sF h3 3 1 this (.inr (some (n + 7)))).bind fun h4 =>
    (tm_nm h4 (n + 14) 13 6).bind fun h5 =>
    (tm_sF h5 3 2 this (.inr (some (n + 14)))).bind fun h6 =>
    (tm_nw h6 (n + 28) (.inr (0, 13, .inl (fun _ => 0)))).bind fun h7 =>
    (tm_sF h7 3 3 this (.inr (some (n + 28)))).bind fun h8 =>
    (tm_nw h8 (n + 29) (.inr (0, 78, .inl (fun _ => 0)))).bind fun h9 =>
    (tm_sF h9 3 4 this (.inr (some (n + 29)))).bind fun h10 =>
    (tm_nw h10 (n + 30) (.inr (0, 78, .inl (fun _ => 0)))).bind fun h11 =>
    (tm_sF h11 3 5 this (.inr (some (n + 30)))).bind fun h12 =>
    (tm_nw h12 (n + 31) (.inr (0, 78, .inl (fun _ => 0)))).bind fun h13 =>
    (tm_sF h13 3 6 this (.inr (some (n + 31)))).bind fun h14 =>
    (tm_sF h14 3 7 this (.inl 0)).bind fun h15 =>
    (tm_sF h15 3 8 this (.inl 0)).bind fun h16 =>
    some (h16, n + 32))
noncomputable def fX3_forget_S0 (this : Nat) (st : (Int × tm_H) ⊕ (Int × Int × tm_H)) : Option (((Int × tm_H) ⊕ (Int × Int × tm_H)) ⊕ (tm_H)) := match st with
  | .inl ((x1, h)) =>
    if x1 < 13 then
    ((tm_gR h 3 3 this).bind fun r1 =>
    (tm_wI h 0 r1 x1 0).bind fun h2 =>
    some (.inl (.inr ((x1, 0, h2)))))
    else
    ((tm_sF h 3 7 this (.inl 0)).bind fun h3 =>
    (tm_sF h3 3 8 this (.inl 0)).bind fun h4 =>
    some (.inr h4))
  | .inr ((x1, x2, h)) =>
    if x2 < 6 then
    ((tm_gR h 3 2 this).bind fun r5 =>
    (tm_lR h 5 r5 x1).bind fun r6 =>
    (tm_wI h 0 r6 x2 ((-99))).bind fun h7 =>
    some (.inl (.inr ((x1, (tm_wr (x2 + 1)), h7)))))
    else
    (some (.inl (.inl (((tm_wr (x1 + 1)), h)))))
noncomputable def fX3_forget_L2 (this : Nat) (x1 : Int) (h : tm_H) : Option (tm_H) := tm_wl (fX3_forget_S0 this) (.inl ((x1, h)))
noncomputable def fX3_forget_L17 (this : Nat) (x1 : Int) (x2 : Int) (h : tm_H) : Option (tm_H) := tm_wl (fX3_forget_S0 this) (.inr ((x1, x2, h)))
theorem fX3_forget_L2_eq (this : Nat) (x1 : Int) (h : tm_H) : fX3_forget_L2 this x1 h =
    if x1 < 13 then
    ((tm_gR h 3 3 this).bind fun r8 =>
    (tm_wI h 0 r8 x1 0).bind fun h9 =>
    fX3_forget_L17 this x1 0 h9)
    else
    ((tm_sF h 3 7 this (.inl 0)).bind fun h10 =>
    (tm_sF h10 3 8 this (.inl 0)).bind fun h11 =>
    some h11) := by
  unfold fX3_forget_L2
  rw [tm_wl_eq]
  simp only [fX3_forget_S0, tm_go_ite, tm_go_bind, tm_go_inl, tm_go_inr, tm_go_out, tm_go_th]
  try rfl
theorem fX3_forget_L17_eq (this : Nat) (x1 : Int) (x2 : Int) (h : tm_H) : fX3_forget_L17 this x1 x2 h =
    if x2 < 6 then
    ((tm_gR h 3 2 this).bind fun r12 =>
    (tm_lR h 5 r12 x1).bind fun r13 =>
    (tm_wI h 0 r13 x2 ((-99))).bind fun h14 =>
    fX3_forget_L17 this x1 (tm_wr (x2 + 1)) h14)
    else
    (fX3_forget_L2 this (tm_wr (x1 + 1)) h) := by
  unfold fX3_forget_L17
  rw [tm_wl_eq]
  simp only [fX3_forget_S0, tm_go_ite, tm_go_bind, tm_go_inl, tm_go_inr, tm_go_out, tm_go_th]
  try rfl
noncomputable def fX3_forget (this : Nat) (h : tm_H) : Option (tm_H) :=
  tm_th h 3 this (
    fX3_forget_L2 this 0 h)
noncomputable def fX5_lengthOf (this : Nat) (a1 : Int) (h : tm_H) : Option (Int) :=
  tm_th h 5 this (
    if a1 < 0 then
    (some 0)
    else
    ((tm_gI h 5 3 this).bind fun v1 =>
    if a1 < v1 then
    ((tm_gR h 5 1 this).bind fun r2 =>
    (tm_lI h 0 r2 a1).bind fun v3 =>
    some v3)
    else
    (some 0)))
noncomputable def fX5_wordAt (this : Nat) (a1 : Int) (a2 : Int) (h : tm_H) : Option (Int) :=
  tm_th h 5 this (
    if a1 < 0 then
    (some ((-99)))
    else
    ((tm_gI h 5 3 this).bind fun v1 =>
    if a1 < v1 then
    (if a2 < 0 then
    (some ((-99)))
    else
    ((tm_gR h 5 1 this).bind fun r2 =>
    (tm_lI h 0 r2 a1).bind fun v3 =>
    if a2 < v3 then
    ((tm_gR h 5 0 this).bind fun r4 =>
    (tm_lR h 5 r4 a1).bind fun r5 =>
    (tm_lI h 0 r5 a2).bind fun v6 =>
    some v6)
    else
    (some ((-99)))))
    else
    (some ((-99)))))
noncomputable def fX4_occursAt_S0 (this : Nat) (a1 : Int) (a2 : Int) (a3 : Int) (h : tm_H) (st : (Int × Int)) : Option (((Int × Int)) ⊕ (Int)) := match st with
  | (x4, x5) =>
    if x5 < x4 then
    ((tm_gR h 4 0 this).bind fun r5 =>
    (tm_gR h 4 2 this).bind fun r6 =>
    (fX5_wordAt r6 a1 x5 h).bind fun v7 =>
    (fX7_baseOf r5 v7 h).bind fun v8 =>
    (tm_gR h 4 0 this).bind fun r9 =>
    (tm_gR h 4 1 this).bind fun r10 =>
    (fX0_wordAt r10 a2 (tm_wr (a3 + x5)) h).bind fun v11 =>
    (fX7_baseOf r9 v11 h).bind fun v12 =>
    if v8 = v12 then
    (some (.inl ((x4, (tm_wr (x5 + 1))))))
    else
    (some (.inr 0)))
    else
    (some (.inr 1))
noncomputable def fX4_occursAt_L39 (this : Nat) (a1 : Int) (a2 : Int) (a3 : Int) (h : tm_H) (x4 : Int) (x5 : Int) : Option (Int) := tm_wl (fX4_occursAt_S0 this a1 a2 a3 h) ((x4, x5))
theorem fX4_occursAt_L39_eq (this : Nat) (a1 : Int) (a2 : Int) (a3 : Int) (h : tm_H) (x4 : Int) (x5 : Int) : fX4_occursAt_L39 this a1 a2 a3 h x4 x5 =
    if x5 < x4 then
    ((tm_gR h 4 0 this).bind fun r13 =>
    (tm_gR h 4 2 this).bind fun r14 =>
    (fX5_wordAt r14 a1 x5 h).bind fun v15 =>
    (fX7_baseOf r13 v15 h).bind fun v16 =>
    (tm_gR h 4 0 this).bind fun r17 =>
    (tm_gR h 4 1 this).bind fun r18 =>
    (fX0_wordAt r18 a2 (tm_wr (a3 + x5)) h).bind fun v19 =>
    (fX7_baseOf r17 v19 h).bind fun v20 =>
    if v16 = v20 then
    (fX4_occursAt_L39 this a1 a2 a3 h x4 (tm_wr (x5 + 1)))
    else
    (some 0))
    else
    (some 1) := by
  unfold fX4_occursAt_L39
  rw [tm_wl_eq]
  simp only [fX4_occursAt_S0, tm_go_ite, tm_go_bind, tm_go_inl, tm_go_inr, tm_go_out, tm_go_th]
  try rfl
noncomputable def fX4_occursAt (this : Nat) (a1 : Int) (a2 : Int) (a3 : Int) (h : tm_H) : Option (Int) :=
  tm_th h 4 this (
    (tm_gR h 4 2 this).bind fun r1 =>
    (fX5_lengthOf r1 a1 h).bind fun v2 =>
    if v2 = 0 then
    (some 0)
    else
    (if a3 < 0 then
    (some 0)
    else
    ((tm_gR h 4 1 this).bind fun r3 =>
    (fX0_lengthOf r3 a2 h).bind fun v4 =>
    if (tm_wr (v4 - v2)) < a3 then
    (some 0)
    else
    (fX4_occursAt_L39 this a1 a2 a3 h v2 0))))
noncomputable def fX4_longestAt_S0 (this : Nat) (a1 : Int) (a2 : Int) (h : tm_H) (st : (Int × Int) ⊕ (Int × Int)) : Option (((Int × Int) ⊕ (Int × Int)) ⊕ (Int)) := match st with
  | .inl ((x3, x4)) =>
    (tm_gR h 4 2 this).bind fun r1 =>
    (fX5_size r1 h).bind fun v2 =>
    if x4 < v2 then
    ((tm_gR h 4 2 this).bind fun r3 =>
    (fX5_lengthOf r3 x4 h).bind fun v4 =>
    (tm_gR h 4 2 this).bind fun r5 =>
    (fX5_lengthOf r5 x3 h).bind fun v6 =>
    if v6 < v4 then
    ((fX4_occursAt this x4 a1 a2 h).bind fun v7 =>
    if v7 = 0 then
    (some (.inl (.inr ((x3, x4)))))
    else
    (some (.inl (.inr ((x4, x4))))))
    else
    (some (.inl (.inr ((x3, x4))))))
    else
    (some (.inr x3))
  | .inr ((x3, x4)) =>
    some (.inl (.inl ((x3, (tm_wr (x4 + 1))))))
noncomputable def fX4_longestAt_L6 (this : Nat) (a1 : Int) (a2 : Int) (h : tm_H) (x3 : Int) (x4 : Int) : Option (Int) := tm_wl (fX4_longestAt_S0 this a1 a2 h) (.inl ((x3, x4)))
noncomputable def fX4_longestAt_L52 (this : Nat) (a1 : Int) (a2 : Int) (h : tm_H) (x3 : Int) (x4 : Int) : Option (Int) := tm_wl (fX4_longestAt_S0 this a1 a2 h) (.inr ((x3, x4)))
theorem fX4_longestAt_L6_eq (this : Nat) (a1 : Int) (a2 : Int) (h : tm_H) (x3 : Int) (x4 : Int) : fX4_longestAt_L6 this a1 a2 h x3 x4 =
    (tm_gR h 4 2 this).bind fun r8 =>
    (fX5_size r8 h).bind fun v9 =>
    if x4 < v9 then
    ((tm_gR h 4 2 this).bind fun r10 =>
    (fX5_lengthOf r10 x4 h).bind fun v11 =>
    (tm_gR h 4 2 this).bind fun r12 =>
    (fX5_lengthOf r12 x3 h).bind fun v13 =>
    if v13 < v11 then
    ((fX4_occursAt this x4 a1 a2 h).bind fun v14 =>
    if v14 = 0 then
    (fX4_longestAt_L52 this a1 a2 h x3 x4)
    else
    (fX4_longestAt_L52 this a1 a2 h x4 x4))
    else
    (fX4_longestAt_L52 this a1 a2 h x3 x4))
    else
    (some x3) := by
  unfold fX4_longestAt_L6
  rw [tm_wl_eq]
  simp only [fX4_longestAt_S0, tm_go_ite, tm_go_bind, tm_go_inl, tm_go_inr, tm_go_out, tm_go_th]
  try rfl
theorem fX4_longestAt_L52_eq (this : Nat) (a1 : Int) (a2 : Int) (h : tm_H) (x3 : Int) (x4 : Int) : fX4_longestAt_L52 this a1 a2 h x3 x4 =
    fX4_longestAt_L6 this a1 a2 h x3 (tm_wr (x4 + 1)) := by
  unfold fX4_longestAt_L52
  rw [tm_wl_eq]
  simp only [fX4_longestAt_S0, tm_go_ite, tm_go_bind, tm_go_inl, tm_go_inr, tm_go_out, tm_go_th]
  try rfl
noncomputable def fX4_longestAt (this : Nat) (a1 : Int) (a2 : Int) (h : tm_H) : Option (Int) :=
  tm_th h 4 this (
    fX4_longestAt_L6 this a1 a2 h ((-99)) 0)
noncomputable def fX5_has (this : Nat) (a1 : Int) (h : tm_H) : Option (Int) :=
  tm_th h 5 this (
    if a1 < 0 then
    (some 0)
    else
    ((tm_gI h 5 3 this).bind fun v1 =>
    if a1 < v1 then
    (some 1)
    else
    (some 0)))
noncomputable def fX5_isQuiet (this : Nat) (a1 : Int) (h : tm_H) : Option (Int) :=
  tm_th h 5 this (
    (fX5_has this a1 h).bind fun v1 =>
    if v1 = 0 then
    (some 0)
    else
    ((tm_gR h 5 2 this).bind fun r2 =>
    (tm_lI h 2 r2 a1).bind fun v3 =>
    if v3 = 0 then
    (some 0)
    else
    (some 1)))
noncomputable def fX3_note (this : Nat) (a1 : Nat) (a2 : Int) (a3 : Int) (a4 : Int) (h : tm_H) : Option (tm_H) :=
  tm_th h 3 this (
    (tm_gR h 4 2 a1).bind fun r1 =>
    (fX5_has r1 a2 h).bind fun v2 =>
    if v2 = 0 then
    (some h)
    else
    ((tm_gR h 3 3 this).bind fun r3 =>
    (tm_lI h 0 r3 a2).bind fun v4 =>
    (tm_wI h 0 r3 a2 (tm_wr (v4 + 1))).bind fun h5 =>
    (tm_gI h5 3 8 this).bind fun v6 =>
    (tm_sF h5 3 8 this (.inl (tm_wr (v6 + 1)))).bind fun h7 =>
    (tm_gR h7 3 2 this).bind fun r8 =>
    (tm_lR h7 5 r8 a2).bind fun r9 =>
    (tm_lI h7 0 r9 a3).bind fun v10 =>
    if v10 = ((-99)) then
    ((tm_gR h7 3 2 this).bind fun r11 =>
    (tm_lR h7 5 r11 a2).bind fun r12 =>
    (tm_wI h7 0 r12 a3 a4).bind fun h13 =>
    (tm_gR h13 4 2 a1).bind fun r14 =>
    (fX5_isQuiet r14 a2 h13).bind fun v15 =>
    if v15 = 0 then
    ((tm_gI h13 3 7 this).bind fun v16 =>
    if v16 < 78 then
    ((tm_gR h13 3 4 this).bind fun r17 =>
    (tm_gI h13 3 7 this).bind fun v18 =>
    (tm_wI h13 0 r17 v18 a3).bind fun h19 =>
    (tm_gR h19 3 5 this).bind fun r20 =>
    (tm_gI h19 3 7 this).bind fun v21 =>
    (tm_wI h19 0 r20 v21 a4).bind fun h22 =>
    (tm_gR h22 3 6 this).bind fun r23 =>
    (tm_gI h22 3 7 this).bind fun v24 =>
    (tm_wI h22 0 r23 v24 a2).bind fun h25 =>
    (tm_gI h25 3 7 this).bind fun v26 =>
    (tm_sF h25 3 7 this (.inl (tm_wr (v26 + 1)))).bind fun h27 =>
    some h27)
    else
    (some h13))
    else
    (some h13))
    else
    (some h7)))
noncomputable def fX3_readChapter_S0 (this : Nat) (a1 : Nat) (a2 : Int) (st : (Int × Int × Int × Int × tm_H) ⊕ (Int × Int × Int × Int × tm_H) ⊕ (Int × Int × Int × Int × Nat × Int × Int × tm_H)) : Option (((Int × Int × Int × Int × tm_H) ⊕ (Int × Int × Int × Int × tm_H) ⊕ (Int × Int × Int × Int × Nat × Int × Int × tm_H)) ⊕ (tm_H)) := match st with
  | .inl ((x3, x4, x5, x6, h)) =>
    (tm_gR h 4 1 a1).bind fun r1 =>
    (fX0_lengthOf r1 a2 h).bind fun v2 =>
    if x6 < v2 then
    (if x6 < x5 then
    (some (.inl (.inr (.inl ((x3, x4, x5, x6, h))))))
    else
    ((fX4_longestAt a1 a2 x6 h).bind fun v3 =>
    (tm_gR h 4 2 a1).bind fun r4 =>
    (fX5_lengthOf r4 v3 h).bind fun v5 =>
    (fX3_note this a1 v3 a2 x6 h).bind fun h6 =>
    some (.inl (.inr (.inl ((v3, x6, (tm_wr (x6 + v5)), x6, h6)))))))
    else
    (some (.inr h))
  | .inr (.inl ((x3, x4, x5, x6, h))) =>
    (tm_gR h 3 0 this).bind fun r7 =>
    (tm_lR h 5 r7 a2).bind fun r8 =>
    (tm_wI h 0 r8 x6 x3).bind fun h9 =>
    (tm_gR h9 3 1 this).bind fun r10 =>
    (tm_lR h9 5 r10 a2).bind fun r11 =>
    if x3 = ((-99)) then
    (some (.inl (.inr (.inr ((x3, x4, x5, x6, r11, x6, ((-99)), h9))))))
    else
    (some (.inl (.inr (.inr ((x3, x4, x5, x6, r11, x6, (tm_wr (x6 - x4)), h9))))))
  | .inr (.inr ((x3, x4, x5, x6, s0, s1, s2, h))) =>
    (tm_wI h 0 s0 s1 s2).bind fun h12 =>
    some (.inl (.inl ((x3, x4, x5, (tm_wr (x6 + 1)), h12))))
noncomputable def fX3_readChapter_L12 (this : Nat) (a1 : Nat) (a2 : Int) (x3 : Int) (x4 : Int) (x5 : Int) (x6 : Int) (h : tm_H) : Option (tm_H) := tm_wl (fX3_readChapter_S0 this a1 a2) (.inl ((x3, x4, x5, x6, h)))
noncomputable def fX3_readChapter_L66 (this : Nat) (a1 : Nat) (a2 : Int) (x3 : Int) (x4 : Int) (x5 : Int) (x6 : Int) (h : tm_H) : Option (tm_H) := tm_wl (fX3_readChapter_S0 this a1 a2) (.inr (.inl ((x3, x4, x5, x6, h))))
noncomputable def fX3_readChapter_L100 (this : Nat) (a1 : Nat) (a2 : Int) (x3 : Int) (x4 : Int) (x5 : Int) (x6 : Int) (s0 : Nat) (s1 : Int) (s2 : Int) (h : tm_H) : Option (tm_H) := tm_wl (fX3_readChapter_S0 this a1 a2) (.inr (.inr ((x3, x4, x5, x6, s0, s1, s2, h))))
theorem fX3_readChapter_L12_eq (this : Nat) (a1 : Nat) (a2 : Int) (x3 : Int) (x4 : Int) (x5 : Int) (x6 : Int) (h : tm_H) : fX3_readChapter_L12 this a1 a2 x3 x4 x5 x6 h =
    (tm_gR h 4 1 a1).bind fun r13 =>
    (fX0_lengthOf r13 a2 h).bind fun v14 =>
    if x6 < v14 then
    (if x6 < x5 then
    (fX3_readChapter_L66 this a1 a2 x3 x4 x5 x6 h)
    else
    ((fX4_longestAt a1 a2 x6 h).bind fun v15 =>
    (tm_gR h 4 2 a1).bind fun r16 =>
    (fX5_lengthOf r16 v15 h).bind fun v17 =>
    (fX3_note this a1 v15 a2 x6 h).bind fun h18 =>
    fX3_readChapter_L66 this a1 a2 v15 x6 (tm_wr (x6 + v17)) x6 h18))
    else
    (some h) := by
  unfold fX3_readChapter_L12
  rw [tm_wl_eq]
  simp only [fX3_readChapter_S0, tm_go_ite, tm_go_bind, tm_go_inl, tm_go_inr, tm_go_out, tm_go_th]
  try rfl
theorem fX3_readChapter_L66_eq (this : Nat) (a1 : Nat) (a2 : Int) (x3 : Int) (x4 : Int) (x5 : Int) (x6 : Int) (h : tm_H) : fX3_readChapter_L66 this a1 a2 x3 x4 x5 x6 h =
    (tm_gR h 3 0 this).bind fun r19 =>
    (tm_lR h 5 r19 a2).bind fun r20 =>
    (tm_wI h 0 r20 x6 x3).bind fun h21 =>
    (tm_gR h21 3 1 this).bind fun r22 =>
    (tm_lR h21 5 r22 a2).bind fun r23 =>
    if x3 = ((-99)) then
    (fX3_readChapter_L100 this a1 a2 x3 x4 x5 x6 r23 x6 ((-99)) h21)
    else
    (fX3_readChapter_L100 this a1 a2 x3 x4 x5 x6 r23 x6 (tm_wr (x6 - x4)) h21) := by
  unfold fX3_readChapter_L66
  rw [tm_wl_eq]
  simp only [fX3_readChapter_S0, tm_go_ite, tm_go_bind, tm_go_inl, tm_go_inr, tm_go_out, tm_go_th]
  try rfl
theorem fX3_readChapter_L100_eq (this : Nat) (a1 : Nat) (a2 : Int) (x3 : Int) (x4 : Int) (x5 : Int) (x6 : Int) (s0 : Nat) (s1 : Int) (s2 : Int) (h : tm_H) : fX3_readChapter_L100 this a1 a2 x3 x4 x5 x6 s0 s1 s2 h =
    (tm_wI h 0 s0 s1 s2).bind fun h24 =>
    fX3_readChapter_L12 this a1 a2 x3 x4 x5 (tm_wr (x6 + 1)) h24 := by
  unfold fX3_readChapter_L100
  rw [tm_wl_eq]
  simp only [fX3_readChapter_S0, tm_go_ite, tm_go_bind, tm_go_inl, tm_go_inr, tm_go_out, tm_go_th]
  try rfl
noncomputable def fX3_readChapter (this : Nat) (a1 : Nat) (a2 : Int) (h : tm_H) : Option (tm_H) :=
  tm_th h 3 this (
    fX3_readChapter_L12 this a1 a2 ((-99)) 0 0 0 h)
noncomputable def fX3_read_S0 (this : Nat) (a1 : Nat) (st : (Int × tm_H)) : Option (((Int × tm_H)) ⊕ (tm_H)) := match st with
  | (x2, h) =>
    if x2 < 6 then
    ((fX3_readChapter this a1 x2 h).bind fun h2 =>
    some (.inl (((tm_wr (x2 + 1)), h2))))
    else
    (some (.inr h))
noncomputable def fX3_read_L6 (this : Nat) (a1 : Nat) (x2 : Int) (h : tm_H) : Option (tm_H) := tm_wl (fX3_read_S0 this a1) ((x2, h))
theorem fX3_read_L6_eq (this : Nat) (a1 : Nat) (x2 : Int) (h : tm_H) : fX3_read_L6 this a1 x2 h =
    if x2 < 6 then
    ((fX3_readChapter this a1 x2 h).bind fun h3 =>
    fX3_read_L6 this a1 (tm_wr (x2 + 1)) h3)
    else
    (some h) := by
  unfold fX3_read_L6
  rw [tm_wl_eq]
  simp only [fX3_read_S0, tm_go_ite, tm_go_bind, tm_go_inl, tm_go_inr, tm_go_out, tm_go_th]
  try rfl
noncomputable def fX3_read (this : Nat) (a1 : Nat) (h : tm_H) : Option (tm_H) :=
  tm_th h 3 this (
    (fX3_forget this h).bind fun h1 =>
    fX3_read_L6 this a1 0 h1)
noncomputable def fX3_markCount (this : Nat) (h : tm_H) : Option (Int) :=
  tm_th h 3 this (
    (tm_gI h 3 7 this).bind fun v1 =>
    some v1)
noncomputable def fX3_readingCount (this : Nat) (h : tm_H) : Option (Int) :=
  tm_th h 3 this (
    (tm_gI h 3 8 this).bind fun v1 =>
    some v1)
noncomputable def fX3_isInside (a1 : Int) (a2 : Int) (h : tm_H) : Option (Int) :=
  if a1 < 0 then
  (some 0)
  else
  (if a1 < 6 then
  (if a2 < 0 then
  (some 0)
  else
  (if a2 < 40 then
  (some 1)
  else
  (some 0)))
  else
  (some 0))
noncomputable def fX3_termOver (this : Nat) (a1 : Int) (a2 : Int) (h : tm_H) : Option (Int) :=
  tm_th h 3 this (
    (fX3_isInside a1 a2 h).bind fun v1 =>
    if v1 = 0 then
    (some ((-99)))
    else
    ((tm_gR h 3 0 this).bind fun r2 =>
    (tm_lR h 5 r2 a1).bind fun r3 =>
    (tm_lI h 0 r3 a2).bind fun v4 =>
    some v4))
noncomputable def fX3_stepOver (this : Nat) (a1 : Int) (a2 : Int) (h : tm_H) : Option (Int) :=
  tm_th h 3 this (
    (fX3_isInside a1 a2 h).bind fun v1 =>
    if v1 = 0 then
    (some ((-99)))
    else
    ((tm_gR h 3 1 this).bind fun r2 =>
    (tm_lR h 5 r2 a1).bind fun r3 =>
    (tm_lI h 0 r3 a2).bind fun v4 =>
    some v4))
noncomputable def fX3_hasMark_S0 (this : Nat) (a1 : Int) (a2 : Int) (h : tm_H) (st : (Int) ⊕ (Int)) : Option (((Int) ⊕ (Int)) ⊕ (Int)) := match st with
  | .inl ((x3)) =>
    (tm_gI h 3 7 this).bind fun v1 =>
    if x3 < v1 then
    ((tm_gR h 3 4 this).bind fun r2 =>
    (tm_lI h 0 r2 x3).bind fun v3 =>
    if v3 = a1 then
    ((tm_gR h 3 5 this).bind fun r4 =>
    (tm_lI h 0 r4 x3).bind fun v5 =>
    if v5 = a2 then
    (some (.inr 1))
    else
    (some (.inl (.inr ((x3))))))
    else
    (some (.inl (.inr ((x3))))))
    else
    (some (.inr 0))
  | .inr ((x3)) =>
    some (.inl (.inl (((tm_wr (x3 + 1))))))
noncomputable def fX3_hasMark_L2 (this : Nat) (a1 : Int) (a2 : Int) (h : tm_H) (x3 : Int) : Option (Int) := tm_wl (fX3_hasMark_S0 this a1 a2 h) (.inl ((x3)))
noncomputable def fX3_hasMark_L32 (this : Nat) (a1 : Int) (a2 : Int) (h : tm_H) (x3 : Int) : Option (Int) := tm_wl (fX3_hasMark_S0 this a1 a2 h) (.inr ((x3)))
theorem fX3_hasMark_L2_eq (this : Nat) (a1 : Int) (a2 : Int) (h : tm_H) (x3 : Int) : fX3_hasMark_L2 this a1 a2 h x3 =
    (tm_gI h 3 7 this).bind fun v6 =>
    if x3 < v6 then
    ((tm_gR h 3 4 this).bind fun r7 =>
    (tm_lI h 0 r7 x3).bind fun v8 =>
    if v8 = a1 then
    ((tm_gR h 3 5 this).bind fun r9 =>
    (tm_lI h 0 r9 x3).bind fun v10 =>
    if v10 = a2 then
    (some 1)
    else
    (fX3_hasMark_L32 this a1 a2 h x3))
    else
    (fX3_hasMark_L32 this a1 a2 h x3))
    else
    (some 0) := by
  unfold fX3_hasMark_L2
  rw [tm_wl_eq]
  simp only [fX3_hasMark_S0, tm_go_ite, tm_go_bind, tm_go_inl, tm_go_inr, tm_go_out, tm_go_th]
  try rfl
theorem fX3_hasMark_L32_eq (this : Nat) (a1 : Int) (a2 : Int) (h : tm_H) (x3 : Int) : fX3_hasMark_L32 this a1 a2 h x3 =
    fX3_hasMark_L2 this a1 a2 h (tm_wr (x3 + 1)) := by
  unfold fX3_hasMark_L32
  rw [tm_wl_eq]
  simp only [fX3_hasMark_S0, tm_go_ite, tm_go_bind, tm_go_inl, tm_go_inr, tm_go_out, tm_go_th]
  try rfl
noncomputable def fX3_hasMark (this : Nat) (a1 : Int) (a2 : Int) (h : tm_H) : Option (Int) :=
  tm_th h 3 this (
    fX3_hasMark_L2 this a1 a2 h 0)
noncomputable def fX3_timesRead (this : Nat) (a1 : Int) (h : tm_H) : Option (Int) :=
  tm_th h 3 this (
    if a1 < 0 then
    (some 0)
    else
    (if a1 < 13 then
    ((tm_gR h 3 3 this).bind fun r1 =>
    (tm_lI h 0 r1 a1).bind fun v2 =>
    some v2)
    else
    (some 0)))
noncomputable def fX3_firstPlace (this : Nat) (a1 : Int) (a2 : Int) (h : tm_H) : Option (Int) :=
  tm_th h 3 this (
    if a1 < 0 then
    (some ((-99)))
    else
    (if a1 < 13 then
    (if a2 < 0 then
    (some ((-99)))
    else
    (if a2 < 6 then
    ((tm_gR h 3 2 this).bind fun r1 =>
    (tm_lR h 5 r1 a1).bind fun r2 =>
    (tm_lI h 0 r2 a2).bind fun v3 =>
    some v3)
    else
    (some ((-99)))))
    else
    (some ((-99)))))
noncomputable def fX3_marksOf_S0 (this : Nat) (a1 : Int) (h : tm_H) (st : (Int × Int) ⊕ (Int × Int)) : Option (((Int × Int) ⊕ (Int × Int)) ⊕ (Int)) := match st with
  | .inl ((x2, x3)) =>
    (tm_gI h 3 7 this).bind fun v1 =>
    if x3 < v1 then
    ((tm_gR h 3 6 this).bind fun r2 =>
    (tm_lI h 0 r2 x3).bind fun v3 =>
    if v3 = a1 then
    (some (.inl (.inr (((tm_wr (x2 + 1)), x3)))))
    else
    (some (.inl (.inr ((x2, x3))))))
    else
    (some (.inr x2))
  | .inr ((x2, x3)) =>
    some (.inl (.inl ((x2, (tm_wr (x3 + 1))))))
noncomputable def fX3_marksOf_L4 (this : Nat) (a1 : Int) (h : tm_H) (x2 : Int) (x3 : Int) : Option (Int) := tm_wl (fX3_marksOf_S0 this a1 h) (.inl ((x2, x3)))
noncomputable def fX3_marksOf_L25 (this : Nat) (a1 : Int) (h : tm_H) (x2 : Int) (x3 : Int) : Option (Int) := tm_wl (fX3_marksOf_S0 this a1 h) (.inr ((x2, x3)))
theorem fX3_marksOf_L4_eq (this : Nat) (a1 : Int) (h : tm_H) (x2 : Int) (x3 : Int) : fX3_marksOf_L4 this a1 h x2 x3 =
    (tm_gI h 3 7 this).bind fun v4 =>
    if x3 < v4 then
    ((tm_gR h 3 6 this).bind fun r5 =>
    (tm_lI h 0 r5 x3).bind fun v6 =>
    if v6 = a1 then
    (fX3_marksOf_L25 this a1 h (tm_wr (x2 + 1)) x3)
    else
    (fX3_marksOf_L25 this a1 h x2 x3))
    else
    (some x2) := by
  unfold fX3_marksOf_L4
  rw [tm_wl_eq]
  simp only [fX3_marksOf_S0, tm_go_ite, tm_go_bind, tm_go_inl, tm_go_inr, tm_go_out, tm_go_th]
  try rfl
theorem fX3_marksOf_L25_eq (this : Nat) (a1 : Int) (h : tm_H) (x2 : Int) (x3 : Int) : fX3_marksOf_L25 this a1 h x2 x3 =
    fX3_marksOf_L4 this a1 h x2 (tm_wr (x3 + 1)) := by
  unfold fX3_marksOf_L25
  rw [tm_wl_eq]
  simp only [fX3_marksOf_S0, tm_go_ite, tm_go_bind, tm_go_inl, tm_go_inr, tm_go_out, tm_go_th]
  try rfl
noncomputable def fX3_marksOf (this : Nat) (a1 : Int) (h : tm_H) : Option (Int) :=
  tm_th h 3 this (
    fX3_marksOf_L4 this a1 h 0 0)
noncomputable def fX3_markPart (this : Nat) (a1 : Int) (a2 : Int) (h : tm_H) : Option (Int) :=
  tm_th h 3 this (
    if a1 < 0 then
    (some ((-99)))
    else
    ((tm_gI h 3 7 this).bind fun v1 =>
    if a1 < v1 then
    (if a2 = 0 then
    ((tm_gR h 3 4 this).bind fun r2 =>
    (tm_lI h 0 r2 a1).bind fun v3 =>
    some v3)
    else
    (if a2 = 1 then
    ((tm_gR h 3 5 this).bind fun r5 =>
    (tm_lI h 0 r5 a1).bind fun v6 =>
    some v6)
    else
    (if a2 = 2 then
    ((tm_gR h 3 6 this).bind fun r8 =>
    (tm_lI h 0 r8 a1).bind fun v9 =>
    some v9)
    else
    (some ((-99))))))
    else
    (some ((-99)))))
noncomputable def fX4_hasSlot (this : Nat) (a1 : Int) (h : tm_H) : Option (Int) :=
  tm_th h 4 this (
    if a1 < 0 then
    (some 0)
    else
    (if a1 < 2 then
    (some 1)
    else
    (some 0)))
noncomputable def fX4_isTaken (this : Nat) (a1 : Int) (h : tm_H) : Option (Int) :=
  tm_th h 4 this (
    (fX4_hasSlot this a1 h).bind fun v1 =>
    if v1 = 0 then
    (some 0)
    else
    ((tm_gR h 4 4 this).bind fun r2 =>
    (tm_lI h 2 r2 a1).bind fun v3 =>
    if v3 = 0 then
    (some 0)
    else
    (some 1)))
noncomputable def fX4_takenCount_S0 (this : Nat) (h : tm_H) (st : (Int × Int) ⊕ (Int × Int)) : Option (((Int × Int) ⊕ (Int × Int)) ⊕ (Int)) := match st with
  | .inl ((x1, x2)) =>
    if x2 < 2 then
    ((tm_gR h 4 4 this).bind fun r1 =>
    (tm_lI h 2 r1 x2).bind fun v2 =>
    if v2 = 0 then
    (some (.inl (.inr ((x1, x2)))))
    else
    (some (.inl (.inr (((tm_wr (x1 + 1)), x2))))))
    else
    (some (.inr x1))
  | .inr ((x1, x2)) =>
    some (.inl (.inl ((x1, (tm_wr (x2 + 1))))))
noncomputable def fX4_takenCount_L4 (this : Nat) (h : tm_H) (x1 : Int) (x2 : Int) : Option (Int) := tm_wl (fX4_takenCount_S0 this h) (.inl ((x1, x2)))
noncomputable def fX4_takenCount_L21 (this : Nat) (h : tm_H) (x1 : Int) (x2 : Int) : Option (Int) := tm_wl (fX4_takenCount_S0 this h) (.inr ((x1, x2)))
theorem fX4_takenCount_L4_eq (this : Nat) (h : tm_H) (x1 : Int) (x2 : Int) : fX4_takenCount_L4 this h x1 x2 =
    if x2 < 2 then
    ((tm_gR h 4 4 this).bind fun r3 =>
    (tm_lI h 2 r3 x2).bind fun v4 =>
    if v4 = 0 then
    (fX4_takenCount_L21 this h x1 x2)
    else
    (fX4_takenCount_L21 this h (tm_wr (x1 + 1)) x2))
    else
    (some x1) := by
  unfold fX4_takenCount_L4
  rw [tm_wl_eq]
  simp only [fX4_takenCount_S0, tm_go_ite, tm_go_bind, tm_go_inl, tm_go_inr, tm_go_out, tm_go_th]
  try rfl
theorem fX4_takenCount_L21_eq (this : Nat) (h : tm_H) (x1 : Int) (x2 : Int) : fX4_takenCount_L21 this h x1 x2 =
    fX4_takenCount_L4 this h x1 (tm_wr (x2 + 1)) := by
  unfold fX4_takenCount_L21
  rw [tm_wl_eq]
  simp only [fX4_takenCount_S0, tm_go_ite, tm_go_bind, tm_go_inl, tm_go_inr, tm_go_out, tm_go_th]
  try rfl
noncomputable def fX4_takenCount (this : Nat) (h : tm_H) : Option (Int) :=
  tm_th h 4 this (
    fX4_takenCount_L4 this h 0 0)
noncomputable def fX4_keepChapters (this : Nat) (a1 : Int) (h : tm_H) : Option (tm_H) :=
  tm_th h 4 this (
    (fX4_hasSlot this a1 h).bind fun v1 =>
    if v1 = 0 then
    (some h)
    else
    ((tm_gR h 4 3 this).bind fun r2 =>
    (tm_lR h 3 r2 a1).bind fun r3 =>
    (tm_gR h 4 1 this).bind fun r4 =>
    (fX0_copyFrom r3 r4 h).bind fun h5 =>
    (tm_gR h5 4 4 this).bind fun r6 =>
    (tm_wZ h5 2 r6 a1 1).bind fun h7 =>
    some h7))
noncomputable def fX4_bringChapters (this : Nat) (a1 : Int) (h : tm_H) : Option (tm_H) :=
  tm_th h 4 this (
    (fX4_isTaken this a1 h).bind fun v1 =>
    if v1 = 0 then
    (some h)
    else
    ((tm_gR h 4 1 this).bind fun r2 =>
    (tm_gR h 4 3 this).bind fun r3 =>
    (tm_lR h 3 r3 a1).bind fun r4 =>
    (fX0_copyFrom r2 r4 h).bind fun h5 =>
    some h5))
noncomputable def fX4_occurrences_S0 (this : Nat) (a1 : Int) (h : tm_H) (st : (Int × Int) ⊕ (Int × Int × Int) ⊕ (Int × Int × Int)) : Option (((Int × Int) ⊕ (Int × Int × Int) ⊕ (Int × Int × Int)) ⊕ (Int)) := match st with
  | .inl ((x2, x3)) =>
    if x3 < 6 then
    (some (.inl (.inr (.inl ((x2, x3, 0))))))
    else
    (some (.inr x2))
  | .inr (.inl ((x2, x3, x4))) =>
    (tm_gR h 4 1 this).bind fun r1 =>
    (fX0_lengthOf r1 x3 h).bind fun v2 =>
    if x4 < v2 then
    ((fX4_occursAt this a1 x3 x4 h).bind fun v3 =>
    if v3 = 0 then
    (some (.inl (.inr (.inr ((x2, x3, x4))))))
    else
    (some (.inl (.inr (.inr (((tm_wr (x2 + 1)), x3, x4)))))))
    else
    (some (.inl (.inl ((x2, (tm_wr (x3 + 1)))))))
  | .inr (.inr ((x2, x3, x4))) =>
    some (.inl (.inr (.inl ((x2, x3, (tm_wr (x4 + 1)))))))
noncomputable def fX4_occurrences_L4 (this : Nat) (a1 : Int) (h : tm_H) (x2 : Int) (x3 : Int) : Option (Int) := tm_wl (fX4_occurrences_S0 this a1 h) (.inl ((x2, x3)))
noncomputable def fX4_occurrences_L13 (this : Nat) (a1 : Int) (h : tm_H) (x2 : Int) (x3 : Int) (x4 : Int) : Option (Int) := tm_wl (fX4_occurrences_S0 this a1 h) (.inr (.inl ((x2, x3, x4))))
noncomputable def fX4_occurrences_L40 (this : Nat) (a1 : Int) (h : tm_H) (x2 : Int) (x3 : Int) (x4 : Int) : Option (Int) := tm_wl (fX4_occurrences_S0 this a1 h) (.inr (.inr ((x2, x3, x4))))
theorem fX4_occurrences_L4_eq (this : Nat) (a1 : Int) (h : tm_H) (x2 : Int) (x3 : Int) : fX4_occurrences_L4 this a1 h x2 x3 =
    if x3 < 6 then
    (fX4_occurrences_L13 this a1 h x2 x3 0)
    else
    (some x2) := by
  unfold fX4_occurrences_L4
  rw [tm_wl_eq]
  simp only [fX4_occurrences_S0, tm_go_ite, tm_go_bind, tm_go_inl, tm_go_inr, tm_go_out, tm_go_th]
  try rfl
theorem fX4_occurrences_L13_eq (this : Nat) (a1 : Int) (h : tm_H) (x2 : Int) (x3 : Int) (x4 : Int) : fX4_occurrences_L13 this a1 h x2 x3 x4 =
    (tm_gR h 4 1 this).bind fun r4 =>
    (fX0_lengthOf r4 x3 h).bind fun v5 =>
    if x4 < v5 then
    ((fX4_occursAt this a1 x3 x4 h).bind fun v6 =>
    if v6 = 0 then
    (fX4_occurrences_L40 this a1 h x2 x3 x4)
    else
    (fX4_occurrences_L40 this a1 h (tm_wr (x2 + 1)) x3 x4))
    else
    (fX4_occurrences_L4 this a1 h x2 (tm_wr (x3 + 1))) := by
  unfold fX4_occurrences_L13
  rw [tm_wl_eq]
  simp only [fX4_occurrences_S0, tm_go_ite, tm_go_bind, tm_go_inl, tm_go_inr, tm_go_out, tm_go_th]
  try rfl
theorem fX4_occurrences_L40_eq (this : Nat) (a1 : Int) (h : tm_H) (x2 : Int) (x3 : Int) (x4 : Int) : fX4_occurrences_L40 this a1 h x2 x3 x4 =
    fX4_occurrences_L13 this a1 h x2 x3 (tm_wr (x4 + 1)) := by
  unfold fX4_occurrences_L40
  rw [tm_wl_eq]
  simp only [fX4_occurrences_S0, tm_go_ite, tm_go_bind, tm_go_inl, tm_go_inr, tm_go_out, tm_go_th]
  try rfl
noncomputable def fX4_occurrences (this : Nat) (a1 : Int) (h : tm_H) : Option (Int) :=
  tm_th h 4 this (
    fX4_occurrences_L4 this a1 h 0 0)
noncomputable def fX4_occursWithin_S0 (this : Nat) (a1 : Int) (a2 : Int) (a3 : Int) (h : tm_H) (st : (Int)) : Option (((Int)) ⊕ (Int)) := match st with
  | (x4) =>
    (tm_gR h 4 2 this).bind fun r1 =>
    (fX5_lengthOf r1 a1 h).bind fun v2 =>
    if x4 < v2 then
    ((tm_gR h 4 0 this).bind fun r3 =>
    (tm_gR h 4 2 this).bind fun r4 =>
    (fX5_wordAt r4 a1 x4 h).bind fun v5 =>
    (fX7_baseOf r3 v5 h).bind fun v6 =>
    (tm_gR h 4 0 this).bind fun r7 =>
    (tm_gR h 4 2 this).bind fun r8 =>
    (fX5_wordAt r8 a2 (tm_wr (a3 + x4)) h).bind fun v9 =>
    (fX7_baseOf r7 v9 h).bind fun v10 =>
    if v6 = v10 then
    (some (.inl (((tm_wr (x4 + 1))))))
    else
    (some (.inr 0)))
    else
    (some (.inr 1))
noncomputable def fX4_occursWithin_L3 (this : Nat) (a1 : Int) (a2 : Int) (a3 : Int) (h : tm_H) (x4 : Int) : Option (Int) := tm_wl (fX4_occursWithin_S0 this a1 a2 a3 h) ((x4))
theorem fX4_occursWithin_L3_eq (this : Nat) (a1 : Int) (a2 : Int) (a3 : Int) (h : tm_H) (x4 : Int) : fX4_occursWithin_L3 this a1 a2 a3 h x4 =
    (tm_gR h 4 2 this).bind fun r11 =>
    (fX5_lengthOf r11 a1 h).bind fun v12 =>
    if x4 < v12 then
    ((tm_gR h 4 0 this).bind fun r13 =>
    (tm_gR h 4 2 this).bind fun r14 =>
    (fX5_wordAt r14 a1 x4 h).bind fun v15 =>
    (fX7_baseOf r13 v15 h).bind fun v16 =>
    (tm_gR h 4 0 this).bind fun r17 =>
    (tm_gR h 4 2 this).bind fun r18 =>
    (fX5_wordAt r18 a2 (tm_wr (a3 + x4)) h).bind fun v19 =>
    (fX7_baseOf r17 v19 h).bind fun v20 =>
    if v16 = v20 then
    (fX4_occursWithin_L3 this a1 a2 a3 h (tm_wr (x4 + 1)))
    else
    (some 0))
    else
    (some 1) := by
  unfold fX4_occursWithin_L3
  rw [tm_wl_eq]
  simp only [fX4_occursWithin_S0, tm_go_ite, tm_go_bind, tm_go_inl, tm_go_inr, tm_go_out, tm_go_th]
  try rfl
noncomputable def fX4_occursWithin (this : Nat) (a1 : Int) (a2 : Int) (a3 : Int) (h : tm_H) : Option (Int) :=
  tm_th h 4 this (
    fX4_occursWithin_L3 this a1 a2 a3 h 0)
noncomputable def fX4_timesWithin_S0 (this : Nat) (a1 : Int) (a2 : Int) (h : tm_H) (st : (Int × Int) ⊕ (Int × Int)) : Option (((Int × Int) ⊕ (Int × Int)) ⊕ (Int)) := match st with
  | .inl ((x3, x4)) =>
    (tm_gR h 4 2 this).bind fun r1 =>
    (fX5_lengthOf r1 a2 h).bind fun v2 =>
    (tm_gR h 4 2 this).bind fun r3 =>
    (fX5_lengthOf r3 a1 h).bind fun v4 =>
    if (tm_wr (v2 - v4)) < x4 then
    (some (.inr x3))
    else
    ((fX4_occursWithin this a1 a2 x4 h).bind fun v5 =>
    if v5 = 0 then
    (some (.inl (.inr ((x3, x4)))))
    else
    (some (.inl (.inr (((tm_wr (x3 + 1)), x4))))))
  | .inr ((x3, x4)) =>
    some (.inl (.inl ((x3, (tm_wr (x4 + 1))))))
noncomputable def fX4_timesWithin_L5 (this : Nat) (a1 : Int) (a2 : Int) (h : tm_H) (x3 : Int) (x4 : Int) : Option (Int) := tm_wl (fX4_timesWithin_S0 this a1 a2 h) (.inl ((x3, x4)))
noncomputable def fX4_timesWithin_L41 (this : Nat) (a1 : Int) (a2 : Int) (h : tm_H) (x3 : Int) (x4 : Int) : Option (Int) := tm_wl (fX4_timesWithin_S0 this a1 a2 h) (.inr ((x3, x4)))
theorem fX4_timesWithin_L5_eq (this : Nat) (a1 : Int) (a2 : Int) (h : tm_H) (x3 : Int) (x4 : Int) : fX4_timesWithin_L5 this a1 a2 h x3 x4 =
    (tm_gR h 4 2 this).bind fun r6 =>
    (fX5_lengthOf r6 a2 h).bind fun v7 =>
    (tm_gR h 4 2 this).bind fun r8 =>
    (fX5_lengthOf r8 a1 h).bind fun v9 =>
    if (tm_wr (v7 - v9)) < x4 then
    (some x3)
    else
    ((fX4_occursWithin this a1 a2 x4 h).bind fun v10 =>
    if v10 = 0 then
    (fX4_timesWithin_L41 this a1 a2 h x3 x4)
    else
    (fX4_timesWithin_L41 this a1 a2 h (tm_wr (x3 + 1)) x4)) := by
  unfold fX4_timesWithin_L5
  rw [tm_wl_eq]
  simp only [fX4_timesWithin_S0, tm_go_ite, tm_go_bind, tm_go_inl, tm_go_inr, tm_go_out, tm_go_th]
  try rfl
theorem fX4_timesWithin_L41_eq (this : Nat) (a1 : Int) (a2 : Int) (h : tm_H) (x3 : Int) (x4 : Int) : fX4_timesWithin_L41 this a1 a2 h x3 x4 =
    fX4_timesWithin_L5 this a1 a2 h x3 (tm_wr (x4 + 1)) := by
  unfold fX4_timesWithin_L41
  rw [tm_wl_eq]
  simp only [fX4_timesWithin_S0, tm_go_ite, tm_go_bind, tm_go_inl, tm_go_inr, tm_go_out, tm_go_th]
  try rfl
noncomputable def fX4_timesWithin (this : Nat) (a1 : Int) (a2 : Int) (h : tm_H) : Option (Int) :=
  tm_th h 4 this (
    fX4_timesWithin_L5 this a1 a2 h 0 0)
noncomputable def fX5_quietCount_S0 (this : Nat) (h : tm_H) (st : (Int × Int) ⊕ (Int × Int)) : Option (((Int × Int) ⊕ (Int × Int)) ⊕ (Int)) := match st with
  | .inl ((x1, x2)) =>
    (tm_gI h 5 3 this).bind fun v1 =>
    if x2 < v1 then
    ((tm_gR h 5 2 this).bind fun r2 =>
    (tm_lI h 2 r2 x2).bind fun v3 =>
    if v3 = 0 then
    (some (.inl (.inr ((x1, x2)))))
    else
    (some (.inl (.inr (((tm_wr (x1 + 1)), x2))))))
    else
    (some (.inr x1))
  | .inr ((x1, x2)) =>
    some (.inl (.inl ((x1, (tm_wr (x2 + 1))))))
noncomputable def fX5_quietCount_L4 (this : Nat) (h : tm_H) (x1 : Int) (x2 : Int) : Option (Int) := tm_wl (fX5_quietCount_S0 this h) (.inl ((x1, x2)))
noncomputable def fX5_quietCount_L24 (this : Nat) (h : tm_H) (x1 : Int) (x2 : Int) : Option (Int) := tm_wl (fX5_quietCount_S0 this h) (.inr ((x1, x2)))
theorem fX5_quietCount_L4_eq (this : Nat) (h : tm_H) (x1 : Int) (x2 : Int) : fX5_quietCount_L4 this h x1 x2 =
    (tm_gI h 5 3 this).bind fun v4 =>
    if x2 < v4 then
    ((tm_gR h 5 2 this).bind fun r5 =>
    (tm_lI h 2 r5 x2).bind fun v6 =>
    if v6 = 0 then
    (fX5_quietCount_L24 this h x1 x2)
    else
    (fX5_quietCount_L24 this h (tm_wr (x1 + 1)) x2))
    else
    (some x1) := by
  unfold fX5_quietCount_L4
  rw [tm_wl_eq]
  simp only [fX5_quietCount_S0, tm_go_ite, tm_go_bind, tm_go_inl, tm_go_inr, tm_go_out, tm_go_th]
  try rfl
theorem fX5_quietCount_L24_eq (this : Nat) (h : tm_H) (x1 : Int) (x2 : Int) : fX5_quietCount_L24 this h x1 x2 =
    fX5_quietCount_L4 this h x1 (tm_wr (x2 + 1)) := by
  unfold fX5_quietCount_L24
  rw [tm_wl_eq]
  simp only [fX5_quietCount_S0, tm_go_ite, tm_go_bind, tm_go_inl, tm_go_inr, tm_go_out, tm_go_th]
  try rfl
noncomputable def fX5_quietCount (this : Nat) (h : tm_H) : Option (Int) :=
  tm_th h 5 this (
    fX5_quietCount_L4 this h 0 0)
noncomputable def fX5_hush (this : Nat) (a1 : Int) (a2 : Int) (h : tm_H) : Option (tm_H) :=
  tm_th h 5 this (
    (fX5_has this a1 h).bind fun v1 =>
    if v1 = 0 then
    (some h)
    else
    ((tm_gR h 5 2 this).bind fun r2 =>
    (tm_wZ h 2 r2 a1 a2).bind fun h3 =>
    some h3))
noncomputable def fX5_drop_S0 (this : Nat) (a1 : Int) (st : (Nat × Int × tm_H)) : Option (((Nat × Int × tm_H)) ⊕ (tm_H)) := match st with
  | (x2, x3, h) =>
    (tm_gI h 5 3 this).bind fun v4 =>
    if x3 < v4 then
    ((tm_gR h 5 0 this).bind fun r5 =>
    (tm_gR h 5 0 this).bind fun r6 =>
    (tm_lR h 5 r6 x3).bind fun r7 =>
    (tm_wR h 5 r5 (tm_wr (x3 - 1)) 100 r7).bind fun h8 =>
    (tm_gR h8 5 1 this).bind fun r9 =>
    (tm_gR h8 5 1 this).bind fun r10 =>
    (tm_lI h8 0 r10 x3).bind fun v11 =>
    (tm_wI h8 0 r9 (tm_wr (x3 - 1)) v11).bind fun h12 =>
    (tm_gR h12 5 2 this).bind fun r13 =>
    (tm_gR h12 5 2 this).bind fun r14 =>
    (tm_lI h12 2 r14 x3).bind fun v15 =>
    (tm_wZ h12 2 r13 (tm_wr (x3 - 1)) v15).bind fun h16 =>
    some (.inl ((x2, (tm_wr (x3 + 1)), h16))))
    else
    ((tm_gI h 5 3 this).bind fun v17 =>
    (tm_sF h 5 3 this (.inl (tm_wr (v17 - 1)))).bind fun h18 =>
    (tm_gR h18 5 0 this).bind fun r19 =>
    (tm_gI h18 5 3 this).bind fun v20 =>
    (tm_wR h18 5 r19 v20 100 x2).bind fun h21 =>
    some (.inr h21))
noncomputable def fX5_drop_L20 (this : Nat) (a1 : Int) (x2 : Nat) (x3 : Int) (h : tm_H) : Option (tm_H) := tm_wl (fX5_drop_S0 this a1) ((x2, x3, h))
theorem fX5_drop_L20_eq (this : Nat) (a1 : Int) (x2 : Nat) (x3 : Int) (h : tm_H) : fX5_drop_L20 this a1 x2 x3 h =
    (tm_gI h 5 3 this).bind fun v22 =>
    if x3 < v22 then
    ((tm_gR h 5 0 this).bind fun r23 =>
    (tm_gR h 5 0 this).bind fun r24 =>
    (tm_lR h 5 r24 x3).bind fun r25 =>
    (tm_wR h 5 r23 (tm_wr (x3 - 1)) 100 r25).bind fun h26 =>
    (tm_gR h26 5 1 this).bind fun r27 =>
    (tm_gR h26 5 1 this).bind fun r28 =>
    (tm_lI h26 0 r28 x3).bind fun v29 =>
    (tm_wI h26 0 r27 (tm_wr (x3 - 1)) v29).bind fun h30 =>
    (tm_gR h30 5 2 this).bind fun r31 =>
    (tm_gR h30 5 2 this).bind fun r32 =>
    (tm_lI h30 2 r32 x3).bind fun v33 =>
    (tm_wZ h30 2 r31 (tm_wr (x3 - 1)) v33).bind fun h34 =>
    fX5_drop_L20 this a1 x2 (tm_wr (x3 + 1)) h34)
    else
    ((tm_gI h 5 3 this).bind fun v35 =>
    (tm_sF h 5 3 this (.inl (tm_wr (v35 - 1)))).bind fun h36 =>
    (tm_gR h36 5 0 this).bind fun r37 =>
    (tm_gI h36 5 3 this).bind fun v38 =>
    (tm_wR h36 5 r37 v38 100 x2).bind fun h39 =>
    some h39) := by
  unfold fX5_drop_L20
  rw [tm_wl_eq]
  simp only [fX5_drop_S0, tm_go_ite, tm_go_bind, tm_go_inl, tm_go_inr, tm_go_out, tm_go_th]
  try rfl
noncomputable def fX5_drop (this : Nat) (a1 : Int) (h : tm_H) : Option (tm_H) :=
  tm_th h 5 this (
    (fX5_has this a1 h).bind fun v1 =>
    if v1 = 0 then
    (some h)
    else
    ((tm_gR h 5 0 this).bind fun r2 =>
    (tm_lR h 5 r2 a1).bind fun r3 =>
    fX5_drop_L20 this a1 r3 (tm_wr (a1 + 1)) h))
noncomputable def fX6_add (this : Nat) (a1 : Int) (h : tm_H) : Option (tm_H) :=
  tm_th h 6 this (
    (tm_gI h 6 1 this).bind fun v1 =>
    if v1 < 140 then
    ((tm_gR h 6 0 this).bind fun r2 =>
    (tm_gI h 6 1 this).bind fun v3 =>
    (tm_wI h 0 r2 v3 a1).bind fun h4 =>
    (tm_gI h4 6 1 this).bind fun v5 =>
    (tm_sF h4 6 1 this (.inl (tm_wr (v5 + 1)))).bind fun h6 =>
    some h6)
    else
    (some h))
noncomputable def fX6_empty (this : Nat) (h : tm_H) : Option (tm_H) :=
  tm_th h 6 this (
    (tm_sF h 6 1 this (.inl 0)).bind fun h1 =>
    some h1)
noncomputable def fX7_size (this : Nat) (h : tm_H) : Option (Int) :=
  tm_th h 7 this (
    (tm_gI h 7 2 this).bind fun v1 =>
    some v1)
noncomputable def fX7_letterAt (this : Nat) (a1 : Int) (a2 : Int) (h : tm_H) : Option (Int) :=
  tm_th h 7 this (
    (fX7_has this a1 h).bind fun v1 =>
    if v1 = 0 then
    (some ((-99)))
    else
    (if a2 < 0 then
    (some ((-99)))
    else
    (if a2 < 8 then
    ((tm_gR h 7 0 this).bind fun r2 =>
    (tm_lL h 1 r2 a1).bind fun j3 =>
    if (tm_and (tm_l2i (tm_lushr j3 (tm_wr (a2 * 8)))) 255) = 0 then
    (some ((-99)))
    else
    (some (tm_and (tm_l2i (tm_lushr j3 (tm_wr (a2 * 8)))) 255)))
    else
    (some ((-99))))))
noncomputable def fX7_formCount_S0 (this : Nat) (h : tm_H) (st : (Int × Int) ⊕ (Int × Int)) : Option (((Int × Int) ⊕ (Int × Int)) ⊕ (Int)) := match st with
  | .inl ((x1, x2)) =>
    (tm_gI h 7 2 this).bind fun v1 =>
    if x2 < v1 then
    ((tm_gR h 7 1 this).bind fun r2 =>
    (tm_lI h 0 r2 x2).bind fun v3 =>
    if v3 = x2 then
    (some (.inl (.inr ((x1, x2)))))
    else
    (some (.inl (.inr (((tm_wr (x1 + 1)), x2))))))
    else
    (some (.inr x1))
  | .inr ((x1, x2)) =>
    some (.inl (.inl ((x1, (tm_wr (x2 + 1))))))
noncomputable def fX7_formCount_L4 (this : Nat) (h : tm_H) (x1 : Int) (x2 : Int) : Option (Int) := tm_wl (fX7_formCount_S0 this h) (.inl ((x1, x2)))
noncomputable def fX7_formCount_L25 (this : Nat) (h : tm_H) (x1 : Int) (x2 : Int) : Option (Int) := tm_wl (fX7_formCount_S0 this h) (.inr ((x1, x2)))
theorem fX7_formCount_L4_eq (this : Nat) (h : tm_H) (x1 : Int) (x2 : Int) : fX7_formCount_L4 this h x1 x2 =
    (tm_gI h 7 2 this).bind fun v4 =>
    if x2 < v4 then
    ((tm_gR h 7 1 this).bind fun r5 =>
    (tm_lI h 0 r5 x2).bind fun v6 =>
    if v6 = x2 then
    (fX7_formCount_L25 this h x1 x2)
    else
    (fX7_formCount_L25 this h (tm_wr (x1 + 1)) x2))
    else
    (some x1) := by
  unfold fX7_formCount_L4
  rw [tm_wl_eq]
  simp only [fX7_formCount_S0, tm_go_ite, tm_go_bind, tm_go_inl, tm_go_inr, tm_go_out, tm_go_th]
  try rfl
theorem fX7_formCount_L25_eq (this : Nat) (h : tm_H) (x1 : Int) (x2 : Int) : fX7_formCount_L25 this h x1 x2 =
    fX7_formCount_L4 this h x1 (tm_wr (x2 + 1)) := by
  unfold fX7_formCount_L25
  rw [tm_wl_eq]
  simp only [fX7_formCount_S0, tm_go_ite, tm_go_bind, tm_go_inl, tm_go_inr, tm_go_out, tm_go_th]
  try rfl
noncomputable def fX7_formCount (this : Nat) (h : tm_H) : Option (Int) :=
  tm_th h 7 this (
    fX7_formCount_L4 this h 0 0)
noncomputable def fX8_init (this : Nat) (h : tm_H) (n : Nat) : Option (tm_H × Nat) :=
  tm_th h 8 this (
    (tm_nw h n (.inl (4, [.inr none, .inr none, .inr none, .inr none, .inr none]))).bind fun h1 =>
    (fX4_init n h1 (n + 1)).bind fun q2 =>
    (tm_sF q2.1 8 0 this (.inr (some n))).bind fun h3 =>
    (tm_nw h3 q2.2 (.inl (4, [.inr none, .inr none, .inr none, .inr none, .inr none]))).bind fun h4 =>
    (fX4_init q2.2 h4 (q2.2 + 1)).bind fun q5 =>
    (tm_sF q5.1 8 1 this (.inr (some q2.2))).bind fun h6 =>
    (tm_nw h6 q5.2 (.inl (1, [.inr none, .inl 0]))).bind fun h7 =>
    (fX1_init q5.2 h7 (q5.2 + 1)).bind fun q8 =>
    (tm_sF q8.1 8 2 this (.inr (some q5.2))).bind fun h9 =>
    (tm_nw h9 q8.2 (.inl (2, [.inr none, .inr none, .inr none, .inl 0, .inl 0]))).bind fun h10 =>
    (fX2_init q8.2 h10 (q8.2 + 1)).bind fun q11 =>
    (tm_sF q11.1 8 3 this (.inr (some q8.2))).bind fun h12 =>
    (tm_nw h12 q11.2 (.inl (3, [.inr none, .inr none, .inr none, .inr none, .inr none, .inr none, .inr none, .inl 0, .inl 0]))).bind fun h13 =>
    (fX3_init q11.2 h13 (q11.2 + 1)).bind fun q14 =>
    (tm_sF q14.1 8 4 this (.inr (some q11.2))).bind fun h15 =>
    (tm_nw h15 q14.2 (.inr (0, 4, .inl (fun _ => 0)))).bind fun h16 =>
    (tm_sF h16 8 5 this (.inr (some q14.2))).bind fun h17 =>
    some (h17, q14.2 + 1))
noncomputable def fX8_insert (this : Nat) (a1 : Int) (a2 : Int) (a3 : Int) (h : tm_H) : Option (Int × tm_H) :=
  tm_th h 8 this (
    (tm_gR h 8 0 this).bind fun r1 =>
    (tm_gR h 4 1 r1).bind fun r2 =>
    (fX0_has r2 a1 h).bind fun v3 =>
    if v3 = 0 then
    (some ((-1), h))
    else
    (if a2 < 0 then
    (some ((-1), h))
    else
    ((fX0_lengthOf r2 a1 h).bind fun v4 =>
    if v4 < a2 then
    (some ((-1), h))
    else
    ((tm_gR h 8 0 this).bind fun r5 =>
    (tm_gR h 4 0 r5).bind fun r6 =>
    (fX7_has r6 a3 h).bind fun v7 =>
    if v7 = 0 then
    (some ((-1), h))
    else
    ((fX0_lengthOf r2 a1 h).bind fun v8 =>
    if v8 < 40 then
    ((tm_gR h 8 2 this).bind fun r9 =>
    (tm_gR h 8 0 this).bind fun r10 =>
    (fX1_keep r9 r10 h).bind fun h11 =>
    (fX0_put r2 a1 a2 a3 h11).bind fun h12 =>
    (fX0_lengthOf r2 a1 h12).bind fun v13 =>
    some (v13, h12))
    else
    (some ((-3), h)))))))
noncomputable def fX8_delete (this : Nat) (a1 : Int) (a2 : Int) (a3 : Int) (h : tm_H) : Option (Int × tm_H) :=
  tm_th h 8 this (
    (tm_gR h 8 0 this).bind fun r1 =>
    (tm_gR h 4 1 r1).bind fun r2 =>
    (fX0_hasPlace r2 a1 a2 h).bind fun v3 =>
    if v3 = 0 then
    (some ((-1), h))
    else
    ((fX0_hasPlace r2 a1 a3 h).bind fun v4 =>
    if v4 = 0 then
    (some ((-1), h))
    else
    (if a3 < a2 then
    (some ((-1), h))
    else
    ((tm_gR h 8 2 this).bind fun r5 =>
    (tm_gR h 8 0 this).bind fun r6 =>
    (fX1_keep r5 r6 h).bind fun h7 =>
    (fX0_cut r2 a1 a2 a3 h7).bind fun h8 =>
    (fX0_lengthOf r2 a1 h8).bind fun v9 =>
    some (v9, h8)))))
noncomputable def fX8_replace (this : Nat) (a1 : Int) (a2 : Int) (h : tm_H) : Option (Int × tm_H) :=
  tm_th h 8 this (
    (tm_gR h 8 0 this).bind fun r1 =>
    (tm_gR h 4 0 r1).bind fun r2 =>
    (fX7_has r2 a1 h).bind fun v3 =>
    if v3 = 0 then
    (some ((-1), h))
    else
    ((tm_gR h 8 0 this).bind fun r4 =>
    (tm_gR h 4 0 r4).bind fun r5 =>
    (fX7_has r5 a2 h).bind fun v6 =>
    if v6 = 0 then
    (some ((-1), h))
    else
    (if a1 = a2 then
    (some ((-1), h))
    else
    ((tm_gR h 8 2 this).bind fun r7 =>
    (tm_gR h 8 0 this).bind fun r8 =>
    (fX1_keep r7 r8 h).bind fun h9 =>
    (tm_gR h9 8 0 this).bind fun r10 =>
    (tm_gR h9 4 1 r10).bind fun r11 =>
    (fX0_exchange r11 a1 a2 h9).bind fun q12 =>
    some (q12.1, q12.2)))))
noncomputable def fX8_readNow (this : Nat) (h : tm_H) : Option (Nat × tm_H) :=
  tm_th h 8 this (
    (tm_gR h 8 4 this).bind fun r1 =>
    (tm_gR h 8 0 this).bind fun r2 =>
    (fX3_read r1 r2 h).bind fun h3 =>
    (tm_gR h3 8 4 this).bind fun r4 =>
    some (r4, h3))
noncomputable def fX8_swap (this : Nat) (a1 : Int) (a2 : Int) (h : tm_H) : Option (Int × tm_H) :=
  tm_th h 8 this (
    (tm_gR h 8 0 this).bind fun r1 =>
    (tm_gR h 4 1 r1).bind fun r2 =>
    (fX0_has r2 a1 h).bind fun v3 =>
    if v3 = 0 then
    (some ((-1), h))
    else
    ((tm_gR h 8 0 this).bind fun r4 =>
    (tm_gR h 4 1 r4).bind fun r5 =>
    (fX0_has r5 a2 h).bind fun v6 =>
    if v6 = 0 then
    (some ((-1), h))
    else
    ((tm_gR h 8 2 this).bind fun r7 =>
    (tm_gR h 8 0 this).bind fun r8 =>
    (fX1_keep r7 r8 h).bind fun h9 =>
    (tm_gR h9 8 0 this).bind fun r10 =>
    (tm_gR h9 4 1 r10).bind fun r11 =>
    (fX0_trade r11 a1 a2 h9).bind fun h12 =>
    (fX8_readNow this h12).bind fun q13 =>
    (fX3_markCount q13.1 q13.2).bind fun v14 =>
    some (v14, q13.2))))
noncomputable def fX8_askedLength_S0 (this : Nat) (h : tm_H) (st : (Int × Int) ⊕ (Int × Int)) : Option (((Int × Int) ⊕ (Int × Int)) ⊕ (Int)) := match st with
  | .inl ((x1, x2)) =>
    if x2 < 4 then
    ((tm_gR h 8 5 this).bind fun r1 =>
    (tm_lI h 0 r1 x2).bind fun v2 =>
    if v2 = ((-1)) then
    (some (.inl (.inr ((x1, x2)))))
    else
    ((tm_gR h 8 0 this).bind fun r3 =>
    (tm_gR h 4 0 r3).bind fun r4 =>
    (tm_gR h 8 5 this).bind fun r5 =>
    (tm_lI h 0 r5 x2).bind fun v6 =>
    (fX7_has r4 v6 h).bind fun v7 =>
    if v7 = 0 then
    (some (.inr ((-1))))
    else
    (if x1 < x2 then
    (some (.inr ((-1))))
    else
    (some (.inl (.inr (((tm_wr (x1 + 1)), x2))))))))
    else
    (if x1 = 0 then
    (some (.inr ((-1))))
    else
    (some (.inr x1)))
  | .inr ((x1, x2)) =>
    some (.inl (.inl ((x1, (tm_wr (x2 + 1))))))
noncomputable def fX8_askedLength_L4 (this : Nat) (h : tm_H) (x1 : Int) (x2 : Int) : Option (Int) := tm_wl (fX8_askedLength_S0 this h) (.inl ((x1, x2)))
noncomputable def fX8_askedLength_L51 (this : Nat) (h : tm_H) (x1 : Int) (x2 : Int) : Option (Int) := tm_wl (fX8_askedLength_S0 this h) (.inr ((x1, x2)))
theorem fX8_askedLength_L4_eq (this : Nat) (h : tm_H) (x1 : Int) (x2 : Int) : fX8_askedLength_L4 this h x1 x2 =
    if x2 < 4 then
    ((tm_gR h 8 5 this).bind fun r8 =>
    (tm_lI h 0 r8 x2).bind fun v9 =>
    if v9 = ((-1)) then
    (fX8_askedLength_L51 this h x1 x2)
    else
    ((tm_gR h 8 0 this).bind fun r10 =>
    (tm_gR h 4 0 r10).bind fun r11 =>
    (tm_gR h 8 5 this).bind fun r12 =>
    (tm_lI h 0 r12 x2).bind fun v13 =>
    (fX7_has r11 v13 h).bind fun v14 =>
    if v14 = 0 then
    (some ((-1)))
    else
    (if x1 < x2 then
    (some ((-1)))
    else
    (fX8_askedLength_L51 this h (tm_wr (x1 + 1)) x2))))
    else
    (if x1 = 0 then
    (some ((-1)))
    else
    (some x1)) := by
  unfold fX8_askedLength_L4
  rw [tm_wl_eq]
  simp only [fX8_askedLength_S0, tm_go_ite, tm_go_bind, tm_go_inl, tm_go_inr, tm_go_out, tm_go_th]
  try rfl
theorem fX8_askedLength_L51_eq (this : Nat) (h : tm_H) (x1 : Int) (x2 : Int) : fX8_askedLength_L51 this h x1 x2 =
    fX8_askedLength_L4 this h x1 (tm_wr (x2 + 1)) := by
  unfold fX8_askedLength_L51
  rw [tm_wl_eq]
  simp only [fX8_askedLength_S0, tm_go_ite, tm_go_bind, tm_go_inl, tm_go_inr, tm_go_out, tm_go_th]
  try rfl
noncomputable def fX8_askedLength (this : Nat) (h : tm_H) : Option (Int) :=
  tm_th h 8 this (
    fX8_askedLength_L4 this h 0 0)
noncomputable def fX8_ask (this : Nat) (a1 : Int) (a2 : Int) (a3 : Int) (a4 : Int) (h : tm_H) : Option (Int × tm_H) :=
  tm_th h 8 this (
    (tm_gR h 8 5 this).bind fun r1 =>
    (tm_wI h 0 r1 0 a1).bind fun h2 =>
    (tm_gR h2 8 5 this).bind fun r3 =>
    (tm_wI h2 0 r3 1 a2).bind fun h4 =>
    (tm_gR h4 8 5 this).bind fun r5 =>
    (tm_wI h4 0 r5 2 a3).bind fun h6 =>
    (tm_gR h6 8 5 this).bind fun r7 =>
    (tm_wI h6 0 r7 3 a4).bind fun h8 =>
    (fX8_askedLength this h8).bind fun v9 =>
    if 0 < v9 then
    ((tm_gR h8 8 0 this).bind fun r10 =>
    (tm_gR h8 4 2 r10).bind fun r11 =>
    (tm_gR h8 8 0 this).bind fun r12 =>
    (tm_gR h8 4 0 r12).bind fun r13 =>
    (tm_gR h8 8 5 this).bind fun r14 =>
    (fX5_hasLike r11 r13 r14 v9 h8).bind fun v15 =>
    if v15 = 0 then
    (some (v9, h8))
    else
    (some ((-2), h8)))
    else
    (some (v9, h8)))
noncomputable def fX8_addTerm (this : Nat) (a1 : Int) (a2 : Int) (a3 : Int) (a4 : Int) (h : tm_H) : Option (Int × tm_H) :=
  tm_th h 8 this (
    (fX8_ask this a1 a2 a3 a4 h).bind fun q1 =>
    if q1.1 < 0 then
    (some (q1.1, q1.2))
    else
    ((tm_gR q1.2 8 0 this).bind fun r2 =>
    (tm_gR q1.2 4 2 r2).bind fun r3 =>
    (fX5_size r3 q1.2).bind fun v4 =>
    if v4 < 12 then
    ((tm_gR q1.2 8 2 this).bind fun r5 =>
    (tm_gR q1.2 8 0 this).bind fun r6 =>
    (fX1_keep r5 r6 q1.2).bind fun h7 =>
    (tm_gR h7 8 0 this).bind fun r8 =>
    (tm_gR h7 4 2 r8).bind fun r9 =>
    (tm_gR h7 8 5 this).bind fun r10 =>
    (fX5_add r9 r10 q1.1 h7).bind fun h11 =>
    (tm_gR h11 8 0 this).bind fun r12 =>
    (tm_gR h11 4 2 r12).bind fun r13 =>
    (fX5_size r13 h11).bind fun v14 =>
    some (tm_wr (v14 - 1), h11))
    else
    (some ((-3), q1.2))))
noncomputable def fX8_removeTerm (this : Nat) (a1 : Int) (h : tm_H) : Option (Int × tm_H) :=
  tm_th h 8 this (
    (tm_gR h 8 0 this).bind fun r1 =>
    (tm_gR h 4 2 r1).bind fun r2 =>
    (fX5_has r2 a1 h).bind fun v3 =>
    if v3 = 0 then
    (some ((-1), h))
    else
    ((tm_gR h 8 2 this).bind fun r4 =>
    (tm_gR h 8 0 this).bind fun r5 =>
    (fX1_keep r4 r5 h).bind fun h6 =>
    (tm_gR h6 8 0 this).bind fun r7 =>
    (tm_gR h6 4 2 r7).bind fun r8 =>
    (fX5_drop r8 a1 h6).bind fun h9 =>
    (tm_gR h9 8 0 this).bind fun r10 =>
    (tm_gR h9 4 2 r10).bind fun r11 =>
    (fX5_size r11 h9).bind fun v12 =>
    some (v12, h9)))
noncomputable def fX8_setQuiet_L54 (this : Nat) (a1 : Int) (a2 : Int) (s0 : Nat) (s1 : Int) (s2 : Int) (h : tm_H) : Option (Int × tm_H) :=
  (fX5_hush s0 s1 s2 h).bind fun h9 =>
  (fX8_readNow this h9).bind fun q10 =>
  (fX3_markCount q10.1 q10.2).bind fun v11 =>
  some (v11, q10.2)
noncomputable def fX8_setQuiet (this : Nat) (a1 : Int) (a2 : Int) (h : tm_H) : Option (Int × tm_H) :=
  tm_th h 8 this (
    (tm_gR h 8 0 this).bind fun r1 =>
    (tm_gR h 4 2 r1).bind fun r2 =>
    (fX5_has r2 a1 h).bind fun v3 =>
    if v3 = 0 then
    (some ((-1), h))
    else
    (if a2 < 0 then
    (some ((-1), h))
    else
    (if 1 < a2 then
    (some ((-1), h))
    else
    ((tm_gR h 8 2 this).bind fun r4 =>
    (tm_gR h 8 0 this).bind fun r5 =>
    (fX1_keep r4 r5 h).bind fun h6 =>
    (tm_gR h6 8 0 this).bind fun r7 =>
    (tm_gR h6 4 2 r7).bind fun r8 =>
    if a2 = 1 then
    (fX8_setQuiet_L54 this a1 a2 r8 a1 1 h6)
    else
    (fX8_setQuiet_L54 this a1 a2 r8 a1 0 h6)))))
noncomputable def fX8_setBase (this : Nat) (a1 : Int) (a2 : Int) (h : tm_H) : Option (Int × tm_H) :=
  tm_th h 8 this (
    (tm_gR h 8 0 this).bind fun r1 =>
    (tm_gR h 4 0 r1).bind fun r2 =>
    (fX7_has r2 a1 h).bind fun v3 =>
    if v3 = 0 then
    (some ((-1), h))
    else
    ((tm_gR h 8 0 this).bind fun r4 =>
    (tm_gR h 4 0 r4).bind fun r5 =>
    (fX7_has r5 a2 h).bind fun v6 =>
    if v6 = 0 then
    (some ((-1), h))
    else
    ((tm_gR h 8 0 this).bind fun r7 =>
    (fX4_mayHaveBase r7 a1 a2 h).bind fun q8 =>
    if q8.1 = 0 then
    (some ((-2), q8.2))
    else
    ((tm_gR q8.2 8 2 this).bind fun r9 =>
    (tm_gR q8.2 8 0 this).bind fun r10 =>
    (fX1_keep r9 r10 q8.2).bind fun h11 =>
    (tm_gR h11 8 0 this).bind fun r12 =>
    (tm_gR h11 4 0 r12).bind fun r13 =>
    (fX7_baseOf r13 a1 h11).bind fun v14 =>
    (tm_gR h11 8 0 this).bind fun r15 =>
    (tm_gR h11 4 0 r15).bind fun r16 =>
    (fX7_putBase r16 a1 a2 h11).bind fun h17 =>
    some (v14, h17)))))
noncomputable def fX8_take (this : Nat) (a1 : Int) (h : tm_H) : Option (Int × tm_H) :=
  tm_th h 8 this (
    (tm_gR h 8 0 this).bind fun r1 =>
    (fX4_hasSlot r1 a1 h).bind fun v2 =>
    if v2 = 0 then
    (some ((-1), h))
    else
    ((tm_gR h 8 2 this).bind fun r3 =>
    (tm_gR h 8 0 this).bind fun r4 =>
    (fX1_keep r3 r4 h).bind fun h5 =>
    (tm_gR h5 8 0 this).bind fun r6 =>
    (fX4_keepChapters r6 a1 h5).bind fun h7 =>
    (tm_gR h7 8 0 this).bind fun r8 =>
    (tm_gR h7 4 1 r8).bind fun r9 =>
    (fX0_total r9 h7).bind fun v10 =>
    some (v10, h7)))
noncomputable def fX8_restore (this : Nat) (a1 : Int) (h : tm_H) : Option (Int × tm_H) :=
  tm_th h 8 this (
    (tm_gR h 8 0 this).bind fun r1 =>
    (fX4_hasSlot r1 a1 h).bind fun v2 =>
    if v2 = 0 then
    (some ((-1), h))
    else
    ((tm_gR h 8 0 this).bind fun r3 =>
    (fX4_isTaken r3 a1 h).bind fun v4 =>
    if v4 = 0 then
    (some ((-2), h))
    else
    ((tm_gR h 8 2 this).bind fun r5 =>
    (tm_gR h 8 0 this).bind fun r6 =>
    (fX1_keep r5 r6 h).bind fun h7 =>
    (tm_gR h7 8 0 this).bind fun r8 =>
    (fX4_bringChapters r8 a1 h7).bind fun h9 =>
    (tm_gR h9 8 0 this).bind fun r10 =>
    (tm_gR h9 4 1 r10).bind fun r11 =>
    (fX0_total r11 h9).bind fun v12 =>
    some (v12, h9))))
noncomputable def fX8_undo (this : Nat) (h : tm_H) : Option (Int × tm_H) :=
  tm_th h 8 this (
    (tm_gR h 8 2 this).bind fun r1 =>
    (fX1_size r1 h).bind fun v2 =>
    if v2 = 0 then
    (some ((-2), h))
    else
    ((tm_gR h 8 2 this).bind fun r3 =>
    (tm_gR h 8 0 this).bind fun r4 =>
    (fX1_giveBack r3 r4 h).bind fun h5 =>
    (tm_gR h5 8 2 this).bind fun r6 =>
    (fX1_size r6 h5).bind fun v7 =>
    some (v7, h5)))
noncomputable def fX8_append (this : Nat) (a1 : Int) (h : tm_H) : Option (Int × tm_H) :=
  tm_th h 8 this (
    if a1 < 1 then
    (some ((-1), h))
    else
    (if 255 < a1 then
    (some ((-1), h))
    else
    ((tm_gR h 8 3 this).bind fun r1 =>
    (tm_gR h 2 0 r1).bind fun r2 =>
    (fX6_length r2 h).bind fun v3 =>
    if v3 < 140 then
    ((tm_gR h 8 3 this).bind fun r4 =>
    (tm_gR h 2 0 r4).bind fun r5 =>
    (fX6_add r5 a1 h).bind fun h6 =>
    (tm_gR h6 8 3 this).bind fun r7 =>
    (tm_gR h6 2 0 r7).bind fun r8 =>
    (fX6_length r8 h6).bind fun v9 =>
    some (v9, h6))
    else
    (some ((-3), h)))))
noncomputable def fX8_clearText (this : Nat) (h : tm_H) : Option (Int × tm_H) :=
  tm_th h 8 this (
    (tm_gR h 8 3 this).bind fun r1 =>
    (tm_gR h 2 0 r1).bind fun r2 =>
    (fX6_length r2 h).bind fun v3 =>
    (tm_gR h 8 3 this).bind fun r4 =>
    (tm_gR h 2 0 r4).bind fun r5 =>
    (fX6_empty r5 h).bind fun h6 =>
    some (v3, h6))
noncomputable def fX8_load (this : Nat) (h : tm_H) : Option (Int × tm_H) :=
  tm_th h 8 this (
    (tm_gR h 8 3 this).bind fun r1 =>
    (tm_gR h 8 0 this).bind fun r2 =>
    (fX2_read r1 r2 h).bind fun q3 =>
    if q3.1 < 0 then
    (some (q3.1, q3.2))
    else
    ((tm_gR q3.2 8 2 this).bind fun r4 =>
    (tm_gR q3.2 8 0 this).bind fun r5 =>
    (fX1_keep r4 r5 q3.2).bind fun h6 =>
    (tm_gR h6 8 0 this).bind fun r7 =>
    (tm_gR h6 8 3 this).bind fun r8 =>
    (tm_gR h6 2 1 r8).bind fun r9 =>
    (fX4_copyFrom r7 r9 h6).bind fun h10 =>
    (tm_gR h10 8 3 this).bind fun r11 =>
    (tm_gR h10 2 0 r11).bind fun r12 =>
    (fX6_empty r12 h10).bind fun h13 =>
    some (q3.1, h13)))
noncomputable def fX8_count (this : Nat) (a1 : Int) (h : tm_H) : Option (Int × tm_H) :=
  tm_th h 8 this (
    if a1 = 0 then
    ((tm_gR h 8 0 this).bind fun r1 =>
    (tm_gR h 4 0 r1).bind fun r2 =>
    (fX7_size r2 h).bind fun v3 =>
    some (v3, h))
    else
    (if a1 = 1 then
    ((tm_gR h 8 0 this).bind fun r5 =>
    (tm_gR h 4 1 r5).bind fun r6 =>
    (fX0_total r6 h).bind fun v7 =>
    some (v7, h))
    else
    (if a1 = 2 then
    ((tm_gR h 8 0 this).bind fun r9 =>
    (tm_gR h 4 2 r9).bind fun r10 =>
    (fX5_size r10 h).bind fun v11 =>
    some (v11, h))
    else
    (if a1 = 3 then
    ((tm_gR h 8 0 this).bind fun r13 =>
    (tm_gR h 4 2 r13).bind fun r14 =>
    (fX5_quietCount r14 h).bind fun v15 =>
    some (v15, h))
    else
    (if a1 = 4 then
    ((fX8_readNow this h).bind fun q17 =>
    (fX3_markCount q17.1 q17.2).bind fun v18 =>
    some (v18, q17.2))
    else
    (if a1 = 5 then
    ((fX8_readNow this h).bind fun q20 =>
    (fX3_readingCount q20.1 q20.2).bind fun v21 =>
    some (v21, q20.2))
    else
    (if a1 = 6 then
    ((tm_gR h 8 0 this).bind fun r23 =>
    (tm_gR h 4 0 r23).bind fun r24 =>
    (fX7_formCount r24 h).bind fun v25 =>
    some (v25, h))
    else
    (if a1 = 7 then
    ((tm_gR h 8 0 this).bind fun r27 =>
    (fX4_takenCount r27 h).bind fun v28 =>
    some (v28, h))
    else
    (if a1 = 8 then
    ((tm_gR h 8 2 this).bind fun r30 =>
    (fX1_size r30 h).bind fun v31 =>
    some (v31, h))
    else
    (if a1 = 9 then
    ((tm_gR h 8 3 this).bind fun r33 =>
    (tm_gR h 2 0 r33).bind fun r34 =>
    (fX6_length r34 h).bind fun v35 =>
    some (v35, h))
    else
    (some ((-1), h))))))))))))
noncomputable def fX8_letter (this : Nat) (a1 : Int) (a2 : Int) (h : tm_H) : Option (Int) :=
  tm_th h 8 this (
    (tm_gR h 8 0 this).bind fun r1 =>
    (tm_gR h 4 0 r1).bind fun r2 =>
    (fX7_has r2 a1 h).bind fun v3 =>
    if v3 = 0 then
    (some ((-1)))
    else
    (if a2 < 0 then
    (some ((-1)))
    else
    ((tm_gR h 8 0 this).bind fun r4 =>
    (tm_gR h 4 0 r4).bind fun r5 =>
    (fX7_letterAt r5 a1 a2 h).bind fun v6 =>
    some v6)))
noncomputable def fX8_base (this : Nat) (a1 : Int) (h : tm_H) : Option (Int) :=
  tm_th h 8 this (
    (tm_gR h 8 0 this).bind fun r1 =>
    (tm_gR h 4 0 r1).bind fun r2 =>
    (fX7_has r2 a1 h).bind fun v3 =>
    if v3 = 0 then
    (some ((-1)))
    else
    ((tm_gR h 8 0 this).bind fun r4 =>
    (tm_gR h 4 0 r4).bind fun r5 =>
    (fX7_baseOf r5 a1 h).bind fun v6 =>
    some v6))
noncomputable def fX8_place (this : Nat) (a1 : Int) (a2 : Int) (a3 : Int) (h : tm_H) : Option (Int × tm_H) :=
  tm_th h 8 this (
    (tm_gR h 8 0 this).bind fun r1 =>
    (tm_gR h 4 1 r1).bind fun r2 =>
    (fX0_has r2 a1 h).bind fun v3 =>
    if v3 = 0 then
    (some ((-1), h))
    else
    (if a2 < 0 then
    (some ((-1), h))
    else
    (if a3 < 0 then
    (some ((-1), h))
    else
    (if 3 < a3 then
    (some ((-1), h))
    else
    ((tm_gR h 8 0 this).bind fun r4 =>
    (tm_gR h 4 1 r4).bind fun r5 =>
    (fX0_hasPlace r5 a1 a2 h).bind fun v6 =>
    if v6 = 0 then
    (some ((-99), h))
    else
    (if a3 = 0 then
    ((tm_gR h 8 0 this).bind fun r7 =>
    (tm_gR h 4 1 r7).bind fun r8 =>
    (fX0_wordAt r8 a1 a2 h).bind fun v9 =>
    some (v9, h))
    else
    (if a3 = 1 then
    ((fX8_readNow this h).bind fun q11 =>
    (fX3_termOver q11.1 a1 a2 q11.2).bind fun v12 =>
    some (v12, q11.2))
    else
    (if a3 = 2 then
    ((fX8_readNow this h).bind fun q14 =>
    (fX3_stepOver q14.1 a1 a2 q14.2).bind fun v15 =>
    some (v15, q14.2))
    else
    ((fX8_readNow this h).bind fun q17 =>
    (fX3_hasMark q17.1 a1 a2 q17.2).bind fun v18 =>
    if v18 = 0 then
    (some (0, q17.2))
    else
    (some (1, q17.2)))))))))))
noncomputable def fX8_term (this : Nat) (a1 : Int) (a2 : Int) (h : tm_H) : Option (Int × tm_H) :=
  tm_th h 8 this (
    (tm_gR h 8 0 this).bind fun r1 =>
    (tm_gR h 4 2 r1).bind fun r2 =>
    (fX5_has r2 a1 h).bind fun v3 =>
    if v3 = 0 then
    (some ((-1), h))
    else
    (if a2 = 0 then
    ((tm_gR h 8 0 this).bind fun r4 =>
    (tm_gR h 4 2 r4).bind fun r5 =>
    (fX5_lengthOf r5 a1 h).bind fun v6 =>
    some (v6, h))
    else
    (if a2 = 1 then
    ((tm_gR h 8 0 this).bind fun r8 =>
    (tm_gR h 4 2 r8).bind fun r9 =>
    (fX5_wordAt r9 a1 (tm_wr (a2 - 1)) h).bind fun v10 =>
    some (v10, h))
    else
    (if a2 = 2 then
    ((tm_gR h 8 0 this).bind fun r12 =>
    (tm_gR h 4 2 r12).bind fun r13 =>
    (fX5_wordAt r13 a1 (tm_wr (a2 - 1)) h).bind fun v14 =>
    some (v14, h))
    else
    (if a2 = 3 then
    ((tm_gR h 8 0 this).bind fun r16 =>
    (tm_gR h 4 2 r16).bind fun r17 =>
    (fX5_wordAt r17 a1 (tm_wr (a2 - 1)) h).bind fun v18 =>
    some (v18, h))
    else
    (if a2 = 4 then
    ((tm_gR h 8 0 this).bind fun r20 =>
    (tm_gR h 4 2 r20).bind fun r21 =>
    (fX5_wordAt r21 a1 (tm_wr (a2 - 1)) h).bind fun v22 =>
    some (v22, h))
    else
    (if a2 = 5 then
    ((tm_gR h 8 0 this).bind fun r24 =>
    (tm_gR h 4 2 r24).bind fun r25 =>
    (fX5_isQuiet r25 a1 h).bind fun v26 =>
    if v26 = 0 then
    (some (0, h))
    else
    (some (1, h)))
    else
    (if a2 = 6 then
    ((fX8_readNow this h).bind fun q28 =>
    (fX3_timesRead q28.1 a1 q28.2).bind fun v29 =>
    some (v29, q28.2))
    else
    (if a2 = 7 then
    ((tm_gR h 8 0 this).bind fun r31 =>
    (fX4_occurrences r31 a1 h).bind fun v32 =>
    some (v32, h))
    else
    (if a2 = 8 then
    ((fX8_readNow this h).bind fun q34 =>
    (fX3_marksOf q34.1 a1 q34.2).bind fun v35 =>
    some (v35, q34.2))
    else
    (some ((-1), h))))))))))))
noncomputable def fX8_firstUse (this : Nat) (a1 : Int) (a2 : Int) (h : tm_H) : Option (Int × tm_H) :=
  tm_th h 8 this (
    (tm_gR h 8 0 this).bind fun r1 =>
    (tm_gR h 4 2 r1).bind fun r2 =>
    (fX5_has r2 a1 h).bind fun v3 =>
    if v3 = 0 then
    (some ((-1), h))
    else
    ((tm_gR h 8 0 this).bind fun r4 =>
    (tm_gR h 4 1 r4).bind fun r5 =>
    (fX0_has r5 a2 h).bind fun v6 =>
    if v6 = 0 then
    (some ((-1), h))
    else
    ((fX8_readNow this h).bind fun q7 =>
    (fX3_firstPlace q7.1 a1 a2 q7.2).bind fun v8 =>
    some (v8, q7.2))))
noncomputable def fX8_mark (this : Nat) (a1 : Int) (a2 : Int) (h : tm_H) : Option (Int × tm_H) :=
  tm_th h 8 this (
    if a1 < 0 then
    (some ((-1), h))
    else
    (if a2 < 0 then
    (some ((-1), h))
    else
    (if 2 < a2 then
    (some ((-1), h))
    else
    ((fX8_readNow this h).bind fun q1 =>
    (fX3_markPart q1.1 a1 a2 q1.2).bind fun v2 =>
    some (v2, q1.2)))))
noncomputable def fX8_why (this : Nat) (a1 : Int) (a2 : Int) (a3 : Int) (h : tm_H) : Option (Int × tm_H) :=
  tm_th h 8 this (
    (tm_gR h 8 0 this).bind fun r1 =>
    (tm_gR h 4 1 r1).bind fun r2 =>
    (fX0_hasPlace r2 a1 a2 h).bind fun v3 =>
    if v3 = 0 then
    (some ((-1), h))
    else
    ((tm_gR h 8 0 this).bind fun r4 =>
    (tm_gR h 4 2 r4).bind fun r5 =>
    (fX5_has r5 a3 h).bind fun v6 =>
    if v6 = 0 then
    (some ((-1), h))
    else
    ((tm_gR h 8 0 this).bind fun r7 =>
    (fX4_occursAt r7 a3 a1 a2 h).bind fun v8 =>
    if v8 = 0 then
    (some (1, h))
    else
    ((fX8_readNow this h).bind fun q9 =>
    (fX3_stepOver q9.1 a1 a2 q9.2).bind fun v10 =>
    if 0 < v10 then
    (some (3, q9.2))
    else
    ((fX3_termOver q9.1 a1 a2 q9.2).bind fun v11 =>
    if v11 = a3 then
    ((tm_gR q9.2 8 0 this).bind fun r12 =>
    (tm_gR q9.2 4 2 r12).bind fun r13 =>
    (fX5_isQuiet r13 a3 q9.2).bind fun v14 =>
    if v14 = 0 then
    ((fX3_firstPlace q9.1 a3 a1 q9.2).bind fun v15 =>
    if v15 = a2 then
    (some (0, q9.2))
    else
    (some (5, q9.2)))
    else
    (some (4, q9.2)))
    else
    (some (2, q9.2)))))))
noncomputable def fX8_nested (this : Nat) (a1 : Int) (a2 : Int) (h : tm_H) : Option (Int) :=
  tm_th h 8 this (
    (tm_gR h 8 0 this).bind fun r1 =>
    (tm_gR h 4 2 r1).bind fun r2 =>
    (fX5_has r2 a1 h).bind fun v3 =>
    if v3 = 0 then
    (some ((-1)))
    else
    ((tm_gR h 8 0 this).bind fun r4 =>
    (tm_gR h 4 2 r4).bind fun r5 =>
    (fX5_has r5 a2 h).bind fun v6 =>
    if v6 = 0 then
    (some ((-1)))
    else
    ((tm_gR h 8 0 this).bind fun r7 =>
    (fX4_timesWithin r7 a1 a2 h).bind fun v8 =>
    some v8)))
noncomputable def fX8_gain (this : Nat) (a1 : Int) (a2 : Int) (a3 : Int) (a4 : Int) (h : tm_H) : Option (Int × tm_H) :=
  tm_th h 8 this (
    (fX8_ask this a1 a2 a3 a4 h).bind fun q1 =>
    if q1.1 < 0 then
    (some (q1.1, q1.2))
    else
    ((fX8_readNow this q1.2).bind fun q2 =>
    (fX3_markCount q2.1 q2.2).bind fun v3 =>
    (tm_gR q2.2 8 1 this).bind fun r4 =>
    (tm_gR q2.2 8 0 this).bind fun r5 =>
    (fX4_copyFrom r4 r5 q2.2).bind fun h6 =>
    (tm_gR h6 8 1 this).bind fun r7 =>
    (tm_gR h6 4 2 r7).bind fun r8 =>
    (tm_gR h6 8 5 this).bind fun r9 =>
    (fX5_add r8 r9 q1.1 h6).bind fun h10 =>
    (tm_gR h10 8 4 this).bind fun r11 =>
    (tm_gR h10 8 1 this).bind fun r12 =>
    (fX3_read r11 r12 h10).bind fun h13 =>
    (tm_gR h13 8 4 this).bind fun r14 =>
    (fX3_markCount r14 h13).bind fun v15 =>
    some (tm_wr ((tm_wr (100 + v15)) - v3), h13)))
noncomputable def fX8_greediest_S0 (this : Nat) (st : (Int × Int × Int × tm_H) ⊕ (Int × Int × Int × tm_H)) : Option (((Int × Int × Int × tm_H) ⊕ (Int × Int × Int × tm_H)) ⊕ (Int × tm_H)) := match st with
  | .inl ((x1, x2, x3, h)) =>
    (tm_gR h 8 0 this).bind fun r1 =>
    (tm_gR h 4 2 r1).bind fun r2 =>
    (fX5_size r2 h).bind fun v3 =>
    if x3 < v3 then
    ((tm_gR h 8 1 this).bind fun r4 =>
    (tm_gR h 8 0 this).bind fun r5 =>
    (fX4_copyFrom r4 r5 h).bind fun h6 =>
    (tm_gR h6 8 1 this).bind fun r7 =>
    (tm_gR h6 4 2 r7).bind fun r8 =>
    (fX5_drop r8 x3 h6).bind fun h9 =>
    (tm_gR h9 8 4 this).bind fun r10 =>
    (tm_gR h9 8 1 this).bind fun r11 =>
    (fX3_read r10 r11 h9).bind fun h12 =>
    (tm_gR h12 8 4 this).bind fun r13 =>
    (fX3_markCount r13 h12).bind fun v14 =>
    if x2 < v14 then
    ((tm_gR h12 8 4 this).bind fun r15 =>
    (fX3_markCount r15 h12).bind fun v16 =>
    some (.inl (.inr ((x3, v16, x3, h12)))))
    else
    (some (.inl (.inr ((x1, x2, x3, h12))))))
    else
    (some (.inr (x1, h)))
  | .inr ((x1, x2, x3, h)) =>
    some (.inl (.inl ((x1, x2, (tm_wr (x3 + 1)), h))))
noncomputable def fX8_greediest_L7 (this : Nat) (x1 : Int) (x2 : Int) (x3 : Int) (h : tm_H) : Option (Int × tm_H) := tm_wl (fX8_greediest_S0 this) (.inl ((x1, x2, x3, h)))
noncomputable def fX8_greediest_L75 (this : Nat) (x1 : Int) (x2 : Int) (x3 : Int) (h : tm_H) : Option (Int × tm_H) := tm_wl (fX8_greediest_S0 this) (.inr ((x1, x2, x3, h)))
theorem fX8_greediest_L7_eq (this : Nat) (x1 : Int) (x2 : Int) (x3 : Int) (h : tm_H) : fX8_greediest_L7 this x1 x2 x3 h =
    (tm_gR h 8 0 this).bind fun r17 =>
    (tm_gR h 4 2 r17).bind fun r18 =>
    (fX5_size r18 h).bind fun v19 =>
    if x3 < v19 then
    ((tm_gR h 8 1 this).bind fun r20 =>
    (tm_gR h 8 0 this).bind fun r21 =>
    (fX4_copyFrom r20 r21 h).bind fun h22 =>
    (tm_gR h22 8 1 this).bind fun r23 =>
    (tm_gR h22 4 2 r23).bind fun r24 =>
    (fX5_drop r24 x3 h22).bind fun h25 =>
    (tm_gR h25 8 4 this).bind fun r26 =>
    (tm_gR h25 8 1 this).bind fun r27 =>
    (fX3_read r26 r27 h25).bind fun h28 =>
    (tm_gR h28 8 4 this).bind fun r29 =>
    (fX3_markCount r29 h28).bind fun v30 =>
    if x2 < v30 then
    ((tm_gR h28 8 4 this).bind fun r31 =>
    (fX3_markCount r31 h28).bind fun v32 =>
    fX8_greediest_L75 this x3 v32 x3 h28)
    else
    (fX8_greediest_L75 this x1 x2 x3 h28))
    else
    (some (x1, h)) := by
  unfold fX8_greediest_L7
  rw [tm_wl_eq]
  simp only [fX8_greediest_S0, tm_go_ite, tm_go_bind, tm_go_inl, tm_go_inr, tm_go_out, tm_go_th]
  try rfl
theorem fX8_greediest_L75_eq (this : Nat) (x1 : Int) (x2 : Int) (x3 : Int) (h : tm_H) : fX8_greediest_L75 this x1 x2 x3 h =
    fX8_greediest_L7 this x1 x2 (tm_wr (x3 + 1)) h := by
  unfold fX8_greediest_L75
  rw [tm_wl_eq]
  simp only [fX8_greediest_S0, tm_go_ite, tm_go_bind, tm_go_inl, tm_go_inr, tm_go_out, tm_go_th]
  try rfl
noncomputable def fX8_greediest (this : Nat) (h : tm_H) : Option (Int × tm_H) :=
  tm_th h 8 this (
    fX8_greediest_L7 this ((-99)) ((-1)) 0 h)
noncomputable def fX9_init_S0 (this : Nat) (n : Nat) (st : (Int × tm_H)) : Option (((Int × tm_H)) ⊕ (tm_H × Nat)) := match st with
  | (x1, h) =>
    if x1 < 26 then
    ((tm_gR h 9 6 this).bind fun r25 =>
    (tm_wI h 0 r25 (tm_wr (8 * x1)) (tm_wr (97 + x1))).bind fun h26 =>
    some (.inl (((tm_wr (x1 + 1)), h26))))
    else
    (some (.inr (h, n + 10)))
noncomputable def fX9_init_L121 (this : Nat) (n : Nat) (x1 : Int) (h : tm_H) : Option (tm_H × Nat) := tm_wl (fX9_init_S0 this n) ((x1, h))
theorem fX9_init_L121_eq (this : Nat) (n : Nat) (x1 : Int) (h : tm_H) : fX9_init_L121 this n x1 h =
    if x1 < 26 then
    ((tm_gR h 9 6 this).bind fun r27 =>
    (tm_wI h 0 r27 (tm_wr (8 * x1)) (tm_wr (97 + x1))).bind fun h28 =>
    fX9_init_L121 this n (tm_wr (x1 + 1)) h28)
    else
    (some (h, n + 10)) := by
  unfold fX9_init_L121
  rw [tm_wl_eq]
  simp only [fX9_init_S0, tm_go_ite, tm_go_bind, tm_go_inl, tm_go_inr, tm_go_out, tm_go_th]
  try rfl
noncomputable def fX9_init_S1 (this : Nat) (n : Nat) (st : (Int × tm_H)) : Option (((Int × tm_H)) ⊕ (tm_H × Nat)) := match st with
  | (x1, h) =>
    if x1 < 60 then
    ((tm_gR h 9 0 this).bind fun r23 =>
    (tm_wI h 0 r23 (tm_wr (1 + x1)) x1).bind fun h24 =>
    some (.inl (((tm_wr (x1 + 1)), h24))))
    else
    (tm_out (fX9_init_L121 this n 0 h))
noncomputable def fX9_init_L98 (this : Nat) (n : Nat) (x1 : Int) (h : tm_H) : Option (tm_H × Nat) := tm_wl (fX9_init_S1 this n) ((x1, h))
theorem fX9_init_L98_eq (this : Nat) (n : Nat) (x1 : Int) (h : tm_H) : fX9_init_L98 this n x1 h =
    if x1 < 60 then
    ((tm_gR h 9 0 this).bind fun r29 =>
    (tm_wI h 0 r29 (tm_wr (1 + x1)) x1).bind fun h30 =>
    fX9_init_L98 this n (tm_wr (x1 + 1)) h30)
    else
    (fX9_init_L121 this n 0 h) := by
  unfold fX9_init_L98
  rw [tm_wl_eq]
  simp only [fX9_init_S1, tm_go_ite, tm_go_bind, tm_go_inl, tm_go_inr, tm_go_out, tm_go_th]
  try rfl
noncomputable def fX9_init (this : Nat) (h : tm_H) (n : Nat) : Option (tm_H × Nat) :=
  tm_th h 9 this (
    (tm_nw h n (.inr (0, 874, .inl (fun _ => 0)))).bind fun h1 =>
    (tm_sF h1 9 0 this (.inr (some n))).bind fun h2 =>
    (tm_nw h2 (n + 1) (.inr (0, 4370, .inl (fun _ => 0)))).bind fun h3 =>
    (tm_sF h3 9 1 this (.inr (some (n + 1)))).bind fun h4 =>
    (tm_nw h4 (n + 2) (.inr (0, 874, .inl (fun _ => 0)))).bind fun h5 =>
    (tm_sF h5 9 2 this (.inr (some (n + 2)))).bind fun h6 =>
    (tm_nw h6 (n + 3) (.inr (0, 140, .inl (fun _ => 0)))).bind fun h7 =>
    (tm_sF h7 9 4 this (.inr (some (n + 3)))).bind fun h8 =>
    (tm_nw h8 (n + 4) (.inr (0, 480, .inl (fun _ => 0)))).bind fun h9 =>
    (tm_sF h9 9 6 this (.inr (some (n + 4)))).bind fun h10 =>
    (tm_nw h10 (n + 5) (.inr (0, 5, .inl (fun _ => 0)))).bind fun h11 =>
    (tm_sF h11 9 7 this (.inr (some (n + 5)))).bind fun h12 =>
    (tm_nw h12 (n + 6) (.inr (0, 40, .inl (fun _ => 0)))).bind fun h13 =>
    (tm_sF h13 9 8 this (.inr (some (n + 6)))).bind fun h14 =>
    (tm_nw h14 (n + 7) (.inr (0, 40, .inl (fun _ => 0)))).bind fun h15 =>
    (tm_sF h15 9 9 this (.inr (some (n + 7)))).bind fun h16 =>
    (tm_nw h16 (n + 8) (.inr (2, 40, .inl (fun _ => 0)))).bind fun h17 =>
    (tm_sF h17 9 10 this (.inr (some (n + 8)))).bind fun h18 =>
    (tm_nw h18 (n + 9) (.inr (0, 40, .inl (fun _ => 0)))).bind fun h19 =>
    (tm_sF h19 9 13 this (.inr (some (n + 9)))).bind fun h20 =>
    (tm_gR h20 9 0 this).bind fun r21 =>
    (tm_wI h20 0 r21 0 26).bind fun h22 =>
    fX9_init_L98 this n 0 h22)
noncomputable def fX9_in (a1 : Int) (a2 : Int) (a3 : Int) (h : tm_H) : Option (Int) :=
  if a1 < a2 then
  (some 0)
  else
  (if a3 < a1 then
  (some 0)
  else
  (some 1))
noncomputable def fX9_saves_S0 (this : Nat) (a1 : Nat) (st : (Int × tm_H)) : Option (((Int × tm_H)) ⊕ (tm_H)) := match st with
  | (x2, h) =>
    if x2 < 874 then
    ((tm_gR h 9 1 this).bind fun r8 =>
    (tm_gI h 9 3 this).bind fun v9 =>
    (tm_lI h 0 a1 x2).bind fun v10 =>
    (tm_wI h 0 r8 (tm_wr ((tm_wr (874 * v9)) + x2)) v10).bind fun h11 =>
    some (.inl (((tm_wr (x2 + 1)), h11))))
    else
    ((tm_gI h 9 3 this).bind fun v12 =>
    (tm_sF h 9 3 this (.inl (tm_wr (v12 + 1)))).bind fun h13 =>
    some (.inr h13))
noncomputable def fX9_saves_L51 (this : Nat) (a1 : Nat) (x2 : Int) (h : tm_H) : Option (tm_H) := tm_wl (fX9_saves_S0 this a1) ((x2, h))
theorem fX9_saves_L51_eq (this : Nat) (a1 : Nat) (x2 : Int) (h : tm_H) : fX9_saves_L51 this a1 x2 h =
    if x2 < 874 then
    ((tm_gR h 9 1 this).bind fun r14 =>
    (tm_gI h 9 3 this).bind fun v15 =>
    (tm_lI h 0 a1 x2).bind fun v16 =>
    (tm_wI h 0 r14 (tm_wr ((tm_wr (874 * v15)) + x2)) v16).bind fun h17 =>
    fX9_saves_L51 this a1 (tm_wr (x2 + 1)) h17)
    else
    ((tm_gI h 9 3 this).bind fun v18 =>
    (tm_sF h 9 3 this (.inl (tm_wr (v18 + 1)))).bind fun h19 =>
    some h19) := by
  unfold fX9_saves_L51
  rw [tm_wl_eq]
  simp only [fX9_saves_S0, tm_go_ite, tm_go_bind, tm_go_inl, tm_go_inr, tm_go_out, tm_go_th]
  try rfl
noncomputable def fX9_saves_L49 (this : Nat) (a1 : Nat)  (h : tm_H) : Option (tm_H) :=
  fX9_saves_L51 this a1 0 h
noncomputable def fX9_saves_S2 (this : Nat) (a1 : Nat) (st : (Int × tm_H)) : Option (((Int × tm_H)) ⊕ (tm_H)) := match st with
  | (x2, h) =>
    if x2 < 3496 then
    ((tm_gR h 9 1 this).bind fun r2 =>
    (tm_gR h 9 1 this).bind fun r3 =>
    (tm_lI h 0 r3 (tm_wr (x2 + 874))).bind fun v4 =>
    (tm_wI h 0 r2 x2 v4).bind fun h5 =>
    some (.inl (((tm_wr (x2 + 1)), h5))))
    else
    ((tm_gI h 9 3 this).bind fun v6 =>
    (tm_sF h 9 3 this (.inl (tm_wr (v6 - 1)))).bind fun h7 =>
    tm_out (fX9_saves_L49 this a1 h7))
noncomputable def fX9_saves_L10 (this : Nat) (a1 : Nat) (x2 : Int) (h : tm_H) : Option (tm_H) := tm_wl (fX9_saves_S2 this a1) ((x2, h))
theorem fX9_saves_L10_eq (this : Nat) (a1 : Nat) (x2 : Int) (h : tm_H) : fX9_saves_L10 this a1 x2 h =
    if x2 < 3496 then
    ((tm_gR h 9 1 this).bind fun r20 =>
    (tm_gR h 9 1 this).bind fun r21 =>
    (tm_lI h 0 r21 (tm_wr (x2 + 874))).bind fun v22 =>
    (tm_wI h 0 r20 x2 v22).bind fun h23 =>
    fX9_saves_L10 this a1 (tm_wr (x2 + 1)) h23)
    else
    ((tm_gI h 9 3 this).bind fun v24 =>
    (tm_sF h 9 3 this (.inl (tm_wr (v24 - 1)))).bind fun h25 =>
    fX9_saves_L49 this a1 h25) := by
  unfold fX9_saves_L10
  rw [tm_wl_eq]
  simp only [fX9_saves_S2, tm_go_ite, tm_go_bind, tm_go_inl, tm_go_inr, tm_go_out, tm_go_th]
  try rfl
noncomputable def fX9_saves (this : Nat) (a1 : Nat) (h : tm_H) : Option (tm_H) :=
  tm_th h 9 this (
    (tm_gI h 9 3 this).bind fun v1 =>
    if v1 = 5 then
    (fX9_saves_L10 this a1 0 h)
    else
    (fX9_saves_L49 this a1 h))
noncomputable def fX9_undo_S0 (this : Nat) (st : (Int × tm_H)) : Option (((Int × tm_H)) ⊕ (Int × tm_H)) := match st with
  | (x1, h) =>
    if x1 < 874 then
    ((tm_gR h 9 0 this).bind fun r4 =>
    (tm_gR h 9 1 this).bind fun r5 =>
    (tm_gI h 9 3 this).bind fun v6 =>
    (tm_lI h 0 r5 (tm_wr ((tm_wr (874 * v6)) + x1))).bind fun v7 =>
    (tm_wI h 0 r4 x1 v7).bind fun h8 =>
    some (.inl (((tm_wr (x1 + 1)), h8))))
    else
    ((tm_gI h 9 3 this).bind fun v9 =>
    some (.inr (v9, h)))
noncomputable def fX9_undo_L22 (this : Nat) (x1 : Int) (h : tm_H) : Option (Int × tm_H) := tm_wl (fX9_undo_S0 this) ((x1, h))
theorem fX9_undo_L22_eq (this : Nat) (x1 : Int) (h : tm_H) : fX9_undo_L22 this x1 h =
    if x1 < 874 then
    ((tm_gR h 9 0 this).bind fun r10 =>
    (tm_gR h 9 1 this).bind fun r11 =>
    (tm_gI h 9 3 this).bind fun v12 =>
    (tm_lI h 0 r11 (tm_wr ((tm_wr (874 * v12)) + x1))).bind fun v13 =>
    (tm_wI h 0 r10 x1 v13).bind fun h14 =>
    fX9_undo_L22 this (tm_wr (x1 + 1)) h14)
    else
    ((tm_gI h 9 3 this).bind fun v15 =>
    some (v15, h)) := by
  unfold fX9_undo_L22
  rw [tm_wl_eq]
  simp only [fX9_undo_S0, tm_go_ite, tm_go_bind, tm_go_inl, tm_go_inr, tm_go_out, tm_go_th]
  try rfl
noncomputable def fX9_undo (this : Nat) (h : tm_H) : Option (Int × tm_H) :=
  tm_th h 9 this (
    (tm_gI h 9 3 this).bind fun v1 =>
    if v1 = 0 then
    (some ((-2), h))
    else
    ((tm_gI h 9 3 this).bind fun v2 =>
    (tm_sF h 9 3 this (.inl (tm_wr (v2 - 1)))).bind fun h3 =>
    fX9_undo_L22 this 0 h3))
noncomputable def fX9_isWord (this : Nat) (a1 : Int) (h : tm_H) : Option (Int) :=
  tm_th h 9 this (
    (tm_gR h 9 0 this).bind fun r1 =>
    (tm_lI h 0 r1 0).bind fun v2 =>
    (fX9_in a1 0 (tm_wr (v2 - 1)) h).bind fun v3 =>
    (tm_zr v3).bind fun z => some z)
noncomputable def fX9_isChapter (a1 : Int) (h : tm_H) : Option (Int) :=
  (fX9_in a1 0 5 h).bind fun v1 =>
  (tm_zr v1).bind fun z => some z
noncomputable def fX9_size (this : Nat) (a1 : Int) (h : tm_H) : Option (Int) :=
  tm_th h 9 this (
    (tm_gR h 9 0 this).bind fun r1 =>
    (tm_lI h 0 r1 (tm_wr (61 + (tm_wr (41 * a1))))).bind fun v2 =>
    some v2)
noncomputable def fX9_at (a1 : Int) (a2 : Int) (h : tm_H) : Option (Int) :=
  some (tm_wr ((tm_wr ((tm_wr (61 + (tm_wr (41 * a1)))) + 1)) + a2))
noncomputable def fX9_baseAt (this : Nat) (a1 : Int) (a2 : Int) (h : tm_H) : Option (Int) :=
  tm_th h 9 this (
    (tm_gR h 9 0 this).bind fun r1 =>
    (tm_gR h 9 0 this).bind fun r2 =>
    (fX9_at a1 a2 h).bind fun v3 =>
    (tm_lI h 0 r2 v3).bind fun v4 =>
    (tm_lI h 0 r1 (tm_wr (1 + v4))).bind fun v5 =>
    some v5)
noncomputable def fX9_insert_S0 (this : Nat) (a1 : Int) (a2 : Int) (a3 : Int) (st : (Int × tm_H)) : Option (((Int × tm_H)) ⊕ (Int × tm_H)) := match st with
  | (x4, h) =>
    if a2 < x4 then
    ((tm_gR h 9 0 this).bind fun r9 =>
    (fX9_at a1 x4 h).bind fun v10 =>
    (tm_gR h 9 0 this).bind fun r11 =>
    (fX9_at a1 (tm_wr (x4 - 1)) h).bind fun v12 =>
    (tm_lI h 0 r11 v12).bind fun v13 =>
    (tm_wI h 0 r9 v10 v13).bind fun h14 =>
    some (.inl (((tm_wr (x4 + (-1))), h14))))
    else
    ((tm_gR h 9 0 this).bind fun r15 =>
    (fX9_at a1 a2 h).bind fun v16 =>
    (tm_wI h 0 r15 v16 a3).bind fun h17 =>
    (tm_gR h17 9 0 this).bind fun r18 =>
    (tm_lI h17 0 r18 (tm_wr (61 + (tm_wr (41 * a1))))).bind fun v19 =>
    (tm_wI h17 0 r18 (tm_wr (61 + (tm_wr (41 * a1)))) (tm_wr (v19 + 1))).bind fun h20 =>
    (fX9_size this a1 h20).bind fun v21 =>
    some (.inr (v21, h20)))
noncomputable def fX9_insert_L58 (this : Nat) (a1 : Int) (a2 : Int) (a3 : Int) (x4 : Int) (h : tm_H) : Option (Int × tm_H) := tm_wl (fX9_insert_S0 this a1 a2 a3) ((x4, h))
theorem fX9_insert_L58_eq (this : Nat) (a1 : Int) (a2 : Int) (a3 : Int) (x4 : Int) (h : tm_H) : fX9_insert_L58 this a1 a2 a3 x4 h =
    if a2 < x4 then
    ((tm_gR h 9 0 this).bind fun r22 =>
    (fX9_at a1 x4 h).bind fun v23 =>
    (tm_gR h 9 0 this).bind fun r24 =>
    (fX9_at a1 (tm_wr (x4 - 1)) h).bind fun v25 =>
    (tm_lI h 0 r24 v25).bind fun v26 =>
    (tm_wI h 0 r22 v23 v26).bind fun h27 =>
    fX9_insert_L58 this a1 a2 a3 (tm_wr (x4 + (-1))) h27)
    else
    ((tm_gR h 9 0 this).bind fun r28 =>
    (fX9_at a1 a2 h).bind fun v29 =>
    (tm_wI h 0 r28 v29 a3).bind fun h30 =>
    (tm_gR h30 9 0 this).bind fun r31 =>
    (tm_lI h30 0 r31 (tm_wr (61 + (tm_wr (41 * a1))))).bind fun v32 =>
    (tm_wI h30 0 r31 (tm_wr (61 + (tm_wr (41 * a1)))) (tm_wr (v32 + 1))).bind fun h33 =>
    (fX9_size this a1 h33).bind fun v34 =>
    some (v34, h33)) := by
  unfold fX9_insert_L58
  rw [tm_wl_eq]
  simp only [fX9_insert_S0, tm_go_ite, tm_go_bind, tm_go_inl, tm_go_inr, tm_go_out, tm_go_th]
  try rfl
noncomputable def fX9_insert (this : Nat) (a1 : Int) (a2 : Int) (a3 : Int) (h : tm_H) : Option (Int × tm_H) :=
  tm_th h 9 this (
    (fX9_isChapter a1 h).bind fun v1 =>
    if v1 = 0 then
    (some ((-1), h))
    else
    ((fX9_size this a1 h).bind fun v2 =>
    (fX9_in a2 0 v2 h).bind fun v3 =>
    if v3 = 0 then
    (some ((-1), h))
    else
    ((fX9_isWord this a3 h).bind fun v4 =>
    if v4 = 0 then
    (some ((-1), h))
    else
    ((fX9_size this a1 h).bind fun v5 =>
    if v5 = 40 then
    (some ((-3), h))
    else
    ((tm_gR h 9 0 this).bind fun r6 =>
    (fX9_saves this r6 h).bind fun h7 =>
    (fX9_size this a1 h7).bind fun v8 =>
    fX9_insert_L58 this a1 a2 a3 v8 h7)))))
noncomputable def fX9_delete_S0 (this : Nat) (a1 : Int) (a2 : Int) (a3 : Int) (st : (Int × Int × tm_H)) : Option (((Int × Int × tm_H)) ⊕ (Int × tm_H)) := match st with
  | (x4, x5, h) =>
    (fX9_size this a1 h).bind fun v8 =>
    if (tm_wr (x5 + x4)) < v8 then
    ((tm_gR h 9 0 this).bind fun r9 =>
    (fX9_at a1 x5 h).bind fun v10 =>
    (tm_gR h 9 0 this).bind fun r11 =>
    (fX9_at a1 (tm_wr (x5 + x4)) h).bind fun v12 =>
    (tm_lI h 0 r11 v12).bind fun v13 =>
    (tm_wI h 0 r9 v10 v13).bind fun h14 =>
    some (.inl ((x4, (tm_wr (x5 + 1)), h14))))
    else
    ((tm_gR h 9 0 this).bind fun r15 =>
    (tm_lI h 0 r15 (tm_wr (61 + (tm_wr (41 * a1))))).bind fun v16 =>
    (tm_wI h 0 r15 (tm_wr (61 + (tm_wr (41 * a1)))) (tm_wr (v16 - x4))).bind fun h17 =>
    (fX9_size this a1 h17).bind fun v18 =>
    some (.inr (v18, h17)))
noncomputable def fX9_delete_L57 (this : Nat) (a1 : Int) (a2 : Int) (a3 : Int) (x4 : Int) (x5 : Int) (h : tm_H) : Option (Int × tm_H) := tm_wl (fX9_delete_S0 this a1 a2 a3) ((x4, x5, h))
theorem fX9_delete_L57_eq (this : Nat) (a1 : Int) (a2 : Int) (a3 : Int) (x4 : Int) (x5 : Int) (h : tm_H) : fX9_delete_L57 this a1 a2 a3 x4 x5 h =
    (fX9_size this a1 h).bind fun v19 =>
    if (tm_wr (x5 + x4)) < v19 then
    ((tm_gR h 9 0 this).bind fun r20 =>
    (fX9_at a1 x5 h).bind fun v21 =>
    (tm_gR h 9 0 this).bind fun r22 =>
    (fX9_at a1 (tm_wr (x5 + x4)) h).bind fun v23 =>
    (tm_lI h 0 r22 v23).bind fun v24 =>
    (tm_wI h 0 r20 v21 v24).bind fun h25 =>
    fX9_delete_L57 this a1 a2 a3 x4 (tm_wr (x5 + 1)) h25)
    else
    ((tm_gR h 9 0 this).bind fun r26 =>
    (tm_lI h 0 r26 (tm_wr (61 + (tm_wr (41 * a1))))).bind fun v27 =>
    (tm_wI h 0 r26 (tm_wr (61 + (tm_wr (41 * a1)))) (tm_wr (v27 - x4))).bind fun h28 =>
    (fX9_size this a1 h28).bind fun v29 =>
    some (v29, h28)) := by
  unfold fX9_delete_L57
  rw [tm_wl_eq]
  simp only [fX9_delete_S0, tm_go_ite, tm_go_bind, tm_go_inl, tm_go_inr, tm_go_out, tm_go_th]
  try rfl
noncomputable def fX9_delete (this : Nat) (a1 : Int) (a2 : Int) (a3 : Int) (h : tm_H) : Option (Int × tm_H) :=
  tm_th h 9 this (
    (fX9_isChapter a1 h).bind fun v1 =>
    if v1 = 0 then
    (some ((-1), h))
    else
    ((fX9_size this a1 h).bind fun v2 =>
    (fX9_in a2 0 (tm_wr (v2 - 1)) h).bind fun v3 =>
    if v3 = 0 then
    (some ((-1), h))
    else
    ((fX9_size this a1 h).bind fun v4 =>
    (fX9_in a3 a2 (tm_wr (v4 - 1)) h).bind fun v5 =>
    if v5 = 0 then
    (some ((-1), h))
    else
    ((tm_gR h 9 0 this).bind fun r6 =>
    (fX9_saves this r6 h).bind fun h7 =>
    fX9_delete_L57 this a1 a2 a3 (tm_wr ((tm_wr (a3 - a2)) + 1)) a2 h7))))
noncomputable def fX9_replace_S0 (this : Nat) (a1 : Int) (a2 : Int) (st : (Int × Int × tm_H) ⊕ (Int × Int × Int × tm_H) ⊕ (Int × Int × Int × Int × tm_H) ⊕ (Int × Int × Int × Int × Nat × Int × Int × tm_H) ⊕ (Int × Int × Int × Int × tm_H)) : Option (((Int × Int × tm_H) ⊕ (Int × Int × Int × tm_H) ⊕ (Int × Int × Int × Int × tm_H) ⊕ (Int × Int × Int × Int × Nat × Int × Int × tm_H) ⊕ (Int × Int × Int × Int × tm_H)) ⊕ (Int × tm_H)) := match st with
  | .inl ((x3, x4, h)) =>
    if x4 < 6 then
    (some (.inl (.inr (.inl ((x3, x4, 0, h))))))
    else
    (some (.inr (x3, h)))
  | .inr (.inl ((x3, x4, x5, h))) =>
    (fX9_size this x4 h).bind fun v5 =>
    if x5 < v5 then
    ((tm_gR h 9 0 this).bind fun r6 =>
    (fX9_at x4 x5 h).bind fun v7 =>
    (tm_lI h 0 r6 v7).bind fun v8 =>
    if v8 = a1 then
    (some (.inl (.inr (.inr (.inl ((x3, x4, x5, 1, h)))))))
    else
    (some (.inl (.inr (.inr (.inl ((x3, x4, x5, 0, h))))))))
    else
    (some (.inl (.inl ((x3, (tm_wr (x4 + 1)), h)))))
  | .inr (.inr (.inl ((x3, x4, x5, s0, h)))) =>
    (tm_gR h 9 0 this).bind fun r9 =>
    (fX9_at x4 x5 h).bind fun v10 =>
    if s0 = 0 then
    ((tm_gR h 9 0 this).bind fun r11 =>
    (fX9_at x4 x5 h).bind fun v12 =>
    (tm_lI h 0 r11 v12).bind fun v13 =>
    some (.inl (.inr (.inr (.inr (.inl ((x3, x4, x5, s0, r9, v10, v13, h))))))))
    else
    (some (.inl (.inr (.inr (.inr (.inl ((x3, x4, x5, s0, r9, v10, a2, h))))))))
  | .inr (.inr (.inr (.inl ((x3, x4, x5, x6, s0, s1, s2, h))))) =>
    (tm_wI h 0 s0 s1 s2).bind fun h14 =>
    if x6 = 0 then
    (some (.inl (.inr (.inr (.inr (.inr ((x4, x5, x3, 0, h14))))))))
    else
    (some (.inl (.inr (.inr (.inr (.inr ((x4, x5, x3, 1, h14))))))))
  | .inr (.inr (.inr (.inr ((x4, x5, s0, s1, h))))) =>
    some (.inl (.inr (.inl (((tm_wr (s0 + s1)), x4, (tm_wr (x5 + 1)), h)))))
noncomputable def fX9_replace_L36 (this : Nat) (a1 : Int) (a2 : Int) (x3 : Int) (x4 : Int) (h : tm_H) : Option (Int × tm_H) := tm_wl (fX9_replace_S0 this a1 a2) (.inl ((x3, x4, h)))
noncomputable def fX9_replace_L46 (this : Nat) (a1 : Int) (a2 : Int) (x3 : Int) (x4 : Int) (x5 : Int) (h : tm_H) : Option (Int × tm_H) := tm_wl (fX9_replace_S0 this a1 a2) (.inr (.inl ((x3, x4, x5, h))))
noncomputable def fX9_replace_L78 (this : Nat) (a1 : Int) (a2 : Int) (x3 : Int) (x4 : Int) (x5 : Int) (s0 : Int) (h : tm_H) : Option (Int × tm_H) := tm_wl (fX9_replace_S0 this a1 a2) (.inr (.inr (.inl ((x3, x4, x5, s0, h)))))
noncomputable def fX9_replace_L112 (this : Nat) (a1 : Int) (a2 : Int) (x3 : Int) (x4 : Int) (x5 : Int) (x6 : Int) (s0 : Nat) (s1 : Int) (s2 : Int) (h : tm_H) : Option (Int × tm_H) := tm_wl (fX9_replace_S0 this a1 a2) (.inr (.inr (.inr (.inl ((x3, x4, x5, x6, s0, s1, s2, h))))))
noncomputable def fX9_replace_L124 (this : Nat) (a1 : Int) (a2 : Int) (x4 : Int) (x5 : Int) (s0 : Int) (s1 : Int) (h : tm_H) : Option (Int × tm_H) := tm_wl (fX9_replace_S0 this a1 a2) (.inr (.inr (.inr (.inr ((x4, x5, s0, s1, h))))))
theorem fX9_replace_L36_eq (this : Nat) (a1 : Int) (a2 : Int) (x3 : Int) (x4 : Int) (h : tm_H) : fX9_replace_L36 this a1 a2 x3 x4 h =
    if x4 < 6 then
    (fX9_replace_L46 this a1 a2 x3 x4 0 h)
    else
    (some (x3, h)) := by
  unfold fX9_replace_L36
  rw [tm_wl_eq]
  simp only [fX9_replace_S0, tm_go_ite, tm_go_bind, tm_go_inl, tm_go_inr, tm_go_out, tm_go_th]
  try rfl
theorem fX9_replace_L46_eq (this : Nat) (a1 : Int) (a2 : Int) (x3 : Int) (x4 : Int) (x5 : Int) (h : tm_H) : fX9_replace_L46 this a1 a2 x3 x4 x5 h =
    (fX9_size this x4 h).bind fun v15 =>
    if x5 < v15 then
    ((tm_gR h 9 0 this).bind fun r16 =>
    (fX9_at x4 x5 h).bind fun v17 =>
    (tm_lI h 0 r16 v17).bind fun v18 =>
    if v18 = a1 then
    (fX9_replace_L78 this a1 a2 x3 x4 x5 1 h)
    else
    (fX9_replace_L78 this a1 a2 x3 x4 x5 0 h))
    else
    (fX9_replace_L36 this a1 a2 x3 (tm_wr (x4 + 1)) h) := by
  unfold fX9_replace_L46
  rw [tm_wl_eq]
  simp only [fX9_replace_S0, tm_go_ite, tm_go_bind, tm_go_inl, tm_go_inr, tm_go_out, tm_go_th]
  try rfl
theorem fX9_replace_L78_eq (this : Nat) (a1 : Int) (a2 : Int) (x3 : Int) (x4 : Int) (x5 : Int) (s0 : Int) (h : tm_H) : fX9_replace_L78 this a1 a2 x3 x4 x5 s0 h =
    (tm_gR h 9 0 this).bind fun r19 =>
    (fX9_at x4 x5 h).bind fun v20 =>
    if s0 = 0 then
    ((tm_gR h 9 0 this).bind fun r21 =>
    (fX9_at x4 x5 h).bind fun v22 =>
    (tm_lI h 0 r21 v22).bind fun v23 =>
    fX9_replace_L112 this a1 a2 x3 x4 x5 s0 r19 v20 v23 h)
    else
    (fX9_replace_L112 this a1 a2 x3 x4 x5 s0 r19 v20 a2 h) := by
  unfold fX9_replace_L78
  rw [tm_wl_eq]
  simp only [fX9_replace_S0, tm_go_ite, tm_go_bind, tm_go_inl, tm_go_inr, tm_go_out, tm_go_th]
  try rfl
theorem fX9_replace_L112_eq (this : Nat) (a1 : Int) (a2 : Int) (x3 : Int) (x4 : Int) (x5 : Int) (x6 : Int) (s0 : Nat) (s1 : Int) (s2 : Int) (h : tm_H) : fX9_replace_L112 this a1 a2 x3 x4 x5 x6 s0 s1 s2 h =
    (tm_wI h 0 s0 s1 s2).bind fun h24 =>
    if x6 = 0 then
    (fX9_replace_L124 this a1 a2 x4 x5 x3 0 h24)
    else
    (fX9_replace_L124 this a1 a2 x4 x5 x3 1 h24) := by
  unfold fX9_replace_L112
  rw [tm_wl_eq]
  simp only [fX9_replace_S0, tm_go_ite, tm_go_bind, tm_go_inl, tm_go_inr, tm_go_out, tm_go_th]
  try rfl
theorem fX9_replace_L124_eq (this : Nat) (a1 : Int) (a2 : Int) (x4 : Int) (x5 : Int) (s0 : Int) (s1 : Int) (h : tm_H) : fX9_replace_L124 this a1 a2 x4 x5 s0 s1 h =
    fX9_replace_L46 this a1 a2 (tm_wr (s0 + s1)) x4 (tm_wr (x5 + 1)) h := by
  unfold fX9_replace_L124
  rw [tm_wl_eq]
  simp only [fX9_replace_S0, tm_go_ite, tm_go_bind, tm_go_inl, tm_go_inr, tm_go_out, tm_go_th]
  try rfl
noncomputable def fX9_replace (this : Nat) (a1 : Int) (a2 : Int) (h : tm_H) : Option (Int × tm_H) :=
  tm_th h 9 this (
    (fX9_isWord this a1 h).bind fun v1 =>
    if v1 = 0 then
    (some ((-1), h))
    else
    ((fX9_isWord this a2 h).bind fun v2 =>
    if v2 = 0 then
    (some ((-1), h))
    else
    (if a1 = a2 then
    (some ((-1), h))
    else
    ((tm_gR h 9 0 this).bind fun r3 =>
    (fX9_saves this r3 h).bind fun h4 =>
    fX9_replace_L36 this a1 a2 0 0 h4))))
noncomputable def fX9_ofTerm (this : Nat) (a1 : Int) (a2 : Int) (h : tm_H) : Option (Int) :=
  tm_th h 9 this (
    if a1 = 12 then
    ((tm_gR h 9 7 this).bind fun r1 =>
    (tm_lI h 0 r1 a2).bind fun v2 =>
    some v2)
    else
    ((tm_gR h 9 0 this).bind fun r3 =>
    (tm_lI h 0 r3 (tm_wr ((tm_wr (308 + (tm_wr (6 * a1)))) + a2))).bind fun v4 =>
    some v4))
noncomputable def fX9_occurs_S0 (this : Nat) (a1 : Int) (a2 : Int) (a3 : Int) (h : tm_H) (st : (Int × Int) ⊕ (Int × Int)) : Option (((Int × Int) ⊕ (Int × Int)) ⊕ (Int)) := match st with
  | .inl ((x4, x5)) =>
    (fX9_ofTerm this a1 0 h).bind fun v3 =>
    if x5 < v3 then
    (if x4 = 0 then
    ((tm_zr x4).bind fun z => some (.inr z))
    else
    ((fX9_baseAt this a2 (tm_wr (a3 + x5)) h).bind fun v4 =>
    (tm_gR h 9 0 this).bind fun r5 =>
    (fX9_ofTerm this a1 (tm_wr (x5 + 1)) h).bind fun v6 =>
    (tm_lI h 0 r5 (tm_wr (1 + v6))).bind fun v7 =>
    if v4 = v7 then
    (some (.inl (.inr ((x5, 1)))))
    else
    (some (.inl (.inr ((x5, 0)))))))
    else
    ((tm_zr x4).bind fun z => some (.inr z))
  | .inr ((x5, s0)) =>
    some (.inl (.inl ((s0, (tm_wr (x5 + 1))))))
noncomputable def fX9_occurs_L26 (this : Nat) (a1 : Int) (a2 : Int) (a3 : Int) (h : tm_H) (x4 : Int) (x5 : Int) : Option (Int) := tm_wl (fX9_occurs_S0 this a1 a2 a3 h) (.inl ((x4, x5)))
noncomputable def fX9_occurs_L75 (this : Nat) (a1 : Int) (a2 : Int) (a3 : Int) (h : tm_H) (x5 : Int) (s0 : Int) : Option (Int) := tm_wl (fX9_occurs_S0 this a1 a2 a3 h) (.inr ((x5, s0)))
theorem fX9_occurs_L26_eq (this : Nat) (a1 : Int) (a2 : Int) (a3 : Int) (h : tm_H) (x4 : Int) (x5 : Int) : fX9_occurs_L26 this a1 a2 a3 h x4 x5 =
    (fX9_ofTerm this a1 0 h).bind fun v8 =>
    if x5 < v8 then
    (if x4 = 0 then
    ((tm_zr x4).bind fun z => some z)
    else
    ((fX9_baseAt this a2 (tm_wr (a3 + x5)) h).bind fun v9 =>
    (tm_gR h 9 0 this).bind fun r10 =>
    (fX9_ofTerm this a1 (tm_wr (x5 + 1)) h).bind fun v11 =>
    (tm_lI h 0 r10 (tm_wr (1 + v11))).bind fun v12 =>
    if v9 = v12 then
    (fX9_occurs_L75 this a1 a2 a3 h x5 1)
    else
    (fX9_occurs_L75 this a1 a2 a3 h x5 0)))
    else
    ((tm_zr x4).bind fun z => some z) := by
  unfold fX9_occurs_L26
  rw [tm_wl_eq]
  simp only [fX9_occurs_S0, tm_go_ite, tm_go_bind, tm_go_inl, tm_go_inr, tm_go_out, tm_go_th]
  try rfl
theorem fX9_occurs_L75_eq (this : Nat) (a1 : Int) (a2 : Int) (a3 : Int) (h : tm_H) (x5 : Int) (s0 : Int) : fX9_occurs_L75 this a1 a2 a3 h x5 s0 =
    fX9_occurs_L26 this a1 a2 a3 h s0 (tm_wr (x5 + 1)) := by
  unfold fX9_occurs_L75
  rw [tm_wl_eq]
  simp only [fX9_occurs_S0, tm_go_ite, tm_go_bind, tm_go_inl, tm_go_inr, tm_go_out, tm_go_th]
  try rfl
noncomputable def fX9_occurs_L21 (this : Nat) (a1 : Int) (a2 : Int) (a3 : Int) (h : tm_H) (s0 : Int) : Option (Int) :=
  fX9_occurs_L26 this a1 a2 a3 h s0 0
noncomputable def fX9_occurs (this : Nat) (a1 : Int) (a2 : Int) (a3 : Int) (h : tm_H) : Option (Int) :=
  tm_th h 9 this (
    (fX9_ofTerm this a1 0 h).bind fun v1 =>
    (fX9_size this a2 h).bind fun v2 =>
    if v2 < (tm_wr (a3 + v1)) then
    (fX9_occurs_L21 this a1 a2 a3 h 0)
    else
    (fX9_occurs_L21 this a1 a2 a3 h 1))
noncomputable def fX9_longest_S0 (this : Nat) (a1 : Int) (a2 : Int) (a3 : Int) (a4 : Int) (h : tm_H) (st : (Int × Int) ⊕ (Int × Int) ⊕ (Int × Int × Int) ⊕ (Int) ⊕ (Int × Int) ⊕ (Int × Int)) : Option (((Int × Int) ⊕ (Int × Int) ⊕ (Int × Int × Int) ⊕ (Int) ⊕ (Int × Int) ⊕ (Int × Int)) ⊕ (Int)) := match st with
  | .inl ((x5, x6)) =>
    if 12 < x6 then
    (some (.inr x5))
    else
    (if x6 = 12 then
    (some (.inl (.inr (.inr (.inl ((x5, x6, a4)))))))
    else
    ((tm_gR h 9 0 this).bind fun r1 =>
    (tm_lI h 0 r1 307).bind fun v2 =>
    if x6 < v2 then
    (if x6 = a3 then
    (some (.inl (.inr (.inl ((x5, x6))))))
    else
    (some (.inl (.inr (.inr (.inl ((x5, x6, 1))))))))
    else
    (some (.inl (.inr (.inl ((x5, x6))))))))
  | .inr (.inl ((x5, x6))) =>
    some (.inl (.inr (.inr (.inl ((x5, x6, 0))))))
  | .inr (.inr (.inl ((x5, x6, s0)))) =>
    if s0 = 0 then
    (some (.inl (.inr (.inr (.inr (.inr (.inr ((x5, x6)))))))))
    else
    ((fX9_occurs this x6 a1 a2 h).bind fun v3 =>
    if v3 = 0 then
    (some (.inl (.inr (.inr (.inr (.inr (.inr ((x5, x6)))))))))
    else
    (if x5 = ((-99)) then
    (some (.inl (.inr (.inr (.inr (.inl ((x6))))))))
    else
    ((fX9_ofTerm this x6 0 h).bind fun v4 =>
    (fX9_ofTerm this x5 0 h).bind fun v5 =>
    if v5 < v4 then
    (some (.inl (.inr (.inr (.inr (.inl ((x6))))))))
    else
    (some (.inl (.inr (.inr (.inr (.inr (.inl ((x6, x5))))))))))))
  | .inr (.inr (.inr (.inl ((x6))))) =>
    some (.inl (.inr (.inr (.inr (.inr (.inl ((x6, x6))))))))
  | .inr (.inr (.inr (.inr (.inl ((x6, s0)))))) =>
    some (.inl (.inr (.inr (.inr (.inr (.inr ((s0, x6))))))))
  | .inr (.inr (.inr (.inr (.inr ((x5, x6)))))) =>
    some (.inl (.inl ((x5, (tm_wr (x6 + 1))))))
noncomputable def fX9_longest_L7 (this : Nat) (a1 : Int) (a2 : Int) (a3 : Int) (a4 : Int) (h : tm_H) (x5 : Int) (x6 : Int) : Option (Int) := tm_wl (fX9_longest_S0 this a1 a2 a3 a4 h) (.inl ((x5, x6)))
noncomputable def fX9_longest_L49 (this : Nat) (a1 : Int) (a2 : Int) (a3 : Int) (a4 : Int) (h : tm_H) (x5 : Int) (x6 : Int) : Option (Int) := tm_wl (fX9_longest_S0 this a1 a2 a3 a4 h) (.inr (.inl ((x5, x6))))
noncomputable def fX9_longest_L50 (this : Nat) (a1 : Int) (a2 : Int) (a3 : Int) (a4 : Int) (h : tm_H) (x5 : Int) (x6 : Int) (s0 : Int) : Option (Int) := tm_wl (fX9_longest_S0 this a1 a2 a3 a4 h) (.inr (.inr (.inl ((x5, x6, s0)))))
noncomputable def fX9_longest_L92 (this : Nat) (a1 : Int) (a2 : Int) (a3 : Int) (a4 : Int) (h : tm_H) (x6 : Int) : Option (Int) := tm_wl (fX9_longest_S0 this a1 a2 a3 a4 h) (.inr (.inr (.inr (.inl ((x6))))))
noncomputable def fX9_longest_L99 (this : Nat) (a1 : Int) (a2 : Int) (a3 : Int) (a4 : Int) (h : tm_H) (x6 : Int) (s0 : Int) : Option (Int) := tm_wl (fX9_longest_S0 this a1 a2 a3 a4 h) (.inr (.inr (.inr (.inr (.inl ((x6, s0)))))))
noncomputable def fX9_longest_L101 (this : Nat) (a1 : Int) (a2 : Int) (a3 : Int) (a4 : Int) (h : tm_H) (x5 : Int) (x6 : Int) : Option (Int) := tm_wl (fX9_longest_S0 this a1 a2 a3 a4 h) (.inr (.inr (.inr (.inr (.inr ((x5, x6)))))))
theorem fX9_longest_L7_eq (this : Nat) (a1 : Int) (a2 : Int) (a3 : Int) (a4 : Int) (h : tm_H) (x5 : Int) (x6 : Int) : fX9_longest_L7 this a1 a2 a3 a4 h x5 x6 =
    if 12 < x6 then
    (some x5)
    else
    (if x6 = 12 then
    (fX9_longest_L50 this a1 a2 a3 a4 h x5 x6 a4)
    else
    ((tm_gR h 9 0 this).bind fun r6 =>
    (tm_lI h 0 r6 307).bind fun v7 =>
    if x6 < v7 then
    (if x6 = a3 then
    (fX9_longest_L49 this a1 a2 a3 a4 h x5 x6)
    else
    (fX9_longest_L50 this a1 a2 a3 a4 h x5 x6 1))
    else
    (fX9_longest_L49 this a1 a2 a3 a4 h x5 x6))) := by
  unfold fX9_longest_L7
  rw [tm_wl_eq]
  simp only [fX9_longest_S0, tm_go_ite, tm_go_bind, tm_go_inl, tm_go_inr, tm_go_out, tm_go_th]
  try rfl
theorem fX9_longest_L49_eq (this : Nat) (a1 : Int) (a2 : Int) (a3 : Int) (a4 : Int) (h : tm_H) (x5 : Int) (x6 : Int) : fX9_longest_L49 this a1 a2 a3 a4 h x5 x6 =
    fX9_longest_L50 this a1 a2 a3 a4 h x5 x6 0 := by
  unfold fX9_longest_L49
  rw [tm_wl_eq]
  simp only [fX9_longest_S0, tm_go_ite, tm_go_bind, tm_go_inl, tm_go_inr, tm_go_out, tm_go_th]
  try rfl
theorem fX9_longest_L50_eq (this : Nat) (a1 : Int) (a2 : Int) (a3 : Int) (a4 : Int) (h : tm_H) (x5 : Int) (x6 : Int) (s0 : Int) : fX9_longest_L50 this a1 a2 a3 a4 h x5 x6 s0 =
    if s0 = 0 then
    (fX9_longest_L101 this a1 a2 a3 a4 h x5 x6)
    else
    ((fX9_occurs this x6 a1 a2 h).bind fun v8 =>
    if v8 = 0 then
    (fX9_longest_L101 this a1 a2 a3 a4 h x5 x6)
    else
    (if x5 = ((-99)) then
    (fX9_longest_L92 this a1 a2 a3 a4 h x6)
    else
    ((fX9_ofTerm this x6 0 h).bind fun v9 =>
    (fX9_ofTerm this x5 0 h).bind fun v10 =>
    if v10 < v9 then
    (fX9_longest_L92 this a1 a2 a3 a4 h x6)
    else
    (fX9_longest_L99 this a1 a2 a3 a4 h x6 x5)))) := by
  unfold fX9_longest_L50
  rw [tm_wl_eq]
  simp only [fX9_longest_S0, tm_go_ite, tm_go_bind, tm_go_inl, tm_go_inr, tm_go_out, tm_go_th]
  try rfl
theorem fX9_longest_L92_eq (this : Nat) (a1 : Int) (a2 : Int) (a3 : Int) (a4 : Int) (h : tm_H) (x6 : Int) : fX9_longest_L92 this a1 a2 a3 a4 h x6 =
    fX9_longest_L99 this a1 a2 a3 a4 h x6 x6 := by
  unfold fX9_longest_L92
  rw [tm_wl_eq]
  simp only [fX9_longest_S0, tm_go_ite, tm_go_bind, tm_go_inl, tm_go_inr, tm_go_out, tm_go_th]
  try rfl
theorem fX9_longest_L99_eq (this : Nat) (a1 : Int) (a2 : Int) (a3 : Int) (a4 : Int) (h : tm_H) (x6 : Int) (s0 : Int) : fX9_longest_L99 this a1 a2 a3 a4 h x6 s0 =
    fX9_longest_L101 this a1 a2 a3 a4 h s0 x6 := by
  unfold fX9_longest_L99
  rw [tm_wl_eq]
  simp only [fX9_longest_S0, tm_go_ite, tm_go_bind, tm_go_inl, tm_go_inr, tm_go_out, tm_go_th]
  try rfl
theorem fX9_longest_L101_eq (this : Nat) (a1 : Int) (a2 : Int) (a3 : Int) (a4 : Int) (h : tm_H) (x5 : Int) (x6 : Int) : fX9_longest_L101 this a1 a2 a3 a4 h x5 x6 =
    fX9_longest_L7 this a1 a2 a3 a4 h x5 (tm_wr (x6 + 1)) := by
  unfold fX9_longest_L101
  rw [tm_wl_eq]
  simp only [fX9_longest_S0, tm_go_ite, tm_go_bind, tm_go_inl, tm_go_inr, tm_go_out, tm_go_th]
  try rfl
noncomputable def fX9_longest (this : Nat) (a1 : Int) (a2 : Int) (a3 : Int) (a4 : Int) (h : tm_H) : Option (Int) :=
  tm_th h 9 this (
    fX9_longest_L7 this a1 a2 a3 a4 h ((-99)) 0)
noncomputable def fX9_isQuiet (this : Nat) (a1 : Int) (h : tm_H) : Option (Int) :=
  tm_th h 9 this (
    if a1 < 12 then
    ((tm_gR h 9 0 this).bind fun r1 =>
    (tm_lI h 0 r1 (tm_wr ((tm_wr (308 + (tm_wr (6 * a1)))) + 5))).bind fun v2 =>
    if v2 = 1 then
    (some 1)
    else
    (some 0))
    else
    (some 0))
noncomputable def fX9_readsBy_S0 (this : Nat) (a1 : Int) (a2 : Int) (a3 : Int) (st : (Int × Int × Int × tm_H) ⊕ (Int × Int × Int × Int × Int × tm_H) ⊕ (Int × Int × Int × Int × Int × Int × tm_H) ⊕ (Int × Int × Int × Int × tm_H) ⊕ (Int × Int × Int × Int × tm_H)) : Option (((Int × Int × Int × tm_H) ⊕ (Int × Int × Int × Int × Int × tm_H) ⊕ (Int × Int × Int × Int × Int × Int × tm_H) ⊕ (Int × Int × Int × Int × tm_H) ⊕ (Int × Int × Int × Int × tm_H)) ⊕ (Int × tm_H)) := match st with
  | .inl ((x4, x5, x6, h)) =>
    (fX9_size this a1 h).bind fun v7 =>
    if x6 < v7 then
    ((fX9_longest this a1 x6 a2 a3 h).bind fun v8 =>
    if v8 = ((-99)) then
    (some (.inl (.inr (.inl ((x4, x5, x6, v8, 0, h))))))
    else
    ((fX9_ofTerm this v8 0 h).bind fun v9 =>
    some (.inl (.inr (.inl ((x4, x5, x6, v8, v9, h)))))))
    else
    (some (.inr (x4, h)))
  | .inr (.inl ((x4, x5, x6, x7, s0, h))) =>
    some (.inl (.inr (.inr (.inl ((x4, x5, x6, x7, s0, 0, h))))))
  | .inr (.inr (.inl ((x4, x5, x6, x7, x8, x9, h)))) =>
    if x9 < x8 then
    ((tm_gR h 9 8 this).bind fun r10 =>
    (tm_wI h 0 r10 (tm_wr (x6 + x9)) x7).bind fun h11 =>
    (tm_gR h11 9 9 this).bind fun r12 =>
    (tm_wI h11 0 r12 (tm_wr (x6 + x9)) x9).bind fun h13 =>
    some (.inl (.inr (.inr (.inl ((x4, x5, x6, x7, x8, (tm_wr (x9 + 1)), h13)))))))
    else
    (if 0 < x8 then
    ((fX9_isQuiet this x7 h).bind fun v14 =>
    if v14 = 0 then
    (if (tm_and (tm_shr x5 x7) 1) = 0 then
    ((tm_gR h 9 10 this).bind fun r15 =>
    (tm_wZ h 2 r15 x6 1).bind fun h16 =>
    some (.inl (.inr (.inr (.inr (.inl (((tm_wr (x4 + 1)), (tm_or x5 (tm_shl 1 x7)), x6, x8, h16))))))))
    else
    (some (.inl (.inr (.inr (.inr (.inl ((x4, x5, x6, x8, h)))))))))
    else
    (some (.inl (.inr (.inr (.inr (.inl ((x4, x5, x6, x8, h)))))))))
    else
    (some (.inl (.inr (.inr (.inr (.inl ((x4, x5, x6, x8, h)))))))))
  | .inr (.inr (.inr (.inl ((x4, x5, x6, x8, h))))) =>
    if 0 < x8 then
    (some (.inl (.inr (.inr (.inr (.inr ((x4, x5, x6, x8, h))))))))
    else
    (some (.inl (.inr (.inr (.inr (.inr ((x4, x5, x6, 1, h))))))))
  | .inr (.inr (.inr (.inr ((x4, x5, s0, s1, h))))) =>
    some (.inl (.inl ((x4, x5, (tm_wr (s0 + s1)), h))))
noncomputable def fX9_readsBy_L51 (this : Nat) (a1 : Int) (a2 : Int) (a3 : Int) (x4 : Int) (x5 : Int) (x6 : Int) (h : tm_H) : Option (Int × tm_H) := tm_wl (fX9_readsBy_S0 this a1 a2 a3) (.inl ((x4, x5, x6, h)))
noncomputable def fX9_readsBy_L90 (this : Nat) (a1 : Int) (a2 : Int) (a3 : Int) (x4 : Int) (x5 : Int) (x6 : Int) (x7 : Int) (s0 : Int) (h : tm_H) : Option (Int × tm_H) := tm_wl (fX9_readsBy_S0 this a1 a2 a3) (.inr (.inl ((x4, x5, x6, x7, s0, h))))
noncomputable def fX9_readsBy_L95 (this : Nat) (a1 : Int) (a2 : Int) (a3 : Int) (x4 : Int) (x5 : Int) (x6 : Int) (x7 : Int) (x8 : Int) (x9 : Int) (h : tm_H) : Option (Int × tm_H) := tm_wl (fX9_readsBy_S0 this a1 a2 a3) (.inr (.inr (.inl ((x4, x5, x6, x7, x8, x9, h)))))
noncomputable def fX9_readsBy_L176 (this : Nat) (a1 : Int) (a2 : Int) (a3 : Int) (x4 : Int) (x5 : Int) (x6 : Int) (x8 : Int) (h : tm_H) : Option (Int × tm_H) := tm_wl (fX9_readsBy_S0 this a1 a2 a3) (.inr (.inr (.inr (.inl ((x4, x5, x6, x8, h))))))
noncomputable def fX9_readsBy_L189 (this : Nat) (a1 : Int) (a2 : Int) (a3 : Int) (x4 : Int) (x5 : Int) (s0 : Int) (s1 : Int) (h : tm_H) : Option (Int × tm_H) := tm_wl (fX9_readsBy_S0 this a1 a2 a3) (.inr (.inr (.inr (.inr ((x4, x5, s0, s1, h))))))
theorem fX9_readsBy_L51_eq (this : Nat) (a1 : Int) (a2 : Int) (a3 : Int) (x4 : Int) (x5 : Int) (x6 : Int) (h : tm_H) : fX9_readsBy_L51 this a1 a2 a3 x4 x5 x6 h =
    (fX9_size this a1 h).bind fun v17 =>
    if x6 < v17 then
    ((fX9_longest this a1 x6 a2 a3 h).bind fun v18 =>
    if v18 = ((-99)) then
    (fX9_readsBy_L90 this a1 a2 a3 x4 x5 x6 v18 0 h)
    else
    ((fX9_ofTerm this v18 0 h).bind fun v19 =>
    fX9_readsBy_L90 this a1 a2 a3 x4 x5 x6 v18 v19 h))
    else
    (some (x4, h)) := by
  unfold fX9_readsBy_L51
  rw [tm_wl_eq]
  simp only [fX9_readsBy_S0, tm_go_ite, tm_go_bind, tm_go_inl, tm_go_inr, tm_go_out, tm_go_th]
  try rfl
theorem fX9_readsBy_L90_eq (this : Nat) (a1 : Int) (a2 : Int) (a3 : Int) (x4 : Int) (x5 : Int) (x6 : Int) (x7 : Int) (s0 : Int) (h : tm_H) : fX9_readsBy_L90 this a1 a2 a3 x4 x5 x6 x7 s0 h =
    fX9_readsBy_L95 this a1 a2 a3 x4 x5 x6 x7 s0 0 h := by
  unfold fX9_readsBy_L90
  rw [tm_wl_eq]
  simp only [fX9_readsBy_S0, tm_go_ite, tm_go_bind, tm_go_inl, tm_go_inr, tm_go_out, tm_go_th]
  try rfl
theorem fX9_readsBy_L95_eq (this : Nat) (a1 : Int) (a2 : Int) (a3 : Int) (x4 : Int) (x5 : Int) (x6 : Int) (x7 : Int) (x8 : Int) (x9 : Int) (h : tm_H) : fX9_readsBy_L95 this a1 a2 a3 x4 x5 x6 x7 x8 x9 h =
    if x9 < x8 then
    ((tm_gR h 9 8 this).bind fun r20 =>
    (tm_wI h 0 r20 (tm_wr (x6 + x9)) x7).bind fun h21 =>
    (tm_gR h21 9 9 this).bind fun r22 =>
    (tm_wI h21 0 r22 (tm_wr (x6 + x9)) x9).bind fun h23 =>
    fX9_readsBy_L95 this a1 a2 a3 x4 x5 x6 x7 x8 (tm_wr (x9 + 1)) h23)
    else
    (if 0 < x8 then
    ((fX9_isQuiet this x7 h).bind fun v24 =>
    if v24 = 0 then
    (if (tm_and (tm_shr x5 x7) 1) = 0 then
    ((tm_gR h 9 10 this).bind fun r25 =>
    (tm_wZ h 2 r25 x6 1).bind fun h26 =>
    fX9_readsBy_L176 this a1 a2 a3 (tm_wr (x4 + 1)) (tm_or x5 (tm_shl 1 x7)) x6 x8 h26)
    else
    (fX9_readsBy_L176 this a1 a2 a3 x4 x5 x6 x8 h))
    else
    (fX9_readsBy_L176 this a1 a2 a3 x4 x5 x6 x8 h))
    else
    (fX9_readsBy_L176 this a1 a2 a3 x4 x5 x6 x8 h)) := by
  unfold fX9_readsBy_L95
  rw [tm_wl_eq]
  simp only [fX9_readsBy_S0, tm_go_ite, tm_go_bind, tm_go_inl, tm_go_inr, tm_go_out, tm_go_th]
  try rfl
theorem fX9_readsBy_L176_eq (this : Nat) (a1 : Int) (a2 : Int) (a3 : Int) (x4 : Int) (x5 : Int) (x6 : Int) (x8 : Int) (h : tm_H) : fX9_readsBy_L176 this a1 a2 a3 x4 x5 x6 x8 h =
    if 0 < x8 then
    (fX9_readsBy_L189 this a1 a2 a3 x4 x5 x6 x8 h)
    else
    (fX9_readsBy_L189 this a1 a2 a3 x4 x5 x6 1 h) := by
  unfold fX9_readsBy_L176
  rw [tm_wl_eq]
  simp only [fX9_readsBy_S0, tm_go_ite, tm_go_bind, tm_go_inl, tm_go_inr, tm_go_out, tm_go_th]
  try rfl
theorem fX9_readsBy_L189_eq (this : Nat) (a1 : Int) (a2 : Int) (a3 : Int) (x4 : Int) (x5 : Int) (s0 : Int) (s1 : Int) (h : tm_H) : fX9_readsBy_L189 this a1 a2 a3 x4 x5 s0 s1 h =
    fX9_readsBy_L51 this a1 a2 a3 x4 x5 (tm_wr (s0 + s1)) h := by
  unfold fX9_readsBy_L189
  rw [tm_wl_eq]
  simp only [fX9_readsBy_S0, tm_go_ite, tm_go_bind, tm_go_inl, tm_go_inr, tm_go_out, tm_go_th]
  try rfl
noncomputable def fX9_readsBy_S1 (this : Nat) (a1 : Int) (a2 : Int) (a3 : Int) (st : (Int × Int × Int × Int × tm_H)) : Option (((Int × Int × Int × Int × tm_H)) ⊕ (Int × tm_H)) := match st with
  | (x4, x5, x6, x7, h) =>
    if x7 < 40 then
    ((tm_gR h 9 8 this).bind fun r1 =>
    (tm_wI h 0 r1 x7 ((-99))).bind fun h2 =>
    (tm_gR h2 9 9 this).bind fun r3 =>
    (tm_wI h2 0 r3 x7 ((-99))).bind fun h4 =>
    (tm_gR h4 9 10 this).bind fun r5 =>
    (tm_wZ h4 2 r5 x7 0).bind fun h6 =>
    some (.inl ((x4, x5, x6, (tm_wr (x7 + 1)), h6))))
    else
    (tm_out (fX9_readsBy_L51 this a1 a2 a3 x4 x5 x6 h))
noncomputable def fX9_readsBy_L12 (this : Nat) (a1 : Int) (a2 : Int) (a3 : Int) (x4 : Int) (x5 : Int) (x6 : Int) (x7 : Int) (h : tm_H) : Option (Int × tm_H) := tm_wl (fX9_readsBy_S1 this a1 a2 a3) ((x4, x5, x6, x7, h))
theorem fX9_readsBy_L12_eq (this : Nat) (a1 : Int) (a2 : Int) (a3 : Int) (x4 : Int) (x5 : Int) (x6 : Int) (x7 : Int) (h : tm_H) : fX9_readsBy_L12 this a1 a2 a3 x4 x5 x6 x7 h =
    if x7 < 40 then
    ((tm_gR h 9 8 this).bind fun r27 =>
    (tm_wI h 0 r27 x7 ((-99))).bind fun h28 =>
    (tm_gR h28 9 9 this).bind fun r29 =>
    (tm_wI h28 0 r29 x7 ((-99))).bind fun h30 =>
    (tm_gR h30 9 10 this).bind fun r31 =>
    (tm_wZ h30 2 r31 x7 0).bind fun h32 =>
    fX9_readsBy_L12 this a1 a2 a3 x4 x5 x6 (tm_wr (x7 + 1)) h32)
    else
    (fX9_readsBy_L51 this a1 a2 a3 x4 x5 x6 h) := by
  unfold fX9_readsBy_L12
  rw [tm_wl_eq]
  simp only [fX9_readsBy_S1, tm_go_ite, tm_go_bind, tm_go_inl, tm_go_inr, tm_go_out, tm_go_th]
  try rfl
noncomputable def fX9_readsBy (this : Nat) (a1 : Int) (a2 : Int) (a3 : Int) (h : tm_H) : Option (Int × tm_H) :=
  tm_th h 9 this (
    fX9_readsBy_L12 this a1 a2 a3 0 0 0 0 h)
noncomputable def fX9_allMarks_S0 (this : Nat) (a1 : Int) (st : (Int × Int × tm_H)) : Option (((Int × Int × tm_H)) ⊕ (Int × tm_H)) := match st with
  | (x2, x3, h) =>
    if x3 < 6 then
    ((fX9_readsBy this x3 a1 0 h).bind fun q1 =>
    some (.inl (((tm_wr (x2 + q1.1)), (tm_wr (x3 + 1)), q1.2))))
    else
    (some (.inr (x2, h)))
noncomputable def fX9_allMarks_L4 (this : Nat) (a1 : Int) (x2 : Int) (x3 : Int) (h : tm_H) : Option (Int × tm_H) := tm_wl (fX9_allMarks_S0 this a1) ((x2, x3, h))
theorem fX9_allMarks_L4_eq (this : Nat) (a1 : Int) (x2 : Int) (x3 : Int) (h : tm_H) : fX9_allMarks_L4 this a1 x2 x3 h =
    if x3 < 6 then
    ((fX9_readsBy this x3 a1 0 h).bind fun q2 =>
    fX9_allMarks_L4 this a1 (tm_wr (x2 + q2.1)) (tm_wr (x3 + 1)) q2.2)
    else
    (some (x2, h)) := by
  unfold fX9_allMarks_L4
  rw [tm_wl_eq]
  simp only [fX9_allMarks_S0, tm_go_ite, tm_go_bind, tm_go_inl, tm_go_inr, tm_go_out, tm_go_th]
  try rfl
noncomputable def fX9_allMarks (this : Nat) (a1 : Int) (h : tm_H) : Option (Int × tm_H) :=
  tm_th h 9 this (
    fX9_allMarks_L4 this a1 0 0 h)
noncomputable def fX9_swap_S0 (this : Nat) (a1 : Int) (a2 : Int) (st : (Int × tm_H)) : Option (((Int × tm_H)) ⊕ (Int × tm_H)) := match st with
  | (x3, h) =>
    if x3 < 41 then
    ((tm_gR h 9 0 this).bind fun r5 =>
    (tm_lI h 0 r5 (tm_wr ((tm_wr (61 + (tm_wr (41 * a1)))) + x3))).bind fun v6 =>
    (tm_gR h 9 0 this).bind fun r7 =>
    (tm_gR h 9 0 this).bind fun r8 =>
    (tm_lI h 0 r8 (tm_wr ((tm_wr (61 + (tm_wr (41 * a2)))) + x3))).bind fun v9 =>
    (tm_wI h 0 r7 (tm_wr ((tm_wr (61 + (tm_wr (41 * a1)))) + x3)) v9).bind fun h10 =>
    (tm_gR h10 9 0 this).bind fun r11 =>
    (tm_wI h10 0 r11 (tm_wr ((tm_wr (61 + (tm_wr (41 * a2)))) + x3)) v6).bind fun h12 =>
    some (.inl (((tm_wr (x3 + 1)), h12))))
    else
    ((fX9_allMarks this ((-1)) h).bind fun q13 =>
    some (.inr (q13.1, q13.2)))
noncomputable def fX9_swap_L26 (this : Nat) (a1 : Int) (a2 : Int) (x3 : Int) (h : tm_H) : Option (Int × tm_H) := tm_wl (fX9_swap_S0 this a1 a2) ((x3, h))
theorem fX9_swap_L26_eq (this : Nat) (a1 : Int) (a2 : Int) (x3 : Int) (h : tm_H) : fX9_swap_L26 this a1 a2 x3 h =
    if x3 < 41 then
    ((tm_gR h 9 0 this).bind fun r14 =>
    (tm_lI h 0 r14 (tm_wr ((tm_wr (61 + (tm_wr (41 * a1)))) + x3))).bind fun v15 =>
    (tm_gR h 9 0 this).bind fun r16 =>
    (tm_gR h 9 0 this).bind fun r17 =>
    (tm_lI h 0 r17 (tm_wr ((tm_wr (61 + (tm_wr (41 * a2)))) + x3))).bind fun v18 =>
    (tm_wI h 0 r16 (tm_wr ((tm_wr (61 + (tm_wr (41 * a1)))) + x3)) v18).bind fun h19 =>
    (tm_gR h19 9 0 this).bind fun r20 =>
    (tm_wI h19 0 r20 (tm_wr ((tm_wr (61 + (tm_wr (41 * a2)))) + x3)) v15).bind fun h21 =>
    fX9_swap_L26 this a1 a2 (tm_wr (x3 + 1)) h21)
    else
    ((fX9_allMarks this ((-1)) h).bind fun q22 =>
    some (q22.1, q22.2)) := by
  unfold fX9_swap_L26
  rw [tm_wl_eq]
  simp only [fX9_swap_S0, tm_go_ite, tm_go_bind, tm_go_inl, tm_go_inr, tm_go_out, tm_go_th]
  try rfl
noncomputable def fX9_swap (this : Nat) (a1 : Int) (a2 : Int) (h : tm_H) : Option (Int × tm_H) :=
  tm_th h 9 this (
    (fX9_isChapter a1 h).bind fun v1 =>
    if v1 = 0 then
    (some ((-1), h))
    else
    ((fX9_isChapter a2 h).bind fun v2 =>
    if v2 = 0 then
    (some ((-1), h))
    else
    ((tm_gR h 9 0 this).bind fun r3 =>
    (fX9_saves this r3 h).bind fun h4 =>
    fX9_swap_L26 this a1 a2 0 h4)))
noncomputable def fX9_isTerm (this : Nat) (a1 : Int) (h : tm_H) : Option (Int) :=
  tm_th h 9 this (
    (tm_gR h 9 0 this).bind fun r1 =>
    (tm_lI h 0 r1 307).bind fun v2 =>
    (fX9_in a1 0 (tm_wr (v2 - 1)) h).bind fun v3 =>
    (tm_zr v3).bind fun z => some z)
noncomputable def fX9_areAlike_S0 (this : Nat) (a1 : Int) (a2 : Int) (h : tm_H) (st : (Int × Int) ⊕ (Int × Int)) : Option (((Int × Int) ⊕ (Int × Int)) ⊕ (Int)) := match st with
  | .inl ((x3, x4)) =>
    (fX9_ofTerm this a1 0 h).bind fun v3 =>
    if v3 < x4 then
    ((tm_zr x3).bind fun z => some (.inr z))
    else
    (if x3 = 0 then
    ((tm_zr x3).bind fun z => some (.inr z))
    else
    ((tm_gR h 9 0 this).bind fun r4 =>
    (fX9_ofTerm this a1 x4 h).bind fun v5 =>
    (tm_lI h 0 r4 (tm_wr (1 + v5))).bind fun v6 =>
    (tm_gR h 9 0 this).bind fun r7 =>
    (fX9_ofTerm this a2 x4 h).bind fun v8 =>
    (tm_lI h 0 r7 (tm_wr (1 + v8))).bind fun v9 =>
    if v6 = v9 then
    (some (.inl (.inr ((x4, 1)))))
    else
    (some (.inl (.inr ((x4, 0)))))))
  | .inr ((x4, s0)) =>
    some (.inl (.inl ((s0, (tm_wr (x4 + 1))))))
noncomputable def fX9_areAlike_L24 (this : Nat) (a1 : Int) (a2 : Int) (h : tm_H) (x3 : Int) (x4 : Int) : Option (Int) := tm_wl (fX9_areAlike_S0 this a1 a2 h) (.inl ((x3, x4)))
noncomputable def fX9_areAlike_L75 (this : Nat) (a1 : Int) (a2 : Int) (h : tm_H) (x4 : Int) (s0 : Int) : Option (Int) := tm_wl (fX9_areAlike_S0 this a1 a2 h) (.inr ((x4, s0)))
theorem fX9_areAlike_L24_eq (this : Nat) (a1 : Int) (a2 : Int) (h : tm_H) (x3 : Int) (x4 : Int) : fX9_areAlike_L24 this a1 a2 h x3 x4 =
    (fX9_ofTerm this a1 0 h).bind fun v10 =>
    if v10 < x4 then
    ((tm_zr x3).bind fun z => some z)
    else
    (if x3 = 0 then
    ((tm_zr x3).bind fun z => some z)
    else
    ((tm_gR h 9 0 this).bind fun r11 =>
    (fX9_ofTerm this a1 x4 h).bind fun v12 =>
    (tm_lI h 0 r11 (tm_wr (1 + v12))).bind fun v13 =>
    (tm_gR h 9 0 this).bind fun r14 =>
    (fX9_ofTerm this a2 x4 h).bind fun v15 =>
    (tm_lI h 0 r14 (tm_wr (1 + v15))).bind fun v16 =>
    if v13 = v16 then
    (fX9_areAlike_L75 this a1 a2 h x4 1)
    else
    (fX9_areAlike_L75 this a1 a2 h x4 0))) := by
  unfold fX9_areAlike_L24
  rw [tm_wl_eq]
  simp only [fX9_areAlike_S0, tm_go_ite, tm_go_bind, tm_go_inl, tm_go_inr, tm_go_out, tm_go_th]
  try rfl
theorem fX9_areAlike_L75_eq (this : Nat) (a1 : Int) (a2 : Int) (h : tm_H) (x4 : Int) (s0 : Int) : fX9_areAlike_L75 this a1 a2 h x4 s0 =
    fX9_areAlike_L24 this a1 a2 h s0 (tm_wr (x4 + 1)) := by
  unfold fX9_areAlike_L75
  rw [tm_wl_eq]
  simp only [fX9_areAlike_S0, tm_go_ite, tm_go_bind, tm_go_inl, tm_go_inr, tm_go_out, tm_go_th]
  try rfl
noncomputable def fX9_areAlike_L20 (this : Nat) (a1 : Int) (a2 : Int) (h : tm_H) (s0 : Int) : Option (Int) :=
  fX9_areAlike_L24 this a1 a2 h s0 1
noncomputable def fX9_areAlike (this : Nat) (a1 : Int) (a2 : Int) (h : tm_H) : Option (Int) :=
  tm_th h 9 this (
    (fX9_ofTerm this a1 0 h).bind fun v1 =>
    (fX9_ofTerm this a2 0 h).bind fun v2 =>
    if v1 = v2 then
    (fX9_areAlike_L20 this a1 a2 h 1)
    else
    (fX9_areAlike_L20 this a1 a2 h 0))
noncomputable def fX9_isThere_S0 (this : Nat) (h : tm_H) (st : (Int × Int) ⊕ (Int) ⊕ (Int × Int)) : Option (((Int × Int) ⊕ (Int) ⊕ (Int × Int)) ⊕ (Int)) := match st with
  | .inl ((x1, x2)) =>
    (tm_gR h 9 0 this).bind fun r1 =>
    (tm_lI h 0 r1 307).bind fun v2 =>
    if x2 < v2 then
    (if x1 = 0 then
    ((fX9_areAlike this x2 12 h).bind fun v3 =>
    if v3 = 0 then
    (some (.inl (.inr (.inr ((x2, 0))))))
    else
    (some (.inl (.inr (.inl ((x2)))))))
    else
    (some (.inl (.inr (.inl ((x2)))))))
    else
    ((tm_zr x1).bind fun z => some (.inr z))
  | .inr (.inl ((x2))) =>
    some (.inl (.inr (.inr ((x2, 1)))))
  | .inr (.inr ((x2, s0))) =>
    some (.inl (.inl ((s0, (tm_wr (x2 + 1))))))
noncomputable def fX9_isThere_L4 (this : Nat) (h : tm_H) (x1 : Int) (x2 : Int) : Option (Int) := tm_wl (fX9_isThere_S0 this h) (.inl ((x1, x2)))
noncomputable def fX9_isThere_L30 (this : Nat) (h : tm_H) (x2 : Int) : Option (Int) := tm_wl (fX9_isThere_S0 this h) (.inr (.inl ((x2))))
noncomputable def fX9_isThere_L35 (this : Nat) (h : tm_H) (x2 : Int) (s0 : Int) : Option (Int) := tm_wl (fX9_isThere_S0 this h) (.inr (.inr ((x2, s0))))
theorem fX9_isThere_L4_eq (this : Nat) (h : tm_H) (x1 : Int) (x2 : Int) : fX9_isThere_L4 this h x1 x2 =
    (tm_gR h 9 0 this).bind fun r4 =>
    (tm_lI h 0 r4 307).bind fun v5 =>
    if x2 < v5 then
    (if x1 = 0 then
    ((fX9_areAlike this x2 12 h).bind fun v6 =>
    if v6 = 0 then
    (fX9_isThere_L35 this h x2 0)
    else
    (fX9_isThere_L30 this h x2))
    else
    (fX9_isThere_L30 this h x2))
    else
    ((tm_zr x1).bind fun z => some z) := by
  unfold fX9_isThere_L4
  rw [tm_wl_eq]
  simp only [fX9_isThere_S0, tm_go_ite, tm_go_bind, tm_go_inl, tm_go_inr, tm_go_out, tm_go_th]
  try rfl
theorem fX9_isThere_L30_eq (this : Nat) (h : tm_H) (x2 : Int) : fX9_isThere_L30 this h x2 =
    fX9_isThere_L35 this h x2 1 := by
  unfold fX9_isThere_L30
  rw [tm_wl_eq]
  simp only [fX9_isThere_S0, tm_go_ite, tm_go_bind, tm_go_inl, tm_go_inr, tm_go_out, tm_go_th]
  try rfl
theorem fX9_isThere_L35_eq (this : Nat) (h : tm_H) (x2 : Int) (s0 : Int) : fX9_isThere_L35 this h x2 s0 =
    fX9_isThere_L4 this h s0 (tm_wr (x2 + 1)) := by
  unfold fX9_isThere_L35
  rw [tm_wl_eq]
  simp only [fX9_isThere_S0, tm_go_ite, tm_go_bind, tm_go_inl, tm_go_inr, tm_go_out, tm_go_th]
  try rfl
noncomputable def fX9_isThere (this : Nat) (h : tm_H) : Option (Int) :=
  tm_th h 9 this (
    fX9_isThere_L4 this h 0 0)
noncomputable def fX9_tries_S0 (this : Nat) (a1 : Int) (a2 : Int) (a3 : Int) (a4 : Int) (st : (Int × Int × tm_H) ⊕ (Int × tm_H) ⊕ (Int × tm_H) ⊕ (Int × Int × tm_H)) : Option (((Int × Int × tm_H) ⊕ (Int × tm_H) ⊕ (Int × tm_H) ⊕ (Int × Int × tm_H)) ⊕ (Int × tm_H)) := match st with
  | .inl ((x5, x6, h)) =>
    if 4 < x6 then
    ((tm_zr x5).bind fun z => some (.inr (z, h)))
    else
    (if x5 = 0 then
    (some (.inl (.inr (.inr (.inl ((x6, h)))))))
    else
    ((tm_gR h 9 7 this).bind fun r11 =>
    (tm_lI h 0 r11 0).bind fun v12 =>
    if v12 < x6 then
    ((tm_gR h 9 7 this).bind fun r13 =>
    (tm_lI h 0 r13 x6).bind fun v14 =>
    if v14 = ((-1)) then
    (some (.inl (.inr (.inl ((x6, h))))))
    else
    (some (.inl (.inr (.inr (.inl ((x6, h))))))))
    else
    ((tm_gR h 9 7 this).bind fun r15 =>
    (tm_lI h 0 r15 x6).bind fun v16 =>
    (fX9_isWord this v16 h).bind fun v17 =>
    if v17 = 0 then
    (some (.inl (.inr (.inr (.inl ((x6, h)))))))
    else
    (some (.inl (.inr (.inl ((x6, h)))))))))
  | .inr (.inl ((x6, h))) =>
    some (.inl (.inr (.inr (.inr ((x6, 1, h))))))
  | .inr (.inr (.inl ((x6, h)))) =>
    some (.inl (.inr (.inr (.inr ((x6, 0, h))))))
  | .inr (.inr (.inr ((x6, s0, h)))) =>
    some (.inl (.inl ((s0, (tm_wr (x6 + 1)), h))))
noncomputable def fX9_tries_L70 (this : Nat) (a1 : Int) (a2 : Int) (a3 : Int) (a4 : Int) (x5 : Int) (x6 : Int) (h : tm_H) : Option (Int × tm_H) := tm_wl (fX9_tries_S0 this a1 a2 a3 a4) (.inl ((x5, x6, h)))
noncomputable def fX9_tries_L120 (this : Nat) (a1 : Int) (a2 : Int) (a3 : Int) (a4 : Int) (x6 : Int) (h : tm_H) : Option (Int × tm_H) := tm_wl (fX9_tries_S0 this a1 a2 a3 a4) (.inr (.inl ((x6, h))))
noncomputable def fX9_tries_L124 (this : Nat) (a1 : Int) (a2 : Int) (a3 : Int) (a4 : Int) (x6 : Int) (h : tm_H) : Option (Int × tm_H) := tm_wl (fX9_tries_S0 this a1 a2 a3 a4) (.inr (.inr (.inl ((x6, h)))))
noncomputable def fX9_tries_L125 (this : Nat) (a1 : Int) (a2 : Int) (a3 : Int) (a4 : Int) (x6 : Int) (s0 : Int) (h : tm_H) : Option (Int × tm_H) := tm_wl (fX9_tries_S0 this a1 a2 a3 a4) (.inr (.inr (.inr ((x6, s0, h)))))
theorem fX9_tries_L70_eq (this : Nat) (a1 : Int) (a2 : Int) (a3 : Int) (a4 : Int) (x5 : Int) (x6 : Int) (h : tm_H) : fX9_tries_L70 this a1 a2 a3 a4 x5 x6 h =
    if 4 < x6 then
    ((tm_zr x5).bind fun z => some (z, h))
    else
    (if x5 = 0 then
    (fX9_tries_L124 this a1 a2 a3 a4 x6 h)
    else
    ((tm_gR h 9 7 this).bind fun r18 =>
    (tm_lI h 0 r18 0).bind fun v19 =>
    if v19 < x6 then
    ((tm_gR h 9 7 this).bind fun r20 =>
    (tm_lI h 0 r20 x6).bind fun v21 =>
    if v21 = ((-1)) then
    (fX9_tries_L120 this a1 a2 a3 a4 x6 h)
    else
    (fX9_tries_L124 this a1 a2 a3 a4 x6 h))
    else
    ((tm_gR h 9 7 this).bind fun r22 =>
    (tm_lI h 0 r22 x6).bind fun v23 =>
    (fX9_isWord this v23 h).bind fun v24 =>
    if v24 = 0 then
    (fX9_tries_L124 this a1 a2 a3 a4 x6 h)
    else
    (fX9_tries_L120 this a1 a2 a3 a4 x6 h)))) := by
  unfold fX9_tries_L70
  rw [tm_wl_eq]
  simp only [fX9_tries_S0, tm_go_ite, tm_go_bind, tm_go_inl, tm_go_inr, tm_go_out, tm_go_th]
  try rfl
theorem fX9_tries_L120_eq (this : Nat) (a1 : Int) (a2 : Int) (a3 : Int) (a4 : Int) (x6 : Int) (h : tm_H) : fX9_tries_L120 this a1 a2 a3 a4 x6 h =
    fX9_tries_L125 this a1 a2 a3 a4 x6 1 h := by
  unfold fX9_tries_L120
  rw [tm_wl_eq]
  simp only [fX9_tries_S0, tm_go_ite, tm_go_bind, tm_go_inl, tm_go_inr, tm_go_out, tm_go_th]
  try rfl
theorem fX9_tries_L124_eq (this : Nat) (a1 : Int) (a2 : Int) (a3 : Int) (a4 : Int) (x6 : Int) (h : tm_H) : fX9_tries_L124 this a1 a2 a3 a4 x6 h =
    fX9_tries_L125 this a1 a2 a3 a4 x6 0 h := by
  unfold fX9_tries_L124
  rw [tm_wl_eq]
  simp only [fX9_tries_S0, tm_go_ite, tm_go_bind, tm_go_inl, tm_go_inr, tm_go_out, tm_go_th]
  try rfl
theorem fX9_tries_L125_eq (this : Nat) (a1 : Int) (a2 : Int) (a3 : Int) (a4 : Int) (x6 : Int) (s0 : Int) (h : tm_H) : fX9_tries_L125 this a1 a2 a3 a4 x6 s0 h =
    fX9_tries_L70 this a1 a2 a3 a4 s0 (tm_wr (x6 + 1)) h := by
  unfold fX9_tries_L125
  rw [tm_wl_eq]
  simp only [fX9_tries_S0, tm_go_ite, tm_go_bind, tm_go_inl, tm_go_inr, tm_go_out, tm_go_th]
  try rfl
noncomputable def fX9_tries_L63 (this : Nat) (a1 : Int) (a2 : Int) (a3 : Int) (a4 : Int) (s0 : Nat) (s1 : Int) (s2 : Int) (h : tm_H) : Option (Int × tm_H) :=
  (tm_wI h 0 s0 s1 s2).bind fun h10 =>
  fX9_tries_L70 this a1 a2 a3 a4 1 1 h10
noncomputable def fX9_tries (this : Nat) (a1 : Int) (a2 : Int) (a3 : Int) (a4 : Int) (h : tm_H) : Option (Int × tm_H) :=
  tm_th h 9 this (
    (tm_gR h 9 7 this).bind fun r1 =>
    (tm_wI h 0 r1 1 a1).bind fun h2 =>
    (tm_gR h2 9 7 this).bind fun r3 =>
    (tm_wI h2 0 r3 2 a2).bind fun h4 =>
    (tm_gR h4 9 7 this).bind fun r5 =>
    (tm_wI h4 0 r5 3 a3).bind fun h6 =>
    (tm_gR h6 9 7 this).bind fun r7 =>
    (tm_wI h6 0 r7 4 a4).bind fun h8 =>
    (tm_gR h8 9 7 this).bind fun r9 =>
    if a2 = ((-1)) then
    (fX9_tries_L63 this a1 a2 a3 a4 r9 0 1 h8)
    else
    (if a3 = ((-1)) then
    (fX9_tries_L63 this a1 a2 a3 a4 r9 0 2 h8)
    else
    (if a4 = ((-1)) then
    (fX9_tries_L63 this a1 a2 a3 a4 r9 0 3 h8)
    else
    (fX9_tries_L63 this a1 a2 a3 a4 r9 0 4 h8))))
noncomputable def fX9_comes_S0 (this : Nat) (st : (Int × Int × tm_H) ⊕ (Int × Int × Nat × Int × Int × tm_H)) : Option (((Int × Int × tm_H) ⊕ (Int × Int × Nat × Int × Int × tm_H)) ⊕ (Int × tm_H)) := match st with
  | .inl ((x1, x2, h)) =>
    if x2 < 5 then
    ((tm_gR h 9 0 this).bind fun r3 =>
    (tm_gR h 9 7 this).bind fun r4 =>
    (tm_lI h 0 r4 0).bind fun v5 =>
    if v5 < x2 then
    (some (.inl (.inr ((x1, x2, r3, (tm_wr (x1 + x2)), ((-1)), h)))))
    else
    ((tm_gR h 9 7 this).bind fun r6 =>
    (tm_lI h 0 r6 x2).bind fun v7 =>
    some (.inl (.inr ((x1, x2, r3, (tm_wr (x1 + x2)), v7, h))))))
    else
    ((tm_gR h 9 0 this).bind fun r8 =>
    (tm_wI h 0 r8 (tm_wr (x1 + 5)) 0).bind fun h9 =>
    (tm_gR h9 9 0 this).bind fun r10 =>
    (tm_lI h9 0 r10 307).bind fun v11 =>
    (tm_wI h9 0 r10 307 (tm_wr (v11 + 1))).bind fun h12 =>
    (tm_gR h12 9 0 this).bind fun r13 =>
    (tm_lI h12 0 r13 307).bind fun v14 =>
    some (.inr (tm_wr (v14 - 1), h12)))
  | .inr ((x1, x2, s0, s1, s2, h)) =>
    (tm_wI h 0 s0 s1 s2).bind fun h15 =>
    some (.inl (.inl ((x1, (tm_wr (x2 + 1)), h15))))
noncomputable def fX9_comes_L18 (this : Nat) (x1 : Int) (x2 : Int) (h : tm_H) : Option (Int × tm_H) := tm_wl (fX9_comes_S0 this) (.inl ((x1, x2, h)))
noncomputable def fX9_comes_L50 (this : Nat) (x1 : Int) (x2 : Int) (s0 : Nat) (s1 : Int) (s2 : Int) (h : tm_H) : Option (Int × tm_H) := tm_wl (fX9_comes_S0 this) (.inr ((x1, x2, s0, s1, s2, h)))
theorem fX9_comes_L18_eq (this : Nat) (x1 : Int) (x2 : Int) (h : tm_H) : fX9_comes_L18 this x1 x2 h =
    if x2 < 5 then
    ((tm_gR h 9 0 this).bind fun r16 =>
    (tm_gR h 9 7 this).bind fun r17 =>
    (tm_lI h 0 r17 0).bind fun v18 =>
    if v18 < x2 then
    (fX9_comes_L50 this x1 x2 r16 (tm_wr (x1 + x2)) ((-1)) h)
    else
    ((tm_gR h 9 7 this).bind fun r19 =>
    (tm_lI h 0 r19 x2).bind fun v20 =>
    fX9_comes_L50 this x1 x2 r16 (tm_wr (x1 + x2)) v20 h))
    else
    ((tm_gR h 9 0 this).bind fun r21 =>
    (tm_wI h 0 r21 (tm_wr (x1 + 5)) 0).bind fun h22 =>
    (tm_gR h22 9 0 this).bind fun r23 =>
    (tm_lI h22 0 r23 307).bind fun v24 =>
    (tm_wI h22 0 r23 307 (tm_wr (v24 + 1))).bind fun h25 =>
    (tm_gR h25 9 0 this).bind fun r26 =>
    (tm_lI h25 0 r26 307).bind fun v27 =>
    some (tm_wr (v27 - 1), h25)) := by
  unfold fX9_comes_L18
  rw [tm_wl_eq]
  simp only [fX9_comes_S0, tm_go_ite, tm_go_bind, tm_go_inl, tm_go_inr, tm_go_out, tm_go_th]
  try rfl
theorem fX9_comes_L50_eq (this : Nat) (x1 : Int) (x2 : Int) (s0 : Nat) (s1 : Int) (s2 : Int) (h : tm_H) : fX9_comes_L50 this x1 x2 s0 s1 s2 h =
    (tm_wI h 0 s0 s1 s2).bind fun h28 =>
    fX9_comes_L18 this x1 (tm_wr (x2 + 1)) h28 := by
  unfold fX9_comes_L50
  rw [tm_wl_eq]
  simp only [fX9_comes_S0, tm_go_ite, tm_go_bind, tm_go_inl, tm_go_inr, tm_go_out, tm_go_th]
  try rfl
noncomputable def fX9_comes (this : Nat) (h : tm_H) : Option (Int × tm_H) :=
  tm_th h 9 this (
    (tm_gR h 9 0 this).bind fun r1 =>
    (tm_lI h 0 r1 307).bind fun v2 =>
    fX9_comes_L18 this (tm_wr (308 + (tm_wr (6 * v2)))) 0 h)
noncomputable def fX9_addTerm (this : Nat) (a1 : Int) (a2 : Int) (a3 : Int) (a4 : Int) (h : tm_H) : Option (Int × tm_H) :=
  tm_th h 9 this (
    (fX9_tries this a1 a2 a3 a4 h).bind fun q1 =>
    if q1.1 = 0 then
    (some ((-1), q1.2))
    else
    ((fX9_isThere this q1.2).bind fun v2 =>
    if v2 = 0 then
    ((tm_gR q1.2 9 0 this).bind fun r3 =>
    (tm_lI q1.2 0 r3 307).bind fun v4 =>
    if v4 = 12 then
    (some ((-3), q1.2))
    else
    ((tm_gR q1.2 9 0 this).bind fun r5 =>
    (fX9_saves this r5 q1.2).bind fun h6 =>
    (fX9_comes this h6).bind fun q7 =>
    some (q7.1, q7.2)))
    else
    (some ((-2), q1.2))))
noncomputable def fX9_removeTerm_S0 (this : Nat) (a1 : Int) (st : (Int × tm_H)) : Option (((Int × tm_H)) ⊕ (Int × tm_H)) := match st with
  | (x2, h) =>
    (tm_gR h 9 0 this).bind fun r7 =>
    (tm_lI h 0 r7 307).bind fun v8 =>
    if x2 < (tm_wr (308 + (tm_wr (6 * v8)))) then
    ((tm_gR h 9 0 this).bind fun r9 =>
    (tm_gR h 9 0 this).bind fun r10 =>
    (tm_lI h 0 r10 (tm_wr (x2 + 6))).bind fun v11 =>
    (tm_wI h 0 r9 x2 v11).bind fun h12 =>
    some (.inl (((tm_wr (x2 + 1)), h12))))
    else
    ((tm_gR h 9 0 this).bind fun r13 =>
    (tm_lI h 0 r13 307).bind fun v14 =>
    some (.inr (v14, h)))
noncomputable def fX9_removeTerm_L39 (this : Nat) (a1 : Int) (x2 : Int) (h : tm_H) : Option (Int × tm_H) := tm_wl (fX9_removeTerm_S0 this a1) ((x2, h))
theorem fX9_removeTerm_L39_eq (this : Nat) (a1 : Int) (x2 : Int) (h : tm_H) : fX9_removeTerm_L39 this a1 x2 h =
    (tm_gR h 9 0 this).bind fun r15 =>
    (tm_lI h 0 r15 307).bind fun v16 =>
    if x2 < (tm_wr (308 + (tm_wr (6 * v16)))) then
    ((tm_gR h 9 0 this).bind fun r17 =>
    (tm_gR h 9 0 this).bind fun r18 =>
    (tm_lI h 0 r18 (tm_wr (x2 + 6))).bind fun v19 =>
    (tm_wI h 0 r17 x2 v19).bind fun h20 =>
    fX9_removeTerm_L39 this a1 (tm_wr (x2 + 1)) h20)
    else
    ((tm_gR h 9 0 this).bind fun r21 =>
    (tm_lI h 0 r21 307).bind fun v22 =>
    some (v22, h)) := by
  unfold fX9_removeTerm_L39
  rw [tm_wl_eq]
  simp only [fX9_removeTerm_S0, tm_go_ite, tm_go_bind, tm_go_inl, tm_go_inr, tm_go_out, tm_go_th]
  try rfl
noncomputable def fX9_removeTerm (this : Nat) (a1 : Int) (h : tm_H) : Option (Int × tm_H) :=
  tm_th h 9 this (
    (fX9_isTerm this a1 h).bind fun v1 =>
    if v1 = 0 then
    (some ((-1), h))
    else
    ((tm_gR h 9 0 this).bind fun r2 =>
    (fX9_saves this r2 h).bind fun h3 =>
    (tm_gR h3 9 0 this).bind fun r4 =>
    (tm_lI h3 0 r4 307).bind fun v5 =>
    (tm_wI h3 0 r4 307 (tm_wr (v5 - 1))).bind fun h6 =>
    fX9_removeTerm_L39 this a1 (tm_wr (308 + (tm_wr (6 * a1)))) h6))
noncomputable def fX9_setQuiet (this : Nat) (a1 : Int) (a2 : Int) (h : tm_H) : Option (Int × tm_H) :=
  tm_th h 9 this (
    (fX9_isTerm this a1 h).bind fun v1 =>
    if v1 = 0 then
    (some ((-1), h))
    else
    ((fX9_in a2 0 1 h).bind fun v2 =>
    if v2 = 0 then
    (some ((-1), h))
    else
    ((tm_gR h 9 0 this).bind fun r3 =>
    (fX9_saves this r3 h).bind fun h4 =>
    (tm_gR h4 9 0 this).bind fun r5 =>
    (tm_wI h4 0 r5 (tm_wr ((tm_wr (308 + (tm_wr (6 * a1)))) + 5)) a2).bind fun h6 =>
    (fX9_allMarks this ((-1)) h6).bind fun q7 =>
    some (q7.1, q7.2))))
noncomputable def fX9_hasForms_S0 (this : Nat) (a1 : Int) (h : tm_H) (st : (Int × Int) ⊕ (Int) ⊕ (Int) ⊕ (Int × Int)) : Option (((Int × Int) ⊕ (Int) ⊕ (Int) ⊕ (Int × Int)) ⊕ (Int)) := match st with
  | .inl ((x2, x3)) =>
    (tm_gR h 9 0 this).bind fun r1 =>
    (tm_lI h 0 r1 0).bind fun v2 =>
    if x3 < v2 then
    (if x2 = 0 then
    (if x3 = a1 then
    (some (.inl (.inr (.inr (.inl ((x3)))))))
    else
    ((tm_gR h 9 0 this).bind fun r3 =>
    (tm_lI h 0 r3 (tm_wr (1 + x3))).bind fun v4 =>
    if v4 = a1 then
    (some (.inl (.inr (.inl ((x3))))))
    else
    (some (.inl (.inr (.inr (.inl ((x3)))))))))
    else
    (some (.inl (.inr (.inl ((x3)))))))
    else
    ((tm_zr x2).bind fun z => some (.inr z))
  | .inr (.inl ((x3))) =>
    some (.inl (.inr (.inr (.inr ((x3, 1))))))
  | .inr (.inr (.inl ((x3)))) =>
    some (.inl (.inr (.inr (.inr ((x3, 0))))))
  | .inr (.inr (.inr ((x3, s0)))) =>
    some (.inl (.inl ((s0, (tm_wr (x3 + 1))))))
noncomputable def fX9_hasForms_L4 (this : Nat) (a1 : Int) (h : tm_H) (x2 : Int) (x3 : Int) : Option (Int) := tm_wl (fX9_hasForms_S0 this a1 h) (.inl ((x2, x3)))
noncomputable def fX9_hasForms_L35 (this : Nat) (a1 : Int) (h : tm_H) (x3 : Int) : Option (Int) := tm_wl (fX9_hasForms_S0 this a1 h) (.inr (.inl ((x3))))
noncomputable def fX9_hasForms_L39 (this : Nat) (a1 : Int) (h : tm_H) (x3 : Int) : Option (Int) := tm_wl (fX9_hasForms_S0 this a1 h) (.inr (.inr (.inl ((x3)))))
noncomputable def fX9_hasForms_L40 (this : Nat) (a1 : Int) (h : tm_H) (x3 : Int) (s0 : Int) : Option (Int) := tm_wl (fX9_hasForms_S0 this a1 h) (.inr (.inr (.inr ((x3, s0)))))
theorem fX9_hasForms_L4_eq (this : Nat) (a1 : Int) (h : tm_H) (x2 : Int) (x3 : Int) : fX9_hasForms_L4 this a1 h x2 x3 =
    (tm_gR h 9 0 this).bind fun r5 =>
    (tm_lI h 0 r5 0).bind fun v6 =>
    if x3 < v6 then
    (if x2 = 0 then
    (if x3 = a1 then
    (fX9_hasForms_L39 this a1 h x3)
    else
    ((tm_gR h 9 0 this).bind fun r7 =>
    (tm_lI h 0 r7 (tm_wr (1 + x3))).bind fun v8 =>
    if v8 = a1 then
    (fX9_hasForms_L35 this a1 h x3)
    else
    (fX9_hasForms_L39 this a1 h x3)))
    else
    (fX9_hasForms_L35 this a1 h x3))
    else
    ((tm_zr x2).bind fun z => some z) := by
  unfold fX9_hasForms_L4
  rw [tm_wl_eq]
  simp only [fX9_hasForms_S0, tm_go_ite, tm_go_bind, tm_go_inl, tm_go_inr, tm_go_out, tm_go_th]
  try rfl
theorem fX9_hasForms_L35_eq (this : Nat) (a1 : Int) (h : tm_H) (x3 : Int) : fX9_hasForms_L35 this a1 h x3 =
    fX9_hasForms_L40 this a1 h x3 1 := by
  unfold fX9_hasForms_L35
  rw [tm_wl_eq]
  simp only [fX9_hasForms_S0, tm_go_ite, tm_go_bind, tm_go_inl, tm_go_inr, tm_go_out, tm_go_th]
  try rfl
theorem fX9_hasForms_L39_eq (this : Nat) (a1 : Int) (h : tm_H) (x3 : Int) : fX9_hasForms_L39 this a1 h x3 =
    fX9_hasForms_L40 this a1 h x3 0 := by
  unfold fX9_hasForms_L39
  rw [tm_wl_eq]
  simp only [fX9_hasForms_S0, tm_go_ite, tm_go_bind, tm_go_inl, tm_go_inr, tm_go_out, tm_go_th]
  try rfl
theorem fX9_hasForms_L40_eq (this : Nat) (a1 : Int) (h : tm_H) (x3 : Int) (s0 : Int) : fX9_hasForms_L40 this a1 h x3 s0 =
    fX9_hasForms_L4 this a1 h s0 (tm_wr (x3 + 1)) := by
  unfold fX9_hasForms_L40
  rw [tm_wl_eq]
  simp only [fX9_hasForms_S0, tm_go_ite, tm_go_bind, tm_go_inl, tm_go_inr, tm_go_out, tm_go_th]
  try rfl
noncomputable def fX9_hasForms (this : Nat) (a1 : Int) (h : tm_H) : Option (Int) :=
  tm_th h 9 this (
    fX9_hasForms_L4 this a1 h 0 0)
noncomputable def fX9_canBe_S0 (this : Nat) (a1 : Int) (a2 : Int) (st : (Int × Int × Int × tm_H) ⊕ (Int × Int × Int × Int × tm_H) ⊕ (Int × Int × Int × tm_H) ⊕ (Int × Int × Int × Int × tm_H)) : Option (((Int × Int × Int × tm_H) ⊕ (Int × Int × Int × Int × tm_H) ⊕ (Int × Int × Int × tm_H) ⊕ (Int × Int × Int × Int × tm_H)) ⊕ (Int × tm_H)) := match st with
  | .inl ((x3, x4, x5, h)) =>
    (tm_gR h 9 0 this).bind fun r8 =>
    (tm_lI h 0 r8 307).bind fun v9 =>
    if x5 < v9 then
    (some (.inl (.inr (.inl ((x3, x4, x5, 0, h))))))
    else
    ((tm_gR h 9 0 this).bind fun r10 =>
    (tm_wI h 0 r10 (tm_wr (1 + a1)) x3).bind fun h11 =>
    (tm_zr x4).bind fun z => some (.inr (z, h11)))
  | .inr (.inl ((x3, x4, x5, x6, h))) =>
    if x6 < x5 then
    (if x4 = 0 then
    (some (.inl (.inr (.inr (.inl ((x3, x5, x6, h)))))))
    else
    ((fX9_areAlike this x5 x6 h).bind fun v12 =>
    if v12 = 0 then
    (some (.inl (.inr (.inr (.inr ((x3, x5, x6, 1, h)))))))
    else
    (some (.inl (.inr (.inr (.inl ((x3, x5, x6, h)))))))))
    else
    (some (.inl (.inl ((x3, x4, (tm_wr (x5 + 1)), h)))))
  | .inr (.inr (.inl ((x3, x5, x6, h)))) =>
    some (.inl (.inr (.inr (.inr ((x3, x5, x6, 0, h))))))
  | .inr (.inr (.inr ((x3, x5, x6, s0, h)))) =>
    some (.inl (.inr (.inl ((x3, s0, x5, (tm_wr (x6 + 1)), h)))))
noncomputable def fX9_canBe_L51 (this : Nat) (a1 : Int) (a2 : Int) (x3 : Int) (x4 : Int) (x5 : Int) (h : tm_H) : Option (Int × tm_H) := tm_wl (fX9_canBe_S0 this a1 a2) (.inl ((x3, x4, x5, h)))
noncomputable def fX9_canBe_L67 (this : Nat) (a1 : Int) (a2 : Int) (x3 : Int) (x4 : Int) (x5 : Int) (x6 : Int) (h : tm_H) : Option (Int × tm_H) := tm_wl (fX9_canBe_S0 this a1 a2) (.inr (.inl ((x3, x4, x5, x6, h))))
noncomputable def fX9_canBe_L94 (this : Nat) (a1 : Int) (a2 : Int) (x3 : Int) (x5 : Int) (x6 : Int) (h : tm_H) : Option (Int × tm_H) := tm_wl (fX9_canBe_S0 this a1 a2) (.inr (.inr (.inl ((x3, x5, x6, h)))))
noncomputable def fX9_canBe_L95 (this : Nat) (a1 : Int) (a2 : Int) (x3 : Int) (x5 : Int) (x6 : Int) (s0 : Int) (h : tm_H) : Option (Int × tm_H) := tm_wl (fX9_canBe_S0 this a1 a2) (.inr (.inr (.inr ((x3, x5, x6, s0, h)))))
theorem fX9_canBe_L51_eq (this : Nat) (a1 : Int) (a2 : Int) (x3 : Int) (x4 : Int) (x5 : Int) (h : tm_H) : fX9_canBe_L51 this a1 a2 x3 x4 x5 h =
    (tm_gR h 9 0 this).bind fun r13 =>
    (tm_lI h 0 r13 307).bind fun v14 =>
    if x5 < v14 then
    (fX9_canBe_L67 this a1 a2 x3 x4 x5 0 h)
    else
    ((tm_gR h 9 0 this).bind fun r15 =>
    (tm_wI h 0 r15 (tm_wr (1 + a1)) x3).bind fun h16 =>
    (tm_zr x4).bind fun z => some (z, h16)) := by
  unfold fX9_canBe_L51
  rw [tm_wl_eq]
  simp only [fX9_canBe_S0, tm_go_ite, tm_go_bind, tm_go_inl, tm_go_inr, tm_go_out, tm_go_th]
  try rfl
theorem fX9_canBe_L67_eq (this : Nat) (a1 : Int) (a2 : Int) (x3 : Int) (x4 : Int) (x5 : Int) (x6 : Int) (h : tm_H) : fX9_canBe_L67 this a1 a2 x3 x4 x5 x6 h =
    if x6 < x5 then
    (if x4 = 0 then
    (fX9_canBe_L94 this a1 a2 x3 x5 x6 h)
    else
    ((fX9_areAlike this x5 x6 h).bind fun v17 =>
    if v17 = 0 then
    (fX9_canBe_L95 this a1 a2 x3 x5 x6 1 h)
    else
    (fX9_canBe_L94 this a1 a2 x3 x5 x6 h)))
    else
    (fX9_canBe_L51 this a1 a2 x3 x4 (tm_wr (x5 + 1)) h) := by
  unfold fX9_canBe_L67
  rw [tm_wl_eq]
  simp only [fX9_canBe_S0, tm_go_ite, tm_go_bind, tm_go_inl, tm_go_inr, tm_go_out, tm_go_th]
  try rfl
theorem fX9_canBe_L94_eq (this : Nat) (a1 : Int) (a2 : Int) (x3 : Int) (x5 : Int) (x6 : Int) (h : tm_H) : fX9_canBe_L94 this a1 a2 x3 x5 x6 h =
    fX9_canBe_L95 this a1 a2 x3 x5 x6 0 h := by
  unfold fX9_canBe_L94
  rw [tm_wl_eq]
  simp only [fX9_canBe_S0, tm_go_ite, tm_go_bind, tm_go_inl, tm_go_inr, tm_go_out, tm_go_th]
  try rfl
theorem fX9_canBe_L95_eq (this : Nat) (a1 : Int) (a2 : Int) (x3 : Int) (x5 : Int) (x6 : Int) (s0 : Int) (h : tm_H) : fX9_canBe_L95 this a1 a2 x3 x5 x6 s0 h =
    fX9_canBe_L67 this a1 a2 x3 s0 x5 (tm_wr (x6 + 1)) h := by
  unfold fX9_canBe_L95
  rw [tm_wl_eq]
  simp only [fX9_canBe_S0, tm_go_ite, tm_go_bind, tm_go_inl, tm_go_inr, tm_go_out, tm_go_th]
  try rfl
noncomputable def fX9_canBe_L27 (this : Nat) (a1 : Int) (a2 : Int)  (h : tm_H) : Option (Int × tm_H) :=
  (tm_gR h 9 0 this).bind fun r4 =>
  (tm_lI h 0 r4 (tm_wr (1 + a1))).bind fun v5 =>
  (tm_gR h 9 0 this).bind fun r6 =>
  (tm_wI h 0 r6 (tm_wr (1 + a1)) a2).bind fun h7 =>
  fX9_canBe_L51 this a1 a2 v5 1 0 h7
noncomputable def fX9_canBe (this : Nat) (a1 : Int) (a2 : Int) (h : tm_H) : Option (Int × tm_H) :=
  tm_th h 9 this (
    if a2 = a1 then
    (fX9_canBe_L27 this a1 a2 h)
    else
    ((tm_gR h 9 0 this).bind fun r1 =>
    (tm_lI h 0 r1 (tm_wr (1 + a2))).bind fun v2 =>
    if v2 = a2 then
    ((fX9_hasForms this a1 h).bind fun v3 =>
    if v3 = 0 then
    (fX9_canBe_L27 this a1 a2 h)
    else
    (some (0, h)))
    else
    (some (0, h))))
noncomputable def fX9_setBase (this : Nat) (a1 : Int) (a2 : Int) (h : tm_H) : Option (Int × tm_H) :=
  tm_th h 9 this (
    (fX9_isWord this a1 h).bind fun v1 =>
    if v1 = 0 then
    (some ((-1), h))
    else
    ((fX9_isWord this a2 h).bind fun v2 =>
    if v2 = 0 then
    (some ((-1), h))
    else
    ((fX9_canBe this a1 a2 h).bind fun q3 =>
    if q3.1 = 0 then
    (some ((-2), q3.2))
    else
    ((tm_gR q3.2 9 0 this).bind fun r4 =>
    (fX9_saves this r4 q3.2).bind fun h5 =>
    (tm_gR h5 9 0 this).bind fun r6 =>
    (tm_lI h5 0 r6 (tm_wr (1 + a1))).bind fun v7 =>
    (tm_gR h5 9 0 this).bind fun r8 =>
    (tm_wI h5 0 r8 (tm_wr (1 + a1)) a2).bind fun h9 =>
    some (v7, h9)))))
noncomputable def fX9_wordsOfAll_S0 (this : Nat) (h : tm_H) (st : (Int × Int)) : Option (((Int × Int)) ⊕ (Int)) := match st with
  | (x1, x2) =>
    if x2 < 6 then
    ((fX9_size this x2 h).bind fun v1 =>
    some (.inl (((tm_wr (x1 + v1)), (tm_wr (x2 + 1))))))
    else
    (some (.inr x1))
noncomputable def fX9_wordsOfAll_L4 (this : Nat) (h : tm_H) (x1 : Int) (x2 : Int) : Option (Int) := tm_wl (fX9_wordsOfAll_S0 this h) ((x1, x2))
theorem fX9_wordsOfAll_L4_eq (this : Nat) (h : tm_H) (x1 : Int) (x2 : Int) : fX9_wordsOfAll_L4 this h x1 x2 =
    if x2 < 6 then
    ((fX9_size this x2 h).bind fun v2 =>
    fX9_wordsOfAll_L4 this h (tm_wr (x1 + v2)) (tm_wr (x2 + 1)))
    else
    (some x1) := by
  unfold fX9_wordsOfAll_L4
  rw [tm_wl_eq]
  simp only [fX9_wordsOfAll_S0, tm_go_ite, tm_go_bind, tm_go_inl, tm_go_inr, tm_go_out, tm_go_th]
  try rfl
noncomputable def fX9_wordsOfAll (this : Nat) (h : tm_H) : Option (Int) :=
  tm_th h 9 this (
    fX9_wordsOfAll_L4 this h 0 0)
noncomputable def fX9_isSlot (a1 : Int) (h : tm_H) : Option (Int) :=
  (fX9_in a1 0 1 h).bind fun v1 =>
  (tm_zr v1).bind fun z => some z
noncomputable def fX9_take_S0 (this : Nat) (a1 : Int) (st : (Int × Int × tm_H)) : Option (((Int × Int × tm_H)) ⊕ (Int × tm_H)) := match st with
  | (x2, x3, h) =>
    if x3 < 246 then
    ((tm_gR h 9 0 this).bind fun r6 =>
    (tm_gR h 9 0 this).bind fun r7 =>
    (tm_lI h 0 r7 (tm_wr (61 + x3))).bind fun v8 =>
    (tm_wI h 0 r6 (tm_wr ((tm_wr (x2 + 1)) + x3)) v8).bind fun h9 =>
    some (.inl ((x2, (tm_wr (x3 + 1)), h9))))
    else
    ((fX9_wordsOfAll this h).bind fun v10 =>
    some (.inr (v10, h)))
noncomputable def fX9_take_L36 (this : Nat) (a1 : Int) (x2 : Int) (x3 : Int) (h : tm_H) : Option (Int × tm_H) := tm_wl (fX9_take_S0 this a1) ((x2, x3, h))
theorem fX9_take_L36_eq (this : Nat) (a1 : Int) (x2 : Int) (x3 : Int) (h : tm_H) : fX9_take_L36 this a1 x2 x3 h =
    if x3 < 246 then
    ((tm_gR h 9 0 this).bind fun r11 =>
    (tm_gR h 9 0 this).bind fun r12 =>
    (tm_lI h 0 r12 (tm_wr (61 + x3))).bind fun v13 =>
    (tm_wI h 0 r11 (tm_wr ((tm_wr (x2 + 1)) + x3)) v13).bind fun h14 =>
    fX9_take_L36 this a1 x2 (tm_wr (x3 + 1)) h14)
    else
    ((fX9_wordsOfAll this h).bind fun v15 =>
    some (v15, h)) := by
  unfold fX9_take_L36
  rw [tm_wl_eq]
  simp only [fX9_take_S0, tm_go_ite, tm_go_bind, tm_go_inl, tm_go_inr, tm_go_out, tm_go_th]
  try rfl
noncomputable def fX9_take (this : Nat) (a1 : Int) (h : tm_H) : Option (Int × tm_H) :=
  tm_th h 9 this (
    (fX9_isSlot a1 h).bind fun v1 =>
    if v1 = 0 then
    (some ((-1), h))
    else
    ((tm_gR h 9 0 this).bind fun r2 =>
    (fX9_saves this r2 h).bind fun h3 =>
    (tm_gR h3 9 0 this).bind fun r4 =>
    (tm_wI h3 0 r4 (tm_wr (380 + (tm_wr (247 * a1)))) 1).bind fun h5 =>
    fX9_take_L36 this a1 (tm_wr (380 + (tm_wr (247 * a1)))) 0 h5))
noncomputable def fX9_restore_S0 (this : Nat) (a1 : Int) (st : (Int × Int × tm_H)) : Option (((Int × Int × tm_H)) ⊕ (Int × tm_H)) := match st with
  | (x2, x3, h) =>
    if x3 < 246 then
    ((tm_gR h 9 0 this).bind fun r6 =>
    (tm_gR h 9 0 this).bind fun r7 =>
    (tm_lI h 0 r7 (tm_wr ((tm_wr (x2 + 1)) + x3))).bind fun v8 =>
    (tm_wI h 0 r6 (tm_wr (61 + x3)) v8).bind fun h9 =>
    some (.inl ((x2, (tm_wr (x3 + 1)), h9))))
    else
    ((fX9_wordsOfAll this h).bind fun v10 =>
    some (.inr (v10, h)))
noncomputable def fX9_restore_L41 (this : Nat) (a1 : Int) (x2 : Int) (x3 : Int) (h : tm_H) : Option (Int × tm_H) := tm_wl (fX9_restore_S0 this a1) ((x2, x3, h))
theorem fX9_restore_L41_eq (this : Nat) (a1 : Int) (x2 : Int) (x3 : Int) (h : tm_H) : fX9_restore_L41 this a1 x2 x3 h =
    if x3 < 246 then
    ((tm_gR h 9 0 this).bind fun r11 =>
    (tm_gR h 9 0 this).bind fun r12 =>
    (tm_lI h 0 r12 (tm_wr ((tm_wr (x2 + 1)) + x3))).bind fun v13 =>
    (tm_wI h 0 r11 (tm_wr (61 + x3)) v13).bind fun h14 =>
    fX9_restore_L41 this a1 x2 (tm_wr (x3 + 1)) h14)
    else
    ((fX9_wordsOfAll this h).bind fun v15 =>
    some (v15, h)) := by
  unfold fX9_restore_L41
  rw [tm_wl_eq]
  simp only [fX9_restore_S0, tm_go_ite, tm_go_bind, tm_go_inl, tm_go_inr, tm_go_out, tm_go_th]
  try rfl
noncomputable def fX9_restore (this : Nat) (a1 : Int) (h : tm_H) : Option (Int × tm_H) :=
  tm_th h 9 this (
    (fX9_isSlot a1 h).bind fun v1 =>
    if v1 = 0 then
    (some ((-1), h))
    else
    ((tm_gR h 9 0 this).bind fun r2 =>
    (tm_lI h 0 r2 (tm_wr (380 + (tm_wr (247 * a1))))).bind fun v3 =>
    if v3 = 0 then
    (some ((-2), h))
    else
    ((tm_gR h 9 0 this).bind fun r4 =>
    (fX9_saves this r4 h).bind fun h5 =>
    fX9_restore_L41 this a1 (tm_wr (380 + (tm_wr (247 * a1)))) 0 h5)))
noncomputable def fX9_reads (this : Nat) (a1 : Int) (h : tm_H) : Option (Int × tm_H) :=
  tm_th h 9 this (
    (fX9_readsBy this a1 ((-1)) 0 h).bind fun q1 =>
    some (q1.1, q1.2))
noncomputable def fX9_readings_S0 (this : Nat) (a1 : Int) (st : (Int × Int × tm_H) ⊕ (Int × Int × Int × Int × tm_H) ⊕ (Int × Int × Int × Int × tm_H) ⊕ (Int × Int × Int × Int × tm_H) ⊕ (Int × Int × Int × Int × Int × tm_H) ⊕ (Int × Int × tm_H)) : Option (((Int × Int × tm_H) ⊕ (Int × Int × Int × Int × tm_H) ⊕ (Int × Int × Int × Int × tm_H) ⊕ (Int × Int × Int × Int × tm_H) ⊕ (Int × Int × Int × Int × Int × tm_H) ⊕ (Int × Int × tm_H)) ⊕ (Int × tm_H)) := match st with
  | .inl ((x2, x3, h)) =>
    if x3 < 6 then
    ((fX9_reads this x3 h).bind fun q1 =>
    some (.inl (.inr (.inl ((x2, x3, q1.1, 0, q1.2))))))
    else
    (some (.inr (x2, h)))
  | .inr (.inl ((x2, x3, x4, x5, h))) =>
    if x5 < 40 then
    (if x4 < 0 then
    (some (.inl (.inr (.inr (.inr (.inr (.inr ((x2, x3, h)))))))))
    else
    ((tm_gR h 9 9 this).bind fun r2 =>
    (tm_lI h 0 r2 x5).bind fun v3 =>
    if v3 = 0 then
    (if a1 = ((-99)) then
    (some (.inl (.inr (.inr (.inl ((x3, x4, x5, x2, h)))))))
    else
    ((tm_gR h 9 8 this).bind fun r4 =>
    (tm_lI h 0 r4 x5).bind fun v5 =>
    if v5 = a1 then
    (some (.inl (.inr (.inr (.inl ((x3, x4, x5, x2, h)))))))
    else
    (some (.inl (.inr (.inr (.inr (.inl ((x3, x4, x5, x2, h))))))))))
    else
    (some (.inl (.inr (.inr (.inr (.inl ((x3, x4, x5, x2, h))))))))))
    else
    (some (.inl (.inr (.inr (.inr (.inr (.inr ((x2, x3, h)))))))))
  | .inr (.inr (.inl ((x3, x4, x5, s0, h)))) =>
    some (.inl (.inr (.inr (.inr (.inr (.inl ((x3, x4, x5, s0, 1, h))))))))
  | .inr (.inr (.inr (.inl ((x3, x4, x5, s0, h))))) =>
    some (.inl (.inr (.inr (.inr (.inr (.inl ((x3, x4, x5, s0, 0, h))))))))
  | .inr (.inr (.inr (.inr (.inl ((x3, x4, x5, s0, s1, h)))))) =>
    some (.inl (.inr (.inl (((tm_wr (s0 + s1)), x3, x4, (tm_wr (x5 + 1)), h)))))
  | .inr (.inr (.inr (.inr (.inr ((x2, x3, h)))))) =>
    some (.inl (.inl ((x2, (tm_wr (x3 + 1)), h))))
noncomputable def fX9_readings_L4 (this : Nat) (a1 : Int) (x2 : Int) (x3 : Int) (h : tm_H) : Option (Int × tm_H) := tm_wl (fX9_readings_S0 this a1) (.inl ((x2, x3, h)))
noncomputable def fX9_readings_L20 (this : Nat) (a1 : Int) (x2 : Int) (x3 : Int) (x4 : Int) (x5 : Int) (h : tm_H) : Option (Int × tm_H) := tm_wl (fX9_readings_S0 this a1) (.inr (.inl ((x2, x3, x4, x5, h))))
noncomputable def fX9_readings_L60 (this : Nat) (a1 : Int) (x3 : Int) (x4 : Int) (x5 : Int) (s0 : Int) (h : tm_H) : Option (Int × tm_H) := tm_wl (fX9_readings_S0 this a1) (.inr (.inr (.inl ((x3, x4, x5, s0, h)))))
noncomputable def fX9_readings_L64 (this : Nat) (a1 : Int) (x3 : Int) (x4 : Int) (x5 : Int) (s0 : Int) (h : tm_H) : Option (Int × tm_H) := tm_wl (fX9_readings_S0 this a1) (.inr (.inr (.inr (.inl ((x3, x4, x5, s0, h))))))
noncomputable def fX9_readings_L65 (this : Nat) (a1 : Int) (x3 : Int) (x4 : Int) (x5 : Int) (s0 : Int) (s1 : Int) (h : tm_H) : Option (Int × tm_H) := tm_wl (fX9_readings_S0 this a1) (.inr (.inr (.inr (.inr (.inl ((x3, x4, x5, s0, s1, h)))))))
noncomputable def fX9_readings_L73 (this : Nat) (a1 : Int) (x2 : Int) (x3 : Int) (h : tm_H) : Option (Int × tm_H) := tm_wl (fX9_readings_S0 this a1) (.inr (.inr (.inr (.inr (.inr ((x2, x3, h)))))))
theorem fX9_readings_L4_eq (this : Nat) (a1 : Int) (x2 : Int) (x3 : Int) (h : tm_H) : fX9_readings_L4 this a1 x2 x3 h =
    if x3 < 6 then
    ((fX9_reads this x3 h).bind fun q6 =>
    fX9_readings_L20 this a1 x2 x3 q6.1 0 q6.2)
    else
    (some (x2, h)) := by
  unfold fX9_readings_L4
  rw [tm_wl_eq]
  simp only [fX9_readings_S0, tm_go_ite, tm_go_bind, tm_go_inl, tm_go_inr, tm_go_out, tm_go_th]
  try rfl
theorem fX9_readings_L20_eq (this : Nat) (a1 : Int) (x2 : Int) (x3 : Int) (x4 : Int) (x5 : Int) (h : tm_H) : fX9_readings_L20 this a1 x2 x3 x4 x5 h =
    if x5 < 40 then
    (if x4 < 0 then
    (fX9_readings_L73 this a1 x2 x3 h)
    else
    ((tm_gR h 9 9 this).bind fun r7 =>
    (tm_lI h 0 r7 x5).bind fun v8 =>
    if v8 = 0 then
    (if a1 = ((-99)) then
    (fX9_readings_L60 this a1 x3 x4 x5 x2 h)
    else
    ((tm_gR h 9 8 this).bind fun r9 =>
    (tm_lI h 0 r9 x5).bind fun v10 =>
    if v10 = a1 then
    (fX9_readings_L60 this a1 x3 x4 x5 x2 h)
    else
    (fX9_readings_L64 this a1 x3 x4 x5 x2 h)))
    else
    (fX9_readings_L64 this a1 x3 x4 x5 x2 h)))
    else
    (fX9_readings_L73 this a1 x2 x3 h) := by
  unfold fX9_readings_L20
  rw [tm_wl_eq]
  simp only [fX9_readings_S0, tm_go_ite, tm_go_bind, tm_go_inl, tm_go_inr, tm_go_out, tm_go_th]
  try rfl
theorem fX9_readings_L60_eq (this : Nat) (a1 : Int) (x3 : Int) (x4 : Int) (x5 : Int) (s0 : Int) (h : tm_H) : fX9_readings_L60 this a1 x3 x4 x5 s0 h =
    fX9_readings_L65 this a1 x3 x4 x5 s0 1 h := by
  unfold fX9_readings_L60
  rw [tm_wl_eq]
  simp only [fX9_readings_S0, tm_go_ite, tm_go_bind, tm_go_inl, tm_go_inr, tm_go_out, tm_go_th]
  try rfl
theorem fX9_readings_L64_eq (this : Nat) (a1 : Int) (x3 : Int) (x4 : Int) (x5 : Int) (s0 : Int) (h : tm_H) : fX9_readings_L64 this a1 x3 x4 x5 s0 h =
    fX9_readings_L65 this a1 x3 x4 x5 s0 0 h := by
  unfold fX9_readings_L64
  rw [tm_wl_eq]
  simp only [fX9_readings_S0, tm_go_ite, tm_go_bind, tm_go_inl, tm_go_inr, tm_go_out, tm_go_th]
  try rfl
theorem fX9_readings_L65_eq (this : Nat) (a1 : Int) (x3 : Int) (x4 : Int) (x5 : Int) (s0 : Int) (s1 : Int) (h : tm_H) : fX9_readings_L65 this a1 x3 x4 x5 s0 s1 h =
    fX9_readings_L20 this a1 (tm_wr (s0 + s1)) x3 x4 (tm_wr (x5 + 1)) h := by
  unfold fX9_readings_L65
  rw [tm_wl_eq]
  simp only [fX9_readings_S0, tm_go_ite, tm_go_bind, tm_go_inl, tm_go_inr, tm_go_out, tm_go_th]
  try rfl
theorem fX9_readings_L73_eq (this : Nat) (a1 : Int) (x2 : Int) (x3 : Int) (h : tm_H) : fX9_readings_L73 this a1 x2 x3 h =
    fX9_readings_L4 this a1 x2 (tm_wr (x3 + 1)) h := by
  unfold fX9_readings_L73
  rw [tm_wl_eq]
  simp only [fX9_readings_S0, tm_go_ite, tm_go_bind, tm_go_inl, tm_go_inr, tm_go_out, tm_go_th]
  try rfl
noncomputable def fX9_readings (this : Nat) (a1 : Int) (h : tm_H) : Option (Int × tm_H) :=
  tm_th h 9 this (
    fX9_readings_L4 this a1 0 0 h)
noncomputable def fX9_append (this : Nat) (a1 : Int) (h : tm_H) : Option (Int × tm_H) :=
  tm_th h 9 this (
    (fX9_in a1 1 255 h).bind fun v1 =>
    if v1 = 0 then
    (some ((-1), h))
    else
    ((tm_gI h 9 5 this).bind fun v2 =>
    if v2 = 140 then
    (some ((-3), h))
    else
    ((tm_gR h 9 4 this).bind fun r3 =>
    (tm_gI h 9 5 this).bind fun v4 =>
    (tm_wI h 0 r3 v4 a1).bind fun h5 =>
    (tm_gI h5 9 5 this).bind fun v6 =>
    (tm_sF h5 9 5 this (.inl (tm_wr (v6 + 1)))).bind fun h7 =>
    (tm_gI h7 9 5 this).bind fun v8 =>
    some (v8, h7))))
noncomputable def fX9_clearText (this : Nat) (h : tm_H) : Option (Int × tm_H) :=
  tm_th h 9 this (
    (tm_gI h 9 5 this).bind fun v1 =>
    (tm_sF h 9 5 this (.inl 0)).bind fun h2 =>
    some (v1, h2))
noncomputable def fX9_isLetter (this : Nat) (a1 : Int) (h : tm_H) : Option (Int) :=
  tm_th h 9 this (
    (tm_gI h 9 5 this).bind fun v1 =>
    if a1 < v1 then
    ((tm_gR h 9 4 this).bind fun r2 =>
    (tm_lI h 0 r2 a1).bind fun v3 =>
    (fX9_in v3 97 122 h).bind fun v4 =>
    if v4 = 0 then
    (some 0)
    else
    (some 1))
    else
    (some 0))
noncomputable def fX9_token_L114 (this : Nat) (s0 : Nat) (s1 : Int) (h : tm_H) : Option (tm_H) :=
  (tm_sF h 9 12 s0 (.inl s1)).bind fun h22 =>
  some h22
noncomputable def fX9_token_L110 (this : Nat) (s0 : Nat) (h : tm_H) : Option (tm_H) :=
  (tm_gI h 9 12 this).bind fun v21 =>
  fX9_token_L114 this s0 v21 h
noncomputable def fX9_token_S2 (this : Nat) (st : (tm_H)) : Option (((tm_H)) ⊕ (tm_H)) := match st with
  | (h) =>
    (tm_gI h 9 12 this).bind fun v12 =>
    (fX9_isLetter this v12 h).bind fun v13 =>
    if v13 = 0 then
    ((tm_gI h 9 12 this).bind fun v14 =>
    (tm_gI h 9 11 this).bind fun v15 =>
    if v14 = v15 then
    ((tm_gI h 9 11 this).bind fun v16 =>
    (tm_gI h 9 5 this).bind fun v17 =>
    if v16 < v17 then
    ((tm_gI h 9 11 this).bind fun v18 =>
    tm_out (fX9_token_L114 this this (tm_wr (v18 + 1)) h))
    else
    (tm_out (fX9_token_L110 this this h)))
    else
    (tm_out (fX9_token_L110 this this h)))
    else
    ((tm_gI h 9 12 this).bind fun v19 =>
    (tm_sF h 9 12 this (.inl (tm_wr (v19 + 1)))).bind fun h20 =>
    some (.inl ((h20))))
noncomputable def fX9_token_L54 (this : Nat)  (h : tm_H) : Option (tm_H) := tm_wl (fX9_token_S2 this) ((h))
theorem fX9_token_L54_eq (this : Nat)  (h : tm_H) : fX9_token_L54 this h =
    (tm_gI h 9 12 this).bind fun v23 =>
    (fX9_isLetter this v23 h).bind fun v24 =>
    if v24 = 0 then
    ((tm_gI h 9 12 this).bind fun v25 =>
    (tm_gI h 9 11 this).bind fun v26 =>
    if v25 = v26 then
    ((tm_gI h 9 11 this).bind fun v27 =>
    (tm_gI h 9 5 this).bind fun v28 =>
    if v27 < v28 then
    ((tm_gI h 9 11 this).bind fun v29 =>
    fX9_token_L114 this this (tm_wr (v29 + 1)) h)
    else
    (fX9_token_L110 this this h))
    else
    (fX9_token_L110 this this h))
    else
    ((tm_gI h 9 12 this).bind fun v30 =>
    (tm_sF h 9 12 this (.inl (tm_wr (v30 + 1)))).bind fun h31 =>
    fX9_token_L54 this h31) := by
  unfold fX9_token_L54
  rw [tm_wl_eq]
  simp only [fX9_token_S2, tm_go_ite, tm_go_bind, tm_go_inl, tm_go_inr, tm_go_out, tm_go_th]
  try rfl
noncomputable def fX9_token_L46 (this : Nat)  (h : tm_H) : Option (tm_H) :=
  (tm_gI h 9 11 this).bind fun v10 =>
  (tm_sF h 9 12 this (.inl v10)).bind fun h11 =>
  fX9_token_L54 this h11
noncomputable def fX9_token_S4 (this : Nat) (st : (tm_H)) : Option (((tm_H)) ⊕ (tm_H)) := match st with
  | (h) =>
    (tm_gI h 9 11 this).bind fun v3 =>
    (tm_gI h 9 5 this).bind fun v4 =>
    if v3 < v4 then
    ((tm_gR h 9 4 this).bind fun r5 =>
    (tm_gI h 9 11 this).bind fun v6 =>
    (tm_lI h 0 r5 v6).bind fun v7 =>
    if v7 = 32 then
    ((tm_gI h 9 11 this).bind fun v8 =>
    (tm_sF h 9 11 this (.inl (tm_wr (v8 + 1)))).bind fun h9 =>
    some (.inl ((h9))))
    else
    (tm_out (fX9_token_L46 this h)))
    else
    (tm_out (fX9_token_L46 this h))
noncomputable def fX9_token_L8 (this : Nat)  (h : tm_H) : Option (tm_H) := tm_wl (fX9_token_S4 this) ((h))
theorem fX9_token_L8_eq (this : Nat)  (h : tm_H) : fX9_token_L8 this h =
    (tm_gI h 9 11 this).bind fun v32 =>
    (tm_gI h 9 5 this).bind fun v33 =>
    if v32 < v33 then
    ((tm_gR h 9 4 this).bind fun r34 =>
    (tm_gI h 9 11 this).bind fun v35 =>
    (tm_lI h 0 r34 v35).bind fun v36 =>
    if v36 = 32 then
    ((tm_gI h 9 11 this).bind fun v37 =>
    (tm_sF h 9 11 this (.inl (tm_wr (v37 + 1)))).bind fun h38 =>
    fX9_token_L8 this h38)
    else
    (fX9_token_L46 this h))
    else
    (fX9_token_L46 this h) := by
  unfold fX9_token_L8
  rw [tm_wl_eq]
  simp only [fX9_token_S4, tm_go_ite, tm_go_bind, tm_go_inl, tm_go_inr, tm_go_out, tm_go_th]
  try rfl
noncomputable def fX9_token (this : Nat) (h : tm_H) : Option (tm_H) :=
  tm_th h 9 this (
    (tm_gI h 9 12 this).bind fun v1 =>
    (tm_sF h 9 11 this (.inl v1)).bind fun h2 =>
    fX9_token_L8 this h2)
noncomputable def fX9_isRun (this : Nat) (h : tm_H) : Option (Int) :=
  tm_th h 9 this (
    (tm_gI h 9 11 this).bind fun v1 =>
    (tm_gI h 9 12 this).bind fun v2 =>
    if v1 < v2 then
    ((tm_gI h 9 11 this).bind fun v3 =>
    (fX9_isLetter this v3 h).bind fun v4 =>
    if v4 = 0 then
    (some 0)
    else
    (some 1))
    else
    (some 0))
noncomputable def fX9_isSign (this : Nat) (a1 : Int) (h : tm_H) : Option (Int) :=
  tm_th h 9 this (
    (tm_gI h 9 12 this).bind fun v1 =>
    (tm_gI h 9 11 this).bind fun v2 =>
    if v1 = (tm_wr (v2 + 1)) then
    ((tm_gR h 9 4 this).bind fun r3 =>
    (tm_gI h 9 11 this).bind fun v4 =>
    (tm_lI h 0 r3 v4).bind fun v5 =>
    if v5 = a1 then
    (some 1)
    else
    (some 0))
    else
    (some 0))
noncomputable def fX9_isName_L9 (this : Nat) (a1 : Int) (a2 : Int) (a3 : Int) (a4 : Int) (h : tm_H) (s0 : Int) : Option (Int) :=
  (fX9_isRun this h).bind fun v1 =>
  if v1 = 0 then
  (some 0)
  else
  ((tm_gI h 9 12 this).bind fun v2 =>
  (tm_gI h 9 11 this).bind fun v3 =>
  if (tm_wr (v2 - v3)) = s0 then
  ((tm_gR h 9 4 this).bind fun r4 =>
  (tm_gI h 9 11 this).bind fun v5 =>
  (tm_lI h 0 r4 v5).bind fun v6 =>
  if v6 = a1 then
  ((tm_gR h 9 4 this).bind fun r7 =>
  (tm_gI h 9 11 this).bind fun v8 =>
  (tm_lI h 0 r7 (tm_wr (v8 + 1))).bind fun v9 =>
  if v9 = a2 then
  (if s0 = 2 then
  (some 1)
  else
  ((tm_gR h 9 4 this).bind fun r10 =>
  (tm_gI h 9 11 this).bind fun v11 =>
  (tm_lI h 0 r10 (tm_wr (v11 + 2))).bind fun v12 =>
  if v12 = a3 then
  ((tm_gR h 9 4 this).bind fun r13 =>
  (tm_gI h 9 11 this).bind fun v14 =>
  (tm_lI h 0 r13 (tm_wr (v14 + 3))).bind fun v15 =>
  if v15 = a4 then
  (some 1)
  else
  (some 0))
  else
  (some 0)))
  else
  (some 0))
  else
  (some 0))
  else
  (some 0))
noncomputable def fX9_isName (this : Nat) (a1 : Int) (a2 : Int) (a3 : Int) (a4 : Int) (h : tm_H) : Option (Int) :=
  tm_th h 9 this (
    if a3 = 0 then
    (fX9_isName_L9 this a1 a2 a3 a4 h 2)
    else
    (fX9_isName_L9 this a1 a2 a3 a4 h 4))
noncomputable def fX9_isLike_S0 (this : Nat) (a1 : Int) (h : tm_H) (st : (Int × Int) ⊕ (Int × Int × Int) ⊕ (Int × Int)) : Option (((Int × Int) ⊕ (Int × Int × Int) ⊕ (Int × Int)) ⊕ (Int)) := match st with
  | .inl ((x2, x3)) =>
    if x3 < 8 then
    (if x2 = 0 then
    ((tm_zr x2).bind fun z => some (.inr z))
    else
    ((tm_gR h 9 6 this).bind fun r1 =>
    (tm_lI h 0 r1 (tm_wr ((tm_wr (8 * a1)) + x3))).bind fun v2 =>
    (tm_gI h 9 11 this).bind fun v3 =>
    (tm_gI h 9 12 this).bind fun v4 =>
    if (tm_wr (v3 + x3)) < v4 then
    ((tm_gR h 9 4 this).bind fun r5 =>
    (tm_gI h 9 11 this).bind fun v6 =>
    (tm_lI h 0 r5 (tm_wr (v6 + x3))).bind fun v7 =>
    some (.inl (.inr (.inl ((x3, v2, v7))))))
    else
    (some (.inl (.inr (.inl ((x3, v2, 0))))))))
    else
    ((tm_zr x2).bind fun z => some (.inr z))
  | .inr (.inl ((x3, s0, s1))) =>
    if s0 = s1 then
    (some (.inl (.inr (.inr ((x3, 1))))))
    else
    (some (.inl (.inr (.inr ((x3, 0))))))
  | .inr (.inr ((x3, s0))) =>
    some (.inl (.inl ((s0, (tm_wr (x3 + 1))))))
noncomputable def fX9_isLike_L4 (this : Nat) (a1 : Int) (h : tm_H) (x2 : Int) (x3 : Int) : Option (Int) := tm_wl (fX9_isLike_S0 this a1 h) (.inl ((x2, x3)))
noncomputable def fX9_isLike_L53 (this : Nat) (a1 : Int) (h : tm_H) (x3 : Int) (s0 : Int) (s1 : Int) : Option (Int) := tm_wl (fX9_isLike_S0 this a1 h) (.inr (.inl ((x3, s0, s1))))
noncomputable def fX9_isLike_L61 (this : Nat) (a1 : Int) (h : tm_H) (x3 : Int) (s0 : Int) : Option (Int) := tm_wl (fX9_isLike_S0 this a1 h) (.inr (.inr ((x3, s0))))
theorem fX9_isLike_L4_eq (this : Nat) (a1 : Int) (h : tm_H) (x2 : Int) (x3 : Int) : fX9_isLike_L4 this a1 h x2 x3 =
    if x3 < 8 then
    (if x2 = 0 then
    ((tm_zr x2).bind fun z => some z)
    else
    ((tm_gR h 9 6 this).bind fun r8 =>
    (tm_lI h 0 r8 (tm_wr ((tm_wr (8 * a1)) + x3))).bind fun v9 =>
    (tm_gI h 9 11 this).bind fun v10 =>
    (tm_gI h 9 12 this).bind fun v11 =>
    if (tm_wr (v10 + x3)) < v11 then
    ((tm_gR h 9 4 this).bind fun r12 =>
    (tm_gI h 9 11 this).bind fun v13 =>
    (tm_lI h 0 r12 (tm_wr (v13 + x3))).bind fun v14 =>
    fX9_isLike_L53 this a1 h x3 v9 v14)
    else
    (fX9_isLike_L53 this a1 h x3 v9 0)))
    else
    ((tm_zr x2).bind fun z => some z) := by
  unfold fX9_isLike_L4
  rw [tm_wl_eq]
  simp only [fX9_isLike_S0, tm_go_ite, tm_go_bind, tm_go_inl, tm_go_inr, tm_go_out, tm_go_th]
  try rfl
theorem fX9_isLike_L53_eq (this : Nat) (a1 : Int) (h : tm_H) (x3 : Int) (s0 : Int) (s1 : Int) : fX9_isLike_L53 this a1 h x3 s0 s1 =
    if s0 = s1 then
    (fX9_isLike_L61 this a1 h x3 1)
    else
    (fX9_isLike_L61 this a1 h x3 0) := by
  unfold fX9_isLike_L53
  rw [tm_wl_eq]
  simp only [fX9_isLike_S0, tm_go_ite, tm_go_bind, tm_go_inl, tm_go_inr, tm_go_out, tm_go_th]
  try rfl
theorem fX9_isLike_L61_eq (this : Nat) (a1 : Int) (h : tm_H) (x3 : Int) (s0 : Int) : fX9_isLike_L61 this a1 h x3 s0 =
    fX9_isLike_L4 this a1 h s0 (tm_wr (x3 + 1)) := by
  unfold fX9_isLike_L61
  rw [tm_wl_eq]
  simp only [fX9_isLike_S0, tm_go_ite, tm_go_bind, tm_go_inl, tm_go_inr, tm_go_out, tm_go_th]
  try rfl
noncomputable def fX9_isLike (this : Nat) (a1 : Int) (h : tm_H) : Option (Int) :=
  tm_th h 9 this (
    fX9_isLike_L4 this a1 h 1 0)
noncomputable def fX9_wordHere_S0 (this : Nat) (st : (Int × Int × tm_H) ⊕ (Int × Int × Nat × Int × Int × tm_H)) : Option (((Int × Int × tm_H) ⊕ (Int × Int × Nat × Int × Int × tm_H)) ⊕ (Int × tm_H)) := match st with
  | .inl ((x1, x2, h)) =>
    if x2 < 8 then
    ((tm_gR h 9 6 this).bind fun r11 =>
    (tm_gI h 9 11 this).bind fun v12 =>
    (tm_gI h 9 12 this).bind fun v13 =>
    if (tm_wr (v12 + x2)) < v13 then
    ((tm_gR h 9 4 this).bind fun r14 =>
    (tm_gI h 9 11 this).bind fun v15 =>
    (tm_lI h 0 r14 (tm_wr (v15 + x2))).bind fun v16 =>
    some (.inl (.inr ((x1, x2, r11, (tm_wr ((tm_wr (8 * x1)) + x2)), v16, h)))))
    else
    (some (.inl (.inr ((x1, x2, r11, (tm_wr ((tm_wr (8 * x1)) + x2)), 0, h))))))
    else
    ((tm_gR h 9 0 this).bind fun r17 =>
    (tm_wI h 0 r17 (tm_wr (1 + x1)) x1).bind fun h18 =>
    (tm_gR h18 9 0 this).bind fun r19 =>
    (tm_lI h18 0 r19 0).bind fun v20 =>
    (tm_wI h18 0 r19 0 (tm_wr (v20 + 1))).bind fun h21 =>
    some (.inr (x1, h21)))
  | .inr ((x1, x2, s0, s1, s2, h)) =>
    (tm_wI h 0 s0 s1 s2).bind fun h22 =>
    some (.inl (.inl ((x1, (tm_wr (x2 + 1)), h22))))
noncomputable def fX9_wordHere_L75 (this : Nat) (x1 : Int) (x2 : Int) (h : tm_H) : Option (Int × tm_H) := tm_wl (fX9_wordHere_S0 this) (.inl ((x1, x2, h)))
noncomputable def fX9_wordHere_L119 (this : Nat) (x1 : Int) (x2 : Int) (s0 : Nat) (s1 : Int) (s2 : Int) (h : tm_H) : Option (Int × tm_H) := tm_wl (fX9_wordHere_S0 this) (.inr ((x1, x2, s0, s1, s2, h)))
theorem fX9_wordHere_L75_eq (this : Nat) (x1 : Int) (x2 : Int) (h : tm_H) : fX9_wordHere_L75 this x1 x2 h =
    if x2 < 8 then
    ((tm_gR h 9 6 this).bind fun r23 =>
    (tm_gI h 9 11 this).bind fun v24 =>
    (tm_gI h 9 12 this).bind fun v25 =>
    if (tm_wr (v24 + x2)) < v25 then
    ((tm_gR h 9 4 this).bind fun r26 =>
    (tm_gI h 9 11 this).bind fun v27 =>
    (tm_lI h 0 r26 (tm_wr (v27 + x2))).bind fun v28 =>
    fX9_wordHere_L119 this x1 x2 r23 (tm_wr ((tm_wr (8 * x1)) + x2)) v28 h)
    else
    (fX9_wordHere_L119 this x1 x2 r23 (tm_wr ((tm_wr (8 * x1)) + x2)) 0 h))
    else
    ((tm_gR h 9 0 this).bind fun r29 =>
    (tm_wI h 0 r29 (tm_wr (1 + x1)) x1).bind fun h30 =>
    (tm_gR h30 9 0 this).bind fun r31 =>
    (tm_lI h30 0 r31 0).bind fun v32 =>
    (tm_wI h30 0 r31 0 (tm_wr (v32 + 1))).bind fun h33 =>
    some (x1, h33)) := by
  unfold fX9_wordHere_L75
  rw [tm_wl_eq]
  simp only [fX9_wordHere_S0, tm_go_ite, tm_go_bind, tm_go_inl, tm_go_inr, tm_go_out, tm_go_th]
  try rfl
theorem fX9_wordHere_L119_eq (this : Nat) (x1 : Int) (x2 : Int) (s0 : Nat) (s1 : Int) (s2 : Int) (h : tm_H) : fX9_wordHere_L119 this x1 x2 s0 s1 s2 h =
    (tm_wI h 0 s0 s1 s2).bind fun h34 =>
    fX9_wordHere_L75 this x1 (tm_wr (x2 + 1)) h34 := by
  unfold fX9_wordHere_L119
  rw [tm_wl_eq]
  simp only [fX9_wordHere_S0, tm_go_ite, tm_go_bind, tm_go_inl, tm_go_inr, tm_go_out, tm_go_th]
  try rfl
noncomputable def fX9_wordHere_S1 (this : Nat) (st : (Int × tm_H)) : Option (((Int × tm_H)) ⊕ (Int × tm_H)) := match st with
  | (x1, h) =>
    (tm_gR h 9 0 this).bind fun r4 =>
    (tm_lI h 0 r4 0).bind fun v5 =>
    if x1 < v5 then
    ((fX9_isLike this x1 h).bind fun v6 =>
    if v6 = 0 then
    (some (.inl (((tm_wr (x1 + 1)), h))))
    else
    (some (.inr (x1, h))))
    else
    ((tm_gR h 9 0 this).bind fun r7 =>
    (tm_lI h 0 r7 0).bind fun v8 =>
    if v8 = 60 then
    (some (.inr ((-99), h)))
    else
    ((tm_gR h 9 0 this).bind fun r9 =>
    (tm_lI h 0 r9 0).bind fun v10 =>
    tm_out (fX9_wordHere_L75 this v10 0 h)))
noncomputable def fX9_wordHere_L26 (this : Nat) (x1 : Int) (h : tm_H) : Option (Int × tm_H) := tm_wl (fX9_wordHere_S1 this) ((x1, h))
theorem fX9_wordHere_L26_eq (this : Nat) (x1 : Int) (h : tm_H) : fX9_wordHere_L26 this x1 h =
    (tm_gR h 9 0 this).bind fun r35 =>
    (tm_lI h 0 r35 0).bind fun v36 =>
    if x1 < v36 then
    ((fX9_isLike this x1 h).bind fun v37 =>
    if v37 = 0 then
    (fX9_wordHere_L26 this (tm_wr (x1 + 1)) h)
    else
    (some (x1, h)))
    else
    ((tm_gR h 9 0 this).bind fun r38 =>
    (tm_lI h 0 r38 0).bind fun v39 =>
    if v39 = 60 then
    (some ((-99), h))
    else
    ((tm_gR h 9 0 this).bind fun r40 =>
    (tm_lI h 0 r40 0).bind fun v41 =>
    fX9_wordHere_L75 this v41 0 h)) := by
  unfold fX9_wordHere_L26
  rw [tm_wl_eq]
  simp only [fX9_wordHere_S1, tm_go_ite, tm_go_bind, tm_go_inl, tm_go_inr, tm_go_out, tm_go_th]
  try rfl
noncomputable def fX9_wordHere (this : Nat) (h : tm_H) : Option (Int × tm_H) :=
  tm_th h 9 this (
    (fX9_isRun this h).bind fun v1 =>
    if v1 = 0 then
    (some ((-99), h))
    else
    ((tm_gI h 9 12 this).bind fun v2 =>
    (tm_gI h 9 11 this).bind fun v3 =>
    if 8 < (tm_wr (v2 - v3)) then
    (some ((-99), h))
    else
    (fX9_wordHere_L26 this 0 h)))
noncomputable def fX9_takesWords_S0 (this : Nat) (a1 : Int) (st : (tm_H) ⊕ (Int × tm_H)) : Option (((tm_H) ⊕ (Int × tm_H)) ⊕ (Int × tm_H)) := match st with
  | .inl ((h)) =>
    (fX9_isRun this h).bind fun v3 =>
    if v3 = 0 then
    (some (.inr (1, h)))
    else
    ((tm_gI h 9 14 this).bind fun v4 =>
    if v4 = a1 then
    (some (.inl (.inr ((((-99)), h)))))
    else
    ((fX9_wordHere this h).bind fun q5 =>
    some (.inl (.inr ((q5.1, q5.2))))))
  | .inr ((s0, h)) =>
    if s0 = ((-99)) then
    (some (.inr (0, h)))
    else
    ((tm_gR h 9 13 this).bind fun r6 =>
    (tm_gI h 9 14 this).bind fun v7 =>
    (tm_wI h 0 r6 v7 s0).bind fun h8 =>
    (tm_gI h8 9 14 this).bind fun v9 =>
    (tm_sF h8 9 14 this (.inl (tm_wr (v9 + 1)))).bind fun h10 =>
    (fX9_token this h10).bind fun h11 =>
    some (.inl (.inl ((h11)))))
noncomputable def fX9_takesWords_L9 (this : Nat) (a1 : Int)  (h : tm_H) : Option (Int × tm_H) := tm_wl (fX9_takesWords_S0 this a1) (.inl ((h)))
noncomputable def fX9_takesWords_L33 (this : Nat) (a1 : Int) (s0 : Int) (h : tm_H) : Option (Int × tm_H) := tm_wl (fX9_takesWords_S0 this a1) (.inr ((s0, h)))
theorem fX9_takesWords_L9_eq (this : Nat) (a1 : Int)  (h : tm_H) : fX9_takesWords_L9 this a1 h =
    (fX9_isRun this h).bind fun v12 =>
    if v12 = 0 then
    (some (1, h))
    else
    ((tm_gI h 9 14 this).bind fun v13 =>
    if v13 = a1 then
    (fX9_takesWords_L33 this a1 ((-99)) h)
    else
    ((fX9_wordHere this h).bind fun q14 =>
    fX9_takesWords_L33 this a1 q14.1 q14.2)) := by
  unfold fX9_takesWords_L9
  rw [tm_wl_eq]
  simp only [fX9_takesWords_S0, tm_go_ite, tm_go_bind, tm_go_inl, tm_go_inr, tm_go_out, tm_go_th]
  try rfl
theorem fX9_takesWords_L33_eq (this : Nat) (a1 : Int) (s0 : Int) (h : tm_H) : fX9_takesWords_L33 this a1 s0 h =
    if s0 = ((-99)) then
    (some (0, h))
    else
    ((tm_gR h 9 13 this).bind fun r15 =>
    (tm_gI h 9 14 this).bind fun v16 =>
    (tm_wI h 0 r15 v16 s0).bind fun h17 =>
    (tm_gI h17 9 14 this).bind fun v18 =>
    (tm_sF h17 9 14 this (.inl (tm_wr (v18 + 1)))).bind fun h19 =>
    (fX9_token this h19).bind fun h20 =>
    fX9_takesWords_L9 this a1 h20) := by
  unfold fX9_takesWords_L33
  rw [tm_wl_eq]
  simp only [fX9_takesWords_S0, tm_go_ite, tm_go_bind, tm_go_inl, tm_go_inr, tm_go_out, tm_go_th]
  try rfl
noncomputable def fX9_takesWords (this : Nat) (a1 : Int) (h : tm_H) : Option (Int × tm_H) :=
  tm_th h 9 this (
    (tm_sF h 9 14 this (.inl 0)).bind fun h1 =>
    (fX9_token this h1).bind fun h2 =>
    fX9_takesWords_L9 this a1 h2)
noncomputable def fX9_takesChapter_S0 (this : Nat) (st : (Int × Int × tm_H)) : Option (((Int × Int × tm_H)) ⊕ (Int × tm_H)) := match st with
  | (x1, x2, h) =>
    (tm_gI h 9 14 this).bind fun v18 =>
    if x2 < v18 then
    ((tm_gR h 9 0 this).bind fun r19 =>
    (fX9_at x1 x2 h).bind fun v20 =>
    (tm_gR h 9 13 this).bind fun r21 =>
    (tm_lI h 0 r21 x2).bind fun v22 =>
    (tm_wI h 0 r19 v20 v22).bind fun h23 =>
    some (.inl ((x1, (tm_wr (x2 + 1)), h23))))
    else
    (some (.inr (1, h)))
noncomputable def fX9_takesChapter_L102 (this : Nat) (x1 : Int) (x2 : Int) (h : tm_H) : Option (Int × tm_H) := tm_wl (fX9_takesChapter_S0 this) ((x1, x2, h))
theorem fX9_takesChapter_L102_eq (this : Nat) (x1 : Int) (x2 : Int) (h : tm_H) : fX9_takesChapter_L102 this x1 x2 h =
    (tm_gI h 9 14 this).bind fun v24 =>
    if x2 < v24 then
    ((tm_gR h 9 0 this).bind fun r25 =>
    (fX9_at x1 x2 h).bind fun v26 =>
    (tm_gR h 9 13 this).bind fun r27 =>
    (tm_lI h 0 r27 x2).bind fun v28 =>
    (tm_wI h 0 r25 v26 v28).bind fun h29 =>
    fX9_takesChapter_L102 this x1 (tm_wr (x2 + 1)) h29)
    else
    (some (1, h)) := by
  unfold fX9_takesChapter_L102
  rw [tm_wl_eq]
  simp only [fX9_takesChapter_S0, tm_go_ite, tm_go_bind, tm_go_inl, tm_go_inr, tm_go_out, tm_go_th]
  try rfl
noncomputable def fX9_takesChapter (this : Nat) (h : tm_H) : Option (Int × tm_H) :=
  tm_th h 9 this (
    (fX9_token this h).bind fun h1 =>
    (tm_gI h1 9 12 this).bind fun v2 =>
    (tm_gI h1 9 11 this).bind fun v3 =>
    if v2 = (tm_wr (v3 + 1)) then
    ((tm_gR h1 9 4 this).bind fun r4 =>
    (tm_gI h1 9 11 this).bind fun v5 =>
    (tm_lI h1 0 r4 v5).bind fun v6 =>
    (fX9_in v6 48 53 h1).bind fun v7 =>
    if v7 = 0 then
    (some (0, h1))
    else
    ((tm_gR h1 9 4 this).bind fun r8 =>
    (tm_gI h1 9 11 this).bind fun v9 =>
    (tm_lI h1 0 r8 v9).bind fun v10 =>
    (fX9_token this h1).bind fun h11 =>
    (fX9_isSign this 58 h11).bind fun v12 =>
    if v12 = 0 then
    (some (0, h11))
    else
    ((fX9_takesWords this 40 h11).bind fun q13 =>
    if q13.1 = 0 then
    (some (0, q13.2))
    else
    ((fX9_isSign this 59 q13.2).bind fun v14 =>
    if v14 = 0 then
    (some (0, q13.2))
    else
    ((tm_gR q13.2 9 0 this).bind fun r15 =>
    (tm_gI q13.2 9 14 this).bind fun v16 =>
    (tm_wI q13.2 0 r15 (tm_wr (61 + (tm_wr (41 * (tm_wr (v10 - 48)))))) v16).bind fun h17 =>
    fX9_takesChapter_L102 this (tm_wr (v10 - 48)) 0 h17)))))
    else
    (some (0, h1)))
noncomputable def fX9_takesTerm_S0 (this : Nat) (st : (Int × tm_H) ⊕ (Int × Nat × Int × Int × tm_H)) : Option (((Int × tm_H) ⊕ (Int × Nat × Int × Int × tm_H)) ⊕ (Int × tm_H)) := match st with
  | .inl ((x1, h)) =>
    if x1 < 4 then
    ((tm_gR h 9 7 this).bind fun r7 =>
    (tm_gI h 9 14 this).bind fun v8 =>
    if x1 < v8 then
    ((tm_gR h 9 13 this).bind fun r9 =>
    (tm_lI h 0 r9 x1).bind fun v10 =>
    some (.inl (.inr ((x1, r7, (tm_wr (x1 + 1)), v10, h)))))
    else
    (some (.inl (.inr ((x1, r7, (tm_wr (x1 + 1)), ((-1)), h))))))
    else
    ((fX9_isThere this h).bind fun v11 =>
    if v11 = 0 then
    ((tm_gR h 9 0 this).bind fun r12 =>
    (tm_lI h 0 r12 307).bind fun v13 =>
    if v13 = 12 then
    (some (.inr (0, h)))
    else
    ((fX9_comes this h).bind fun q14 =>
    if q14.1 < 0 then
    (some (.inr (0, q14.2)))
    else
    (some (.inr (1, q14.2)))))
    else
    (some (.inr (0, h))))
  | .inr ((x1, s0, s1, s2, h)) =>
    (tm_wI h 0 s0 s1 s2).bind fun h15 =>
    some (.inl (.inl (((tm_wr (x1 + 1)), h15))))
noncomputable def fX9_takesTerm_L38 (this : Nat) (x1 : Int) (h : tm_H) : Option (Int × tm_H) := tm_wl (fX9_takesTerm_S0 this) (.inl ((x1, h)))
noncomputable def fX9_takesTerm_L68 (this : Nat) (x1 : Int) (s0 : Nat) (s1 : Int) (s2 : Int) (h : tm_H) : Option (Int × tm_H) := tm_wl (fX9_takesTerm_S0 this) (.inr ((x1, s0, s1, s2, h)))
theorem fX9_takesTerm_L38_eq (this : Nat) (x1 : Int) (h : tm_H) : fX9_takesTerm_L38 this x1 h =
    if x1 < 4 then
    ((tm_gR h 9 7 this).bind fun r16 =>
    (tm_gI h 9 14 this).bind fun v17 =>
    if x1 < v17 then
    ((tm_gR h 9 13 this).bind fun r18 =>
    (tm_lI h 0 r18 x1).bind fun v19 =>
    fX9_takesTerm_L68 this x1 r16 (tm_wr (x1 + 1)) v19 h)
    else
    (fX9_takesTerm_L68 this x1 r16 (tm_wr (x1 + 1)) ((-1)) h))
    else
    ((fX9_isThere this h).bind fun v20 =>
    if v20 = 0 then
    ((tm_gR h 9 0 this).bind fun r21 =>
    (tm_lI h 0 r21 307).bind fun v22 =>
    if v22 = 12 then
    (some (0, h))
    else
    ((fX9_comes this h).bind fun q23 =>
    if q23.1 < 0 then
    (some (0, q23.2))
    else
    (some (1, q23.2))))
    else
    (some (0, h))) := by
  unfold fX9_takesTerm_L38
  rw [tm_wl_eq]
  simp only [fX9_takesTerm_S0, tm_go_ite, tm_go_bind, tm_go_inl, tm_go_inr, tm_go_out, tm_go_th]
  try rfl
theorem fX9_takesTerm_L68_eq (this : Nat) (x1 : Int) (s0 : Nat) (s1 : Int) (s2 : Int) (h : tm_H) : fX9_takesTerm_L68 this x1 s0 s1 s2 h =
    (tm_wI h 0 s0 s1 s2).bind fun h24 =>
    fX9_takesTerm_L38 this (tm_wr (x1 + 1)) h24 := by
  unfold fX9_takesTerm_L68
  rw [tm_wl_eq]
  simp only [fX9_takesTerm_S0, tm_go_ite, tm_go_bind, tm_go_inl, tm_go_inr, tm_go_out, tm_go_th]
  try rfl
noncomputable def fX9_takesTerm (this : Nat) (h : tm_H) : Option (Int × tm_H) :=
  tm_th h 9 this (
    (fX9_takesWords this 4 h).bind fun q1 =>
    if q1.1 = 0 then
    (some (0, q1.2))
    else
    ((tm_gI q1.2 9 14 this).bind fun v2 =>
    if v2 = 0 then
    (some (0, q1.2))
    else
    ((fX9_isSign this 59 q1.2).bind fun v3 =>
    if v3 = 0 then
    (some (0, q1.2))
    else
    ((tm_gR q1.2 9 7 this).bind fun r4 =>
    (tm_gI q1.2 9 14 this).bind fun v5 =>
    (tm_wI q1.2 0 r4 0 v5).bind fun h6 =>
    fX9_takesTerm_L38 this 0 h6))))
noncomputable def fX9_takesForm (this : Nat) (h : tm_H) : Option (Int × tm_H) :=
  tm_th h 9 this (
    (fX9_takesWords this 1 h).bind fun q1 =>
    if q1.1 = 0 then
    (some (0, q1.2))
    else
    ((tm_gI q1.2 9 14 this).bind fun v2 =>
    if v2 = 0 then
    (some (0, q1.2))
    else
    ((fX9_isSign this 61 q1.2).bind fun v3 =>
    if v3 = 0 then
    (some (0, q1.2))
    else
    ((tm_gR q1.2 9 13 this).bind fun r4 =>
    (tm_lI q1.2 0 r4 0).bind fun v5 =>
    (fX9_takesWords this 1 q1.2).bind fun q6 =>
    if q6.1 = 0 then
    (some (0, q6.2))
    else
    ((tm_gI q6.2 9 14 this).bind fun v7 =>
    if v7 = 0 then
    (some (0, q6.2))
    else
    ((fX9_isSign this 59 q6.2).bind fun v8 =>
    if v8 = 0 then
    (some (0, q6.2))
    else
    ((tm_gR q6.2 9 0 this).bind fun r9 =>
    (tm_gR q6.2 9 13 this).bind fun r10 =>
    (tm_lI q6.2 0 r10 0).bind fun v11 =>
    (tm_lI q6.2 0 r9 (tm_wr (1 + v11))).bind fun v12 =>
    (fX9_canBe this v5 v12 q6.2).bind fun q13 =>
    if q13.1 = 0 then
    (some (0, q13.2))
    else
    ((tm_gR q13.2 9 0 this).bind fun r14 =>
    (tm_wI q13.2 0 r14 (tm_wr (1 + v5)) v12).bind fun h15 =>
    some (1, h15)))))))))
noncomputable def fX9_load_S0 (this : Nat) (st : (Int × tm_H)) : Option (((Int × tm_H)) ⊕ (Int × tm_H)) := match st with
  | (x3, h) =>
    if x3 < 874 then
    ((tm_gR h 9 0 this).bind fun r19 =>
    (tm_gR h 9 2 this).bind fun r20 =>
    (tm_lI h 0 r20 x3).bind fun v21 =>
    (tm_wI h 0 r19 x3 v21).bind fun h22 =>
    some (.inl (((tm_wr (x3 + 1)), h22))))
    else
    ((tm_gI h 9 11 this).bind fun v23 =>
    some (.inr (tm_wr (((-1000)) - v23), h)))
noncomputable def fX9_load_L145 (this : Nat) (x3 : Int) (h : tm_H) : Option (Int × tm_H) := tm_wl (fX9_load_S0 this) ((x3, h))
theorem fX9_load_L145_eq (this : Nat) (x3 : Int) (h : tm_H) : fX9_load_L145 this x3 h =
    if x3 < 874 then
    ((tm_gR h 9 0 this).bind fun r24 =>
    (tm_gR h 9 2 this).bind fun r25 =>
    (tm_lI h 0 r25 x3).bind fun v26 =>
    (tm_wI h 0 r24 x3 v26).bind fun h27 =>
    fX9_load_L145 this (tm_wr (x3 + 1)) h27)
    else
    ((tm_gI h 9 11 this).bind fun v28 =>
    some (tm_wr (((-1000)) - v28), h)) := by
  unfold fX9_load_L145
  rw [tm_wl_eq]
  simp only [fX9_load_S0, tm_go_ite, tm_go_bind, tm_go_inl, tm_go_inr, tm_go_out, tm_go_th]
  try rfl
noncomputable def fX9_load_L139 (this : Nat) (x1 : Int) (x2 : Int) (h : tm_H) : Option (Int × tm_H) :=
  if x2 = 0 then
  (fX9_load_L145 this 0 h)
  else
  ((tm_gR h 9 2 this).bind fun r16 =>
  (fX9_saves this r16 h).bind fun h17 =>
  (tm_sF h17 9 5 this (.inl 0)).bind fun h18 =>
  some (x1, h18))
noncomputable def fX9_load_S2 (this : Nat) (st : (Int × Int × tm_H) ⊕ (Int × tm_H) ⊕ (Int × Int × tm_H)) : Option (((Int × Int × tm_H) ⊕ (Int × tm_H) ⊕ (Int × Int × tm_H)) ⊕ (Int × tm_H)) := match st with
  | .inl ((x1, x2, h)) =>
    if x2 = 0 then
    (tm_out (fX9_load_L139 this x1 x2 h))
    else
    ((tm_gI h 9 11 this).bind fun v7 =>
    (tm_gI h 9 5 this).bind fun v8 =>
    if v7 < v8 then
    ((fX9_isName this 99 104 0 0 h).bind fun v9 =>
    if v9 = 0 then
    ((fX9_isName this 116 101 114 109 h).bind fun v10 =>
    if v10 = 0 then
    ((fX9_isName this 102 111 114 109 h).bind fun v11 =>
    if v11 = 0 then
    (some (.inl (.inr (.inl ((x1, h))))))
    else
    ((fX9_takesForm this h).bind fun q12 =>
    if q12.1 = 0 then
    (some (.inl (.inr (.inl ((x1, q12.2))))))
    else
    (some (.inl (.inr (.inr ((x1, 1, q12.2))))))))
    else
    ((fX9_takesTerm this h).bind fun q13 =>
    some (.inl (.inr (.inr ((x1, q13.1, q13.2)))))))
    else
    ((fX9_takesChapter this h).bind fun q14 =>
    some (.inl (.inr (.inr ((x1, q14.1, q14.2)))))))
    else
    (tm_out (fX9_load_L139 this x1 x2 h)))
  | .inr (.inl ((x1, h))) =>
    some (.inl (.inr (.inr ((x1, 0, h)))))
  | .inr (.inr ((x1, s0, h))) =>
    if s0 = 0 then
    (some (.inl (.inl ((x1, s0, h)))))
    else
    ((fX9_token this h).bind fun h15 =>
    some (.inl (.inl (((tm_wr (x1 + 1)), s0, h15)))))
noncomputable def fX9_load_L40 (this : Nat) (x1 : Int) (x2 : Int) (h : tm_H) : Option (Int × tm_H) := tm_wl (fX9_load_S2 this) (.inl ((x1, x2, h)))
noncomputable def fX9_load_L123 (this : Nat) (x1 : Int) (h : tm_H) : Option (Int × tm_H) := tm_wl (fX9_load_S2 this) (.inr (.inl ((x1, h))))
noncomputable def fX9_load_L124 (this : Nat) (x1 : Int) (s0 : Int) (h : tm_H) : Option (Int × tm_H) := tm_wl (fX9_load_S2 this) (.inr (.inr ((x1, s0, h))))
theorem fX9_load_L40_eq (this : Nat) (x1 : Int) (x2 : Int) (h : tm_H) : fX9_load_L40 this x1 x2 h =
    if x2 = 0 then
    (fX9_load_L139 this x1 x2 h)
    else
    ((tm_gI h 9 11 this).bind fun v29 =>
    (tm_gI h 9 5 this).bind fun v30 =>
    if v29 < v30 then
    ((fX9_isName this 99 104 0 0 h).bind fun v31 =>
    if v31 = 0 then
    ((fX9_isName this 116 101 114 109 h).bind fun v32 =>
    if v32 = 0 then
    ((fX9_isName this 102 111 114 109 h).bind fun v33 =>
    if v33 = 0 then
    (fX9_load_L123 this x1 h)
    else
    ((fX9_takesForm this h).bind fun q34 =>
    if q34.1 = 0 then
    (fX9_load_L123 this x1 q34.2)
    else
    (fX9_load_L124 this x1 1 q34.2)))
    else
    ((fX9_takesTerm this h).bind fun q35 =>
    fX9_load_L124 this x1 q35.1 q35.2))
    else
    ((fX9_takesChapter this h).bind fun q36 =>
    fX9_load_L124 this x1 q36.1 q36.2))
    else
    (fX9_load_L139 this x1 x2 h)) := by
  unfold fX9_load_L40
  rw [tm_wl_eq]
  simp only [fX9_load_S2, tm_go_ite, tm_go_bind, tm_go_inl, tm_go_inr, tm_go_out, tm_go_th]
  try rfl
theorem fX9_load_L123_eq (this : Nat) (x1 : Int) (h : tm_H) : fX9_load_L123 this x1 h =
    fX9_load_L124 this x1 0 h := by
  unfold fX9_load_L123
  rw [tm_wl_eq]
  simp only [fX9_load_S2, tm_go_ite, tm_go_bind, tm_go_inl, tm_go_inr, tm_go_out, tm_go_th]
  try rfl
theorem fX9_load_L124_eq (this : Nat) (x1 : Int) (s0 : Int) (h : tm_H) : fX9_load_L124 this x1 s0 h =
    if s0 = 0 then
    (fX9_load_L40 this x1 s0 h)
    else
    ((fX9_token this h).bind fun h37 =>
    fX9_load_L40 this (tm_wr (x1 + 1)) s0 h37) := by
  unfold fX9_load_L124
  rw [tm_wl_eq]
  simp only [fX9_load_S2, tm_go_ite, tm_go_bind, tm_go_inl, tm_go_inr, tm_go_out, tm_go_th]
  try rfl
noncomputable def fX9_load_S3 (this : Nat) (st : (Int × tm_H)) : Option (((Int × tm_H)) ⊕ (Int × tm_H)) := match st with
  | (x1, h) =>
    if x1 < 874 then
    ((tm_gR h 9 2 this).bind fun r1 =>
    (tm_gR h 9 0 this).bind fun r2 =>
    (tm_lI h 0 r2 x1).bind fun v3 =>
    (tm_wI h 0 r1 x1 v3).bind fun h4 =>
    some (.inl (((tm_wr (x1 + 1)), h4))))
    else
    ((tm_sF h 9 12 this (.inl 0)).bind fun h5 =>
    (fX9_token this h5).bind fun h6 =>
    tm_out (fX9_load_L40 this 0 1 h6))
noncomputable def fX9_load_L2 (this : Nat) (x1 : Int) (h : tm_H) : Option (Int × tm_H) := tm_wl (fX9_load_S3 this) ((x1, h))
theorem fX9_load_L2_eq (this : Nat) (x1 : Int) (h : tm_H) : fX9_load_L2 this x1 h =
    if x1 < 874 then
    ((tm_gR h 9 2 this).bind fun r38 =>
    (tm_gR h 9 0 this).bind fun r39 =>
    (tm_lI h 0 r39 x1).bind fun v40 =>
    (tm_wI h 0 r38 x1 v40).bind fun h41 =>
    fX9_load_L2 this (tm_wr (x1 + 1)) h41)
    else
    ((tm_sF h 9 12 this (.inl 0)).bind fun h42 =>
    (fX9_token this h42).bind fun h43 =>
    fX9_load_L40 this 0 1 h43) := by
  unfold fX9_load_L2
  rw [tm_wl_eq]
  simp only [fX9_load_S3, tm_go_ite, tm_go_bind, tm_go_inl, tm_go_inr, tm_go_out, tm_go_th]
  try rfl
noncomputable def fX9_load (this : Nat) (h : tm_H) : Option (Int × tm_H) :=
  tm_th h 9 this (
    fX9_load_L2 this 0 h)
noncomputable def fX9_quietTerms_S0 (this : Nat) (h : tm_H) (st : (Int × Int) ⊕ (Int × Int × Int)) : Option (((Int × Int) ⊕ (Int × Int × Int)) ⊕ (Int)) := match st with
  | .inl ((x1, x2)) =>
    (tm_gR h 9 0 this).bind fun r1 =>
    (tm_lI h 0 r1 307).bind fun v2 =>
    if x2 < v2 then
    ((fX9_isQuiet this x2 h).bind fun v3 =>
    if v3 = 0 then
    (some (.inl (.inr ((x2, x1, 0)))))
    else
    (some (.inl (.inr ((x2, x1, 1))))))
    else
    (some (.inr x1))
  | .inr ((x2, s0, s1)) =>
    some (.inl (.inl (((tm_wr (s0 + s1)), (tm_wr (x2 + 1))))))
noncomputable def fX9_quietTerms_L4 (this : Nat) (h : tm_H) (x1 : Int) (x2 : Int) : Option (Int) := tm_wl (fX9_quietTerms_S0 this h) (.inl ((x1, x2)))
noncomputable def fX9_quietTerms_L30 (this : Nat) (h : tm_H) (x2 : Int) (s0 : Int) (s1 : Int) : Option (Int) := tm_wl (fX9_quietTerms_S0 this h) (.inr ((x2, s0, s1)))
theorem fX9_quietTerms_L4_eq (this : Nat) (h : tm_H) (x1 : Int) (x2 : Int) : fX9_quietTerms_L4 this h x1 x2 =
    (tm_gR h 9 0 this).bind fun r4 =>
    (tm_lI h 0 r4 307).bind fun v5 =>
    if x2 < v5 then
    ((fX9_isQuiet this x2 h).bind fun v6 =>
    if v6 = 0 then
    (fX9_quietTerms_L30 this h x2 x1 0)
    else
    (fX9_quietTerms_L30 this h x2 x1 1))
    else
    (some x1) := by
  unfold fX9_quietTerms_L4
  rw [tm_wl_eq]
  simp only [fX9_quietTerms_S0, tm_go_ite, tm_go_bind, tm_go_inl, tm_go_inr, tm_go_out, tm_go_th]
  try rfl
theorem fX9_quietTerms_L30_eq (this : Nat) (h : tm_H) (x2 : Int) (s0 : Int) (s1 : Int) : fX9_quietTerms_L30 this h x2 s0 s1 =
    fX9_quietTerms_L4 this h (tm_wr (s0 + s1)) (tm_wr (x2 + 1)) := by
  unfold fX9_quietTerms_L30
  rw [tm_wl_eq]
  simp only [fX9_quietTerms_S0, tm_go_ite, tm_go_bind, tm_go_inl, tm_go_inr, tm_go_out, tm_go_th]
  try rfl
noncomputable def fX9_quietTerms (this : Nat) (h : tm_H) : Option (Int) :=
  tm_th h 9 this (
    fX9_quietTerms_L4 this h 0 0)
noncomputable def fX9_forms_S0 (this : Nat) (h : tm_H) (st : (Int × Int) ⊕ (Int × Int × Int)) : Option (((Int × Int) ⊕ (Int × Int × Int)) ⊕ (Int)) := match st with
  | .inl ((x1, x2)) =>
    (tm_gR h 9 0 this).bind fun r1 =>
    (tm_lI h 0 r1 0).bind fun v2 =>
    if x2 < v2 then
    ((tm_gR h 9 0 this).bind fun r3 =>
    (tm_lI h 0 r3 (tm_wr (1 + x2))).bind fun v4 =>
    if v4 = x2 then
    (some (.inl (.inr ((x2, x1, 0)))))
    else
    (some (.inl (.inr ((x2, x1, 1))))))
    else
    (some (.inr x1))
  | .inr ((x2, s0, s1)) =>
    some (.inl (.inl (((tm_wr (s0 + s1)), (tm_wr (x2 + 1))))))
noncomputable def fX9_forms_L4 (this : Nat) (h : tm_H) (x1 : Int) (x2 : Int) : Option (Int) := tm_wl (fX9_forms_S0 this h) (.inl ((x1, x2)))
noncomputable def fX9_forms_L32 (this : Nat) (h : tm_H) (x2 : Int) (s0 : Int) (s1 : Int) : Option (Int) := tm_wl (fX9_forms_S0 this h) (.inr ((x2, s0, s1)))
theorem fX9_forms_L4_eq (this : Nat) (h : tm_H) (x1 : Int) (x2 : Int) : fX9_forms_L4 this h x1 x2 =
    (tm_gR h 9 0 this).bind fun r5 =>
    (tm_lI h 0 r5 0).bind fun v6 =>
    if x2 < v6 then
    ((tm_gR h 9 0 this).bind fun r7 =>
    (tm_lI h 0 r7 (tm_wr (1 + x2))).bind fun v8 =>
    if v8 = x2 then
    (fX9_forms_L32 this h x2 x1 0)
    else
    (fX9_forms_L32 this h x2 x1 1))
    else
    (some x1) := by
  unfold fX9_forms_L4
  rw [tm_wl_eq]
  simp only [fX9_forms_S0, tm_go_ite, tm_go_bind, tm_go_inl, tm_go_inr, tm_go_out, tm_go_th]
  try rfl
theorem fX9_forms_L32_eq (this : Nat) (h : tm_H) (x2 : Int) (s0 : Int) (s1 : Int) : fX9_forms_L32 this h x2 s0 s1 =
    fX9_forms_L4 this h (tm_wr (s0 + s1)) (tm_wr (x2 + 1)) := by
  unfold fX9_forms_L32
  rw [tm_wl_eq]
  simp only [fX9_forms_S0, tm_go_ite, tm_go_bind, tm_go_inl, tm_go_inr, tm_go_out, tm_go_th]
  try rfl
noncomputable def fX9_forms (this : Nat) (h : tm_H) : Option (Int) :=
  tm_th h 9 this (
    fX9_forms_L4 this h 0 0)
noncomputable def fX9_count (this : Nat) (a1 : Int) (h : tm_H) : Option (Int × tm_H) :=
  tm_th h 9 this (
    if a1 = 0 then
    ((tm_gR h 9 0 this).bind fun r1 =>
    (tm_lI h 0 r1 0).bind fun v2 =>
    some (v2, h))
    else
    (if a1 = 1 then
    ((fX9_wordsOfAll this h).bind fun v4 =>
    some (v4, h))
    else
    (if a1 = 2 then
    ((tm_gR h 9 0 this).bind fun r6 =>
    (tm_lI h 0 r6 307).bind fun v7 =>
    some (v7, h))
    else
    (if a1 = 3 then
    ((fX9_quietTerms this h).bind fun v9 =>
    some (v9, h))
    else
    (if a1 = 4 then
    ((fX9_allMarks this ((-1)) h).bind fun q11 =>
    some (q11.1, q11.2))
    else
    (if a1 = 5 then
    ((fX9_readings this ((-99)) h).bind fun q13 =>
    some (q13.1, q13.2))
    else
    (if a1 = 6 then
    ((fX9_forms this h).bind fun v15 =>
    some (v15, h))
    else
    (if a1 = 7 then
    ((tm_gR h 9 0 this).bind fun r17 =>
    (tm_lI h 0 r17 380).bind fun v18 =>
    (tm_gR h 9 0 this).bind fun r19 =>
    (tm_lI h 0 r19 627).bind fun v20 =>
    some (tm_wr (v18 + v20), h))
    else
    (if a1 = 8 then
    ((tm_gI h 9 3 this).bind fun v22 =>
    some (v22, h))
    else
    (if a1 = 9 then
    ((tm_gI h 9 5 this).bind fun v24 =>
    some (v24, h))
    else
    (some ((-1), h))))))))))))
noncomputable def fX9_letter_L35 (this : Nat) (a1 : Int) (a2 : Int) (h : tm_H) (s0 : Int) : Option (Int) :=
  if s0 = 0 then
  (some ((-99)))
  else
  (some s0)
noncomputable def fX9_letter (this : Nat) (a1 : Int) (a2 : Int) (h : tm_H) : Option (Int) :=
  tm_th h 9 this (
    (fX9_isWord this a1 h).bind fun v1 =>
    if v1 = 0 then
    (some ((-1)))
    else
    (if a2 < 0 then
    (some ((-1)))
    else
    (if a2 < 8 then
    ((tm_gR h 9 6 this).bind fun r2 =>
    (tm_lI h 0 r2 (tm_wr ((tm_wr (8 * a1)) + a2))).bind fun v3 =>
    fX9_letter_L35 this a1 a2 h v3)
    else
    (fX9_letter_L35 this a1 a2 h 0))))
noncomputable def fX9_base (this : Nat) (a1 : Int) (h : tm_H) : Option (Int) :=
  tm_th h 9 this (
    (fX9_isWord this a1 h).bind fun v1 =>
    if v1 = 0 then
    (some ((-1)))
    else
    ((tm_gR h 9 0 this).bind fun r2 =>
    (tm_lI h 0 r2 (tm_wr (1 + a1))).bind fun v3 =>
    some v3))
noncomputable def fX9_place (this : Nat) (a1 : Int) (a2 : Int) (a3 : Int) (h : tm_H) : Option (Int × tm_H) :=
  tm_th h 9 this (
    (fX9_isChapter a1 h).bind fun v1 =>
    if v1 = 0 then
    (some ((-1), h))
    else
    ((fX9_in a3 0 3 h).bind fun v2 =>
    if v2 = 0 then
    (some ((-1), h))
    else
    (if a2 < 0 then
    (some ((-1), h))
    else
    ((fX9_size this a1 h).bind fun v3 =>
    if a2 < v3 then
    ((fX9_reads this a1 h).bind fun q4 =>
    if a3 = 0 then
    ((tm_gR q4.2 9 0 this).bind fun r5 =>
    (fX9_at a1 a2 q4.2).bind fun v6 =>
    (tm_lI q4.2 0 r5 v6).bind fun v7 =>
    some (v7, q4.2))
    else
    (if a3 = 1 then
    ((tm_gR q4.2 9 8 this).bind fun r8 =>
    (tm_lI q4.2 0 r8 a2).bind fun v9 =>
    some (v9, q4.2))
    else
    (if a3 = 2 then
    ((tm_gR q4.2 9 9 this).bind fun r10 =>
    (tm_lI q4.2 0 r10 a2).bind fun v11 =>
    some (v11, q4.2))
    else
    ((tm_gR q4.2 9 10 this).bind fun r12 =>
    (tm_lI q4.2 2 r12 a2).bind fun v13 =>
    if v13 = 0 then
    (some (0, q4.2))
    else
    (if 0 < q4.1 then
    (some (1, q4.2))
    else
    (some (0, q4.2)))))))
    else
    (some ((-99), h))))))
noncomputable def fX9_occurrences_S0 (this : Nat) (a1 : Int) (h : tm_H) (st : (Int × Int) ⊕ (Int × Int × Int) ⊕ (Int × Int × Int × Int)) : Option (((Int × Int) ⊕ (Int × Int × Int) ⊕ (Int × Int × Int × Int)) ⊕ (Int)) := match st with
  | .inl ((x2, x3)) =>
    if x3 < 6 then
    (some (.inl (.inr (.inl ((x2, x3, 0))))))
    else
    (some (.inr x2))
  | .inr (.inl ((x2, x3, x4))) =>
    (fX9_size this x3 h).bind fun v1 =>
    if x4 < v1 then
    ((fX9_occurs this a1 x3 x4 h).bind fun v2 =>
    if v2 = 0 then
    (some (.inl (.inr (.inr ((x3, x4, x2, 0))))))
    else
    (some (.inl (.inr (.inr ((x3, x4, x2, 1)))))))
    else
    (some (.inl (.inl ((x2, (tm_wr (x3 + 1)))))))
  | .inr (.inr ((x3, x4, s0, s1))) =>
    some (.inl (.inr (.inl (((tm_wr (s0 + s1)), x3, (tm_wr (x4 + 1)))))))
noncomputable def fX9_occurrences_L4 (this : Nat) (a1 : Int) (h : tm_H) (x2 : Int) (x3 : Int) : Option (Int) := tm_wl (fX9_occurrences_S0 this a1 h) (.inl ((x2, x3)))
noncomputable def fX9_occurrences_L13 (this : Nat) (a1 : Int) (h : tm_H) (x2 : Int) (x3 : Int) (x4 : Int) : Option (Int) := tm_wl (fX9_occurrences_S0 this a1 h) (.inr (.inl ((x2, x3, x4))))
noncomputable def fX9_occurrences_L40 (this : Nat) (a1 : Int) (h : tm_H) (x3 : Int) (x4 : Int) (s0 : Int) (s1 : Int) : Option (Int) := tm_wl (fX9_occurrences_S0 this a1 h) (.inr (.inr ((x3, x4, s0, s1))))
theorem fX9_occurrences_L4_eq (this : Nat) (a1 : Int) (h : tm_H) (x2 : Int) (x3 : Int) : fX9_occurrences_L4 this a1 h x2 x3 =
    if x3 < 6 then
    (fX9_occurrences_L13 this a1 h x2 x3 0)
    else
    (some x2) := by
  unfold fX9_occurrences_L4
  rw [tm_wl_eq]
  simp only [fX9_occurrences_S0, tm_go_ite, tm_go_bind, tm_go_inl, tm_go_inr, tm_go_out, tm_go_th]
  try rfl
theorem fX9_occurrences_L13_eq (this : Nat) (a1 : Int) (h : tm_H) (x2 : Int) (x3 : Int) (x4 : Int) : fX9_occurrences_L13 this a1 h x2 x3 x4 =
    (fX9_size this x3 h).bind fun v3 =>
    if x4 < v3 then
    ((fX9_occurs this a1 x3 x4 h).bind fun v4 =>
    if v4 = 0 then
    (fX9_occurrences_L40 this a1 h x3 x4 x2 0)
    else
    (fX9_occurrences_L40 this a1 h x3 x4 x2 1))
    else
    (fX9_occurrences_L4 this a1 h x2 (tm_wr (x3 + 1))) := by
  unfold fX9_occurrences_L13
  rw [tm_wl_eq]
  simp only [fX9_occurrences_S0, tm_go_ite, tm_go_bind, tm_go_inl, tm_go_inr, tm_go_out, tm_go_th]
  try rfl
theorem fX9_occurrences_L40_eq (this : Nat) (a1 : Int) (h : tm_H) (x3 : Int) (x4 : Int) (s0 : Int) (s1 : Int) : fX9_occurrences_L40 this a1 h x3 x4 s0 s1 =
    fX9_occurrences_L13 this a1 h (tm_wr (s0 + s1)) x3 (tm_wr (x4 + 1)) := by
  unfold fX9_occurrences_L40
  rw [tm_wl_eq]
  simp only [fX9_occurrences_S0, tm_go_ite, tm_go_bind, tm_go_inl, tm_go_inr, tm_go_out, tm_go_th]
  try rfl
noncomputable def fX9_occurrences (this : Nat) (a1 : Int) (h : tm_H) : Option (Int) :=
  tm_th h 9 this (
    fX9_occurrences_L4 this a1 h 0 0)
noncomputable def fX9_firstIn_S0 (this : Nat) (a1 : Int) (a2 : Int) (st : (Int × Int × tm_H)) : Option (((Int × Int × tm_H)) ⊕ (Int × tm_H)) := match st with
  | (x3, x4, h) =>
    (fX9_size this a2 h).bind fun v2 =>
    if x4 < v2 then
    (if x3 < 0 then
    (some (.inr ((-99), h)))
    else
    ((tm_gR h 9 8 this).bind fun r3 =>
    (tm_lI h 0 r3 x4).bind fun v4 =>
    if v4 = a1 then
    (some (.inr (x4, h)))
    else
    (some (.inl ((x3, (tm_wr (x4 + 1)), h))))))
    else
    (some (.inr ((-99), h)))
noncomputable def fX9_firstIn_L9 (this : Nat) (a1 : Int) (a2 : Int) (x3 : Int) (x4 : Int) (h : tm_H) : Option (Int × tm_H) := tm_wl (fX9_firstIn_S0 this a1 a2) ((x3, x4, h))
theorem fX9_firstIn_L9_eq (this : Nat) (a1 : Int) (a2 : Int) (x3 : Int) (x4 : Int) (h : tm_H) : fX9_firstIn_L9 this a1 a2 x3 x4 h =
    (fX9_size this a2 h).bind fun v5 =>
    if x4 < v5 then
    (if x3 < 0 then
    (some ((-99), h))
    else
    ((tm_gR h 9 8 this).bind fun r6 =>
    (tm_lI h 0 r6 x4).bind fun v7 =>
    if v7 = a1 then
    (some (x4, h))
    else
    (fX9_firstIn_L9 this a1 a2 x3 (tm_wr (x4 + 1)) h)))
    else
    (some ((-99), h)) := by
  unfold fX9_firstIn_L9
  rw [tm_wl_eq]
  simp only [fX9_firstIn_S0, tm_go_ite, tm_go_bind, tm_go_inl, tm_go_inr, tm_go_out, tm_go_th]
  try rfl
noncomputable def fX9_firstIn (this : Nat) (a1 : Int) (a2 : Int) (h : tm_H) : Option (Int × tm_H) :=
  tm_th h 9 this (
    (fX9_reads this a2 h).bind fun q1 =>
    fX9_firstIn_L9 this a1 a2 q1.1 0 q1.2)
noncomputable def fX9_marksOf_S0 (this : Nat) (a1 : Int) (st : (Int × Int × tm_H) ⊕ (Int × Int × tm_H) ⊕ (Int × Int × Int × tm_H)) : Option (((Int × Int × tm_H) ⊕ (Int × Int × tm_H) ⊕ (Int × Int × Int × tm_H)) ⊕ (Int × tm_H)) := match st with
  | .inl ((x2, x3, h)) =>
    if x3 < 6 then
    ((fX9_isQuiet this a1 h).bind fun v1 =>
    if v1 = 0 then
    ((fX9_firstIn this a1 x3 h).bind fun q2 =>
    if q2.1 = ((-99)) then
    (some (.inl (.inr (.inl ((x3, x2, q2.2))))))
    else
    (some (.inl (.inr (.inr ((x3, x2, 1, q2.2)))))))
    else
    (some (.inl (.inr (.inl ((x3, x2, h)))))))
    else
    (some (.inr (x2, h)))
  | .inr (.inl ((x3, s0, h))) =>
    some (.inl (.inr (.inr ((x3, s0, 0, h)))))
  | .inr (.inr ((x3, s0, s1, h))) =>
    some (.inl (.inl (((tm_wr (s0 + s1)), (tm_wr (x3 + 1)), h))))
noncomputable def fX9_marksOf_L4 (this : Nat) (a1 : Int) (x2 : Int) (x3 : Int) (h : tm_H) : Option (Int × tm_H) := tm_wl (fX9_marksOf_S0 this a1) (.inl ((x2, x3, h)))
noncomputable def fX9_marksOf_L34 (this : Nat) (a1 : Int) (x3 : Int) (s0 : Int) (h : tm_H) : Option (Int × tm_H) := tm_wl (fX9_marksOf_S0 this a1) (.inr (.inl ((x3, s0, h))))
noncomputable def fX9_marksOf_L35 (this : Nat) (a1 : Int) (x3 : Int) (s0 : Int) (s1 : Int) (h : tm_H) : Option (Int × tm_H) := tm_wl (fX9_marksOf_S0 this a1) (.inr (.inr ((x3, s0, s1, h))))
theorem fX9_marksOf_L4_eq (this : Nat) (a1 : Int) (x2 : Int) (x3 : Int) (h : tm_H) : fX9_marksOf_L4 this a1 x2 x3 h =
    if x3 < 6 then
    ((fX9_isQuiet this a1 h).bind fun v3 =>
    if v3 = 0 then
    ((fX9_firstIn this a1 x3 h).bind fun q4 =>
    if q4.1 = ((-99)) then
    (fX9_marksOf_L34 this a1 x3 x2 q4.2)
    else
    (fX9_marksOf_L35 this a1 x3 x2 1 q4.2))
    else
    (fX9_marksOf_L34 this a1 x3 x2 h))
    else
    (some (x2, h)) := by
  unfold fX9_marksOf_L4
  rw [tm_wl_eq]
  simp only [fX9_marksOf_S0, tm_go_ite, tm_go_bind, tm_go_inl, tm_go_inr, tm_go_out, tm_go_th]
  try rfl
theorem fX9_marksOf_L34_eq (this : Nat) (a1 : Int) (x3 : Int) (s0 : Int) (h : tm_H) : fX9_marksOf_L34 this a1 x3 s0 h =
    fX9_marksOf_L35 this a1 x3 s0 0 h := by
  unfold fX9_marksOf_L34
  rw [tm_wl_eq]
  simp only [fX9_marksOf_S0, tm_go_ite, tm_go_bind, tm_go_inl, tm_go_inr, tm_go_out, tm_go_th]
  try rfl
theorem fX9_marksOf_L35_eq (this : Nat) (a1 : Int) (x3 : Int) (s0 : Int) (s1 : Int) (h : tm_H) : fX9_marksOf_L35 this a1 x3 s0 s1 h =
    fX9_marksOf_L4 this a1 (tm_wr (s0 + s1)) (tm_wr (x3 + 1)) h := by
  unfold fX9_marksOf_L35
  rw [tm_wl_eq]
  simp only [fX9_marksOf_S0, tm_go_ite, tm_go_bind, tm_go_inl, tm_go_inr, tm_go_out, tm_go_th]
  try rfl
noncomputable def fX9_marksOf (this : Nat) (a1 : Int) (h : tm_H) : Option (Int × tm_H) :=
  tm_th h 9 this (
    fX9_marksOf_L4 this a1 0 0 h)
noncomputable def fX9_term (this : Nat) (a1 : Int) (a2 : Int) (h : tm_H) : Option (Int × tm_H) :=
  tm_th h 9 this (
    (fX9_isTerm this a1 h).bind fun v1 =>
    if v1 = 0 then
    (some ((-1), h))
    else
    ((fX9_in a2 0 8 h).bind fun v2 =>
    if v2 = 0 then
    (some ((-1), h))
    else
    (if a2 = 0 then
    ((fX9_ofTerm this a1 0 h).bind fun v3 =>
    some (v3, h))
    else
    (if a2 = 1 then
    ((fX9_ofTerm this a1 0 h).bind fun v5 =>
    if v5 < a2 then
    (some ((-99), h))
    else
    ((fX9_ofTerm this a1 a2 h).bind fun v6 =>
    some (v6, h)))
    else
    (if a2 = 2 then
    ((fX9_ofTerm this a1 0 h).bind fun v8 =>
    if v8 < a2 then
    (some ((-99), h))
    else
    ((fX9_ofTerm this a1 a2 h).bind fun v9 =>
    some (v9, h)))
    else
    (if a2 = 3 then
    ((fX9_ofTerm this a1 0 h).bind fun v11 =>
    if v11 < a2 then
    (some ((-99), h))
    else
    ((fX9_ofTerm this a1 a2 h).bind fun v12 =>
    some (v12, h)))
    else
    (if a2 = 4 then
    ((fX9_ofTerm this a1 0 h).bind fun v14 =>
    if v14 < a2 then
    (some ((-99), h))
    else
    ((fX9_ofTerm this a1 a2 h).bind fun v15 =>
    some (v15, h)))
    else
    (if a2 = 5 then
    ((fX9_isQuiet this a1 h).bind fun v17 =>
    if v17 = 0 then
    (some (0, h))
    else
    (some (1, h)))
    else
    (if a2 = 6 then
    ((fX9_readings this a1 h).bind fun q19 =>
    some (q19.1, q19.2))
    else
    (if a2 = 7 then
    ((fX9_occurrences this a1 h).bind fun v21 =>
    some (v21, h))
    else
    ((fX9_marksOf this a1 h).bind fun q23 =>
    some (q23.1, q23.2))))))))))))
noncomputable def fX9_firstUse (this : Nat) (a1 : Int) (a2 : Int) (h : tm_H) : Option (Int × tm_H) :=
  tm_th h 9 this (
    (fX9_isTerm this a1 h).bind fun v1 =>
    if v1 = 0 then
    (some ((-1), h))
    else
    ((fX9_isChapter a2 h).bind fun v2 =>
    if v2 = 0 then
    (some ((-1), h))
    else
    ((fX9_firstIn this a1 a2 h).bind fun q3 =>
    some (q3.1, q3.2))))
noncomputable def fX9_mark_S0 (this : Nat) (a1 : Int) (a2 : Int) (st : (Int × Int × tm_H) ⊕ (Int × Int × Int × Int × tm_H) ⊕ (Int × Int × Int × Int × tm_H) ⊕ (Int × Int × Int × Int × Int × tm_H) ⊕ (Int × Int × Int × tm_H) ⊕ (Int × Int × Int × tm_H)) : Option (((Int × Int × tm_H) ⊕ (Int × Int × Int × Int × tm_H) ⊕ (Int × Int × Int × Int × tm_H) ⊕ (Int × Int × Int × Int × Int × tm_H) ⊕ (Int × Int × Int × tm_H) ⊕ (Int × Int × Int × tm_H)) ⊕ (Int × tm_H)) := match st with
  | .inl ((x3, x4, h)) =>
    if x4 < 6 then
    ((fX9_reads this x4 h).bind fun q2 =>
    some (.inl (.inr (.inl ((x3, x4, q2.1, 0, q2.2))))))
    else
    (some (.inr ((-99), h)))
  | .inr (.inl ((x3, x4, x5, x6, h))) =>
    (fX9_size this x4 h).bind fun v3 =>
    if x6 < v3 then
    (if x3 < x5 then
    ((tm_gR h 9 10 this).bind fun r4 =>
    (tm_lI h 2 r4 x6).bind fun v5 =>
    if v5 = 0 then
    (some (.inl (.inr (.inr (.inl ((x3, x4, x5, x6, h)))))))
    else
    (if x3 = 0 then
    (if a2 = 0 then
    (some (.inr (x4, h)))
    else
    (if a2 = 1 then
    (some (.inr (x6, h)))
    else
    ((tm_gR h 9 8 this).bind fun r6 =>
    (tm_lI h 0 r6 x6).bind fun v7 =>
    some (.inr (v7, h)))))
    else
    (some (.inl (.inr (.inr (.inl ((x3, x4, x5, x6, h)))))))))
    else
    (some (.inl (.inr (.inr (.inr (.inr (.inl ((x3, x4, x5, h))))))))))
    else
    (some (.inl (.inr (.inr (.inr (.inr (.inl ((x3, x4, x5, h)))))))))
  | .inr (.inr (.inl ((x3, x4, x5, x6, h)))) =>
    (tm_gR h 9 10 this).bind fun r8 =>
    (tm_lI h 2 r8 x6).bind fun v9 =>
    if v9 = 0 then
    (some (.inl (.inr (.inr (.inr (.inl ((x4, x5, x6, x3, 0, h))))))))
    else
    (some (.inl (.inr (.inr (.inr (.inl ((x4, x5, x6, x3, 1, h))))))))
  | .inr (.inr (.inr (.inl ((x4, x5, x6, s0, s1, h))))) =>
    some (.inl (.inr (.inl (((tm_wr (s0 - s1)), x4, x5, (tm_wr (x6 + 1)), h)))))
  | .inr (.inr (.inr (.inr (.inl ((x3, x4, x5, h)))))) =>
    if x3 < x5 then
    (some (.inl (.inr (.inr (.inr (.inr (.inr ((x4, x3, 0, h)))))))))
    else
    (some (.inl (.inr (.inr (.inr (.inr (.inr ((x4, x3, x5, h)))))))))
  | .inr (.inr (.inr (.inr (.inr ((x4, s0, s1, h)))))) =>
    some (.inl (.inl (((tm_wr (s0 - s1)), (tm_wr (x4 + 1)), h))))
noncomputable def fX9_mark_L20 (this : Nat) (a1 : Int) (a2 : Int) (x3 : Int) (x4 : Int) (h : tm_H) : Option (Int × tm_H) := tm_wl (fX9_mark_S0 this a1 a2) (.inl ((x3, x4, h)))
noncomputable def fX9_mark_L38 (this : Nat) (a1 : Int) (a2 : Int) (x3 : Int) (x4 : Int) (x5 : Int) (x6 : Int) (h : tm_H) : Option (Int × tm_H) := tm_wl (fX9_mark_S0 this a1 a2) (.inr (.inl ((x3, x4, x5, x6, h))))
noncomputable def fX9_mark_L96 (this : Nat) (a1 : Int) (a2 : Int) (x3 : Int) (x4 : Int) (x5 : Int) (x6 : Int) (h : tm_H) : Option (Int × tm_H) := tm_wl (fX9_mark_S0 this a1 a2) (.inr (.inr (.inl ((x3, x4, x5, x6, h)))))
noncomputable def fX9_mark_L112 (this : Nat) (a1 : Int) (a2 : Int) (x4 : Int) (x5 : Int) (x6 : Int) (s0 : Int) (s1 : Int) (h : tm_H) : Option (Int × tm_H) := tm_wl (fX9_mark_S0 this a1 a2) (.inr (.inr (.inr (.inl ((x4, x5, x6, s0, s1, h))))))
noncomputable def fX9_mark_L120 (this : Nat) (a1 : Int) (a2 : Int) (x3 : Int) (x4 : Int) (x5 : Int) (h : tm_H) : Option (Int × tm_H) := tm_wl (fX9_mark_S0 this a1 a2) (.inr (.inr (.inr (.inr (.inl ((x3, x4, x5, h)))))))
noncomputable def fX9_mark_L133 (this : Nat) (a1 : Int) (a2 : Int) (x4 : Int) (s0 : Int) (s1 : Int) (h : tm_H) : Option (Int × tm_H) := tm_wl (fX9_mark_S0 this a1 a2) (.inr (.inr (.inr (.inr (.inr ((x4, s0, s1, h)))))))
theorem fX9_mark_L20_eq (this : Nat) (a1 : Int) (a2 : Int) (x3 : Int) (x4 : Int) (h : tm_H) : fX9_mark_L20 this a1 a2 x3 x4 h =
    if x4 < 6 then
    ((fX9_reads this x4 h).bind fun q10 =>
    fX9_mark_L38 this a1 a2 x3 x4 q10.1 0 q10.2)
    else
    (some ((-99), h)) := by
  unfold fX9_mark_L20
  rw [tm_wl_eq]
  simp only [fX9_mark_S0, tm_go_ite, tm_go_bind, tm_go_inl, tm_go_inr, tm_go_out, tm_go_th]
  try rfl
theorem fX9_mark_L38_eq (this : Nat) (a1 : Int) (a2 : Int) (x3 : Int) (x4 : Int) (x5 : Int) (x6 : Int) (h : tm_H) : fX9_mark_L38 this a1 a2 x3 x4 x5 x6 h =
    (fX9_size this x4 h).bind fun v11 =>
    if x6 < v11 then
    (if x3 < x5 then
    ((tm_gR h 9 10 this).bind fun r12 =>
    (tm_lI h 2 r12 x6).bind fun v13 =>
    if v13 = 0 then
    (fX9_mark_L96 this a1 a2 x3 x4 x5 x6 h)
    else
    (if x3 = 0 then
    (if a2 = 0 then
    (some (x4, h))
    else
    (if a2 = 1 then
    (some (x6, h))
    else
    ((tm_gR h 9 8 this).bind fun r14 =>
    (tm_lI h 0 r14 x6).bind fun v15 =>
    some (v15, h))))
    else
    (fX9_mark_L96 this a1 a2 x3 x4 x5 x6 h)))
    else
    (fX9_mark_L120 this a1 a2 x3 x4 x5 h))
    else
    (fX9_mark_L120 this a1 a2 x3 x4 x5 h) := by
  unfold fX9_mark_L38
  rw [tm_wl_eq]
  simp only [fX9_mark_S0, tm_go_ite, tm_go_bind, tm_go_inl, tm_go_inr, tm_go_out, tm_go_th]
  try rfl
theorem fX9_mark_L96_eq (this : Nat) (a1 : Int) (a2 : Int) (x3 : Int) (x4 : Int) (x5 : Int) (x6 : Int) (h : tm_H) : fX9_mark_L96 this a1 a2 x3 x4 x5 x6 h =
    (tm_gR h 9 10 this).bind fun r16 =>
    (tm_lI h 2 r16 x6).bind fun v17 =>
    if v17 = 0 then
    (fX9_mark_L112 this a1 a2 x4 x5 x6 x3 0 h)
    else
    (fX9_mark_L112 this a1 a2 x4 x5 x6 x3 1 h) := by
  unfold fX9_mark_L96
  rw [tm_wl_eq]
  simp only [fX9_mark_S0, tm_go_ite, tm_go_bind, tm_go_inl, tm_go_inr, tm_go_out, tm_go_th]
  try rfl
theorem fX9_mark_L112_eq (this : Nat) (a1 : Int) (a2 : Int) (x4 : Int) (x5 : Int) (x6 : Int) (s0 : Int) (s1 : Int) (h : tm_H) : fX9_mark_L112 this a1 a2 x4 x5 x6 s0 s1 h =
    fX9_mark_L38 this a1 a2 (tm_wr (s0 - s1)) x4 x5 (tm_wr (x6 + 1)) h := by
  unfold fX9_mark_L112
  rw [tm_wl_eq]
  simp only [fX9_mark_S0, tm_go_ite, tm_go_bind, tm_go_inl, tm_go_inr, tm_go_out, tm_go_th]
  try rfl
theorem fX9_mark_L120_eq (this : Nat) (a1 : Int) (a2 : Int) (x3 : Int) (x4 : Int) (x5 : Int) (h : tm_H) : fX9_mark_L120 this a1 a2 x3 x4 x5 h =
    if x3 < x5 then
    (fX9_mark_L133 this a1 a2 x4 x3 0 h)
    else
    (fX9_mark_L133 this a1 a2 x4 x3 x5 h) := by
  unfold fX9_mark_L120
  rw [tm_wl_eq]
  simp only [fX9_mark_S0, tm_go_ite, tm_go_bind, tm_go_inl, tm_go_inr, tm_go_out, tm_go_th]
  try rfl
theorem fX9_mark_L133_eq (this : Nat) (a1 : Int) (a2 : Int) (x4 : Int) (s0 : Int) (s1 : Int) (h : tm_H) : fX9_mark_L133 this a1 a2 x4 s0 s1 h =
    fX9_mark_L20 this a1 a2 (tm_wr (s0 - s1)) (tm_wr (x4 + 1)) h := by
  unfold fX9_mark_L133
  rw [tm_wl_eq]
  simp only [fX9_mark_S0, tm_go_ite, tm_go_bind, tm_go_inl, tm_go_inr, tm_go_out, tm_go_th]
  try rfl
noncomputable def fX9_mark (this : Nat) (a1 : Int) (a2 : Int) (h : tm_H) : Option (Int × tm_H) :=
  tm_th h 9 this (
    if a1 < 0 then
    (some ((-1), h))
    else
    ((fX9_in a2 0 2 h).bind fun v1 =>
    if v1 = 0 then
    (some ((-1), h))
    else
    (fX9_mark_L20 this a1 a2 a1 0 h)))
noncomputable def fX9_why_L72 (this : Nat) (a1 : Int) (a2 : Int) (a3 : Int) (x4 : Int) (h : tm_H) : Option (Int × tm_H) :=
  (tm_gR h 9 9 this).bind fun r11 =>
  (tm_lI h 0 r11 a2).bind fun v12 =>
  if 0 < v12 then
  (some (3, h))
  else
  ((fX9_isQuiet this a3 h).bind fun v13 =>
  if v13 = 0 then
  ((tm_gR h 9 10 this).bind fun r14 =>
  (tm_lI h 2 r14 a2).bind fun v15 =>
  if v15 = 0 then
  (some (5, h))
  else
  (if 0 < x4 then
  (some (0, h))
  else
  (some (5, h))))
  else
  (some (4, h)))
noncomputable def fX9_why (this : Nat) (a1 : Int) (a2 : Int) (a3 : Int) (h : tm_H) : Option (Int × tm_H) :=
  tm_th h 9 this (
    (fX9_isChapter a1 h).bind fun v1 =>
    if v1 = 0 then
    (some ((-1), h))
    else
    ((fX9_size this a1 h).bind fun v2 =>
    (fX9_in a2 0 (tm_wr (v2 - 1)) h).bind fun v3 =>
    if v3 = 0 then
    (some ((-1), h))
    else
    ((fX9_isTerm this a3 h).bind fun v4 =>
    if v4 = 0 then
    (some ((-1), h))
    else
    ((fX9_reads this a1 h).bind fun q5 =>
    (fX9_occurs this a3 a1 a2 q5.2).bind fun v6 =>
    if v6 = 0 then
    (some (1, q5.2))
    else
    ((tm_gR q5.2 9 9 this).bind fun r7 =>
    (tm_lI q5.2 0 r7 a2).bind fun v8 =>
    if v8 = 0 then
    ((tm_gR q5.2 9 8 this).bind fun r9 =>
    (tm_lI q5.2 0 r9 a2).bind fun v10 =>
    if v10 = a3 then
    (fX9_why_L72 this a1 a2 a3 q5.1 q5.2)
    else
    (some (2, q5.2)))
    else
    (fX9_why_L72 this a1 a2 a3 q5.1 q5.2))))))
noncomputable def fX9_nested_S0 (this : Nat) (a1 : Int) (a2 : Int) (h : tm_H) (st : (Int × Int) ⊕ (Int × Int × Int × Int) ⊕ (Int × Int × Int × Int) ⊕ (Int × Int × Int) ⊕ (Int × Int × Int)) : Option (((Int × Int) ⊕ (Int × Int × Int × Int) ⊕ (Int × Int × Int × Int) ⊕ (Int × Int × Int) ⊕ (Int × Int × Int)) ⊕ (Int)) := match st with
  | .inl ((x3, x4)) =>
    (fX9_ofTerm this a1 0 h).bind fun v3 =>
    (fX9_ofTerm this a2 0 h).bind fun v4 =>
    if v4 < (tm_wr (x4 + v3)) then
    (some (.inr x3))
    else
    (some (.inl (.inr (.inl ((x3, x4, 1, 1))))))
  | .inr (.inl ((x3, x4, x5, x6))) =>
    (fX9_ofTerm this a1 0 h).bind fun v5 =>
    if v5 < x6 then
    (some (.inl (.inr (.inr (.inr (.inl ((x3, x4, x5))))))))
    else
    (if x5 = 0 then
    (some (.inl (.inr (.inr (.inr (.inl ((x3, x4, x5))))))))
    else
    ((tm_gR h 9 0 this).bind fun r6 =>
    (fX9_ofTerm this a1 x6 h).bind fun v7 =>
    (tm_lI h 0 r6 (tm_wr (1 + v7))).bind fun v8 =>
    (tm_gR h 9 0 this).bind fun r9 =>
    (fX9_ofTerm this a2 (tm_wr (x4 + x6)) h).bind fun v10 =>
    (tm_lI h 0 r9 (tm_wr (1 + v10))).bind fun v11 =>
    if v8 = v11 then
    (some (.inl (.inr (.inr (.inl ((x3, x4, x6, 1)))))))
    else
    (some (.inl (.inr (.inr (.inl ((x3, x4, x6, 0)))))))))
  | .inr (.inr (.inl ((x3, x4, x6, s0)))) =>
    some (.inl (.inr (.inl ((x3, x4, s0, (tm_wr (x6 + 1)))))))
  | .inr (.inr (.inr (.inl ((x3, x4, x5))))) =>
    if x5 = 0 then
    (some (.inl (.inr (.inr (.inr (.inr ((x4, x3, 0))))))))
    else
    (some (.inl (.inr (.inr (.inr (.inr ((x4, x3, 1))))))))
  | .inr (.inr (.inr (.inr ((x4, s0, s1))))) =>
    some (.inl (.inl (((tm_wr (s0 + s1)), (tm_wr (x4 + 1))))))
noncomputable def fX9_nested_L23 (this : Nat) (a1 : Int) (a2 : Int) (h : tm_H) (x3 : Int) (x4 : Int) : Option (Int) := tm_wl (fX9_nested_S0 this a1 a2 h) (.inl ((x3, x4)))
noncomputable def fX9_nested_L47 (this : Nat) (a1 : Int) (a2 : Int) (h : tm_H) (x3 : Int) (x4 : Int) (x5 : Int) (x6 : Int) : Option (Int) := tm_wl (fX9_nested_S0 this a1 a2 h) (.inr (.inl ((x3, x4, x5, x6))))
noncomputable def fX9_nested_L102 (this : Nat) (a1 : Int) (a2 : Int) (h : tm_H) (x3 : Int) (x4 : Int) (x6 : Int) (s0 : Int) : Option (Int) := tm_wl (fX9_nested_S0 this a1 a2 h) (.inr (.inr (.inl ((x3, x4, x6, s0)))))
noncomputable def fX9_nested_L110 (this : Nat) (a1 : Int) (a2 : Int) (h : tm_H) (x3 : Int) (x4 : Int) (x5 : Int) : Option (Int) := tm_wl (fX9_nested_S0 this a1 a2 h) (.inr (.inr (.inr (.inl ((x3, x4, x5))))))
noncomputable def fX9_nested_L121 (this : Nat) (a1 : Int) (a2 : Int) (h : tm_H) (x4 : Int) (s0 : Int) (s1 : Int) : Option (Int) := tm_wl (fX9_nested_S0 this a1 a2 h) (.inr (.inr (.inr (.inr ((x4, s0, s1))))))
theorem fX9_nested_L23_eq (this : Nat) (a1 : Int) (a2 : Int) (h : tm_H) (x3 : Int) (x4 : Int) : fX9_nested_L23 this a1 a2 h x3 x4 =
    (fX9_ofTerm this a1 0 h).bind fun v12 =>
    (fX9_ofTerm this a2 0 h).bind fun v13 =>
    if v13 < (tm_wr (x4 + v12)) then
    (some x3)
    else
    (fX9_nested_L47 this a1 a2 h x3 x4 1 1) := by
  unfold fX9_nested_L23
  rw [tm_wl_eq]
  simp only [fX9_nested_S0, tm_go_ite, tm_go_bind, tm_go_inl, tm_go_inr, tm_go_out, tm_go_th]
  try rfl
theorem fX9_nested_L47_eq (this : Nat) (a1 : Int) (a2 : Int) (h : tm_H) (x3 : Int) (x4 : Int) (x5 : Int) (x6 : Int) : fX9_nested_L47 this a1 a2 h x3 x4 x5 x6 =
    (fX9_ofTerm this a1 0 h).bind fun v14 =>
    if v14 < x6 then
    (fX9_nested_L110 this a1 a2 h x3 x4 x5)
    else
    (if x5 = 0 then
    (fX9_nested_L110 this a1 a2 h x3 x4 x5)
    else
    ((tm_gR h 9 0 this).bind fun r15 =>
    (fX9_ofTerm this a1 x6 h).bind fun v16 =>
    (tm_lI h 0 r15 (tm_wr (1 + v16))).bind fun v17 =>
    (tm_gR h 9 0 this).bind fun r18 =>
    (fX9_ofTerm this a2 (tm_wr (x4 + x6)) h).bind fun v19 =>
    (tm_lI h 0 r18 (tm_wr (1 + v19))).bind fun v20 =>
    if v17 = v20 then
    (fX9_nested_L102 this a1 a2 h x3 x4 x6 1)
    else
    (fX9_nested_L102 this a1 a2 h x3 x4 x6 0))) := by
  unfold fX9_nested_L47
  rw [tm_wl_eq]
  simp only [fX9_nested_S0, tm_go_ite, tm_go_bind, tm_go_inl, tm_go_inr, tm_go_out, tm_go_th]
  try rfl
theorem fX9_nested_L102_eq (this : Nat) (a1 : Int) (a2 : Int) (h : tm_H) (x3 : Int) (x4 : Int) (x6 : Int) (s0 : Int) : fX9_nested_L102 this a1 a2 h x3 x4 x6 s0 =
    fX9_nested_L47 this a1 a2 h x3 x4 s0 (tm_wr (x6 + 1)) := by
  unfold fX9_nested_L102
  rw [tm_wl_eq]
  simp only [fX9_nested_S0, tm_go_ite, tm_go_bind, tm_go_inl, tm_go_inr, tm_go_out, tm_go_th]
  try rfl
theorem fX9_nested_L110_eq (this : Nat) (a1 : Int) (a2 : Int) (h : tm_H) (x3 : Int) (x4 : Int) (x5 : Int) : fX9_nested_L110 this a1 a2 h x3 x4 x5 =
    if x5 = 0 then
    (fX9_nested_L121 this a1 a2 h x4 x3 0)
    else
    (fX9_nested_L121 this a1 a2 h x4 x3 1) := by
  unfold fX9_nested_L110
  rw [tm_wl_eq]
  simp only [fX9_nested_S0, tm_go_ite, tm_go_bind, tm_go_inl, tm_go_inr, tm_go_out, tm_go_th]
  try rfl
theorem fX9_nested_L121_eq (this : Nat) (a1 : Int) (a2 : Int) (h : tm_H) (x4 : Int) (s0 : Int) (s1 : Int) : fX9_nested_L121 this a1 a2 h x4 s0 s1 =
    fX9_nested_L23 this a1 a2 h (tm_wr (s0 + s1)) (tm_wr (x4 + 1)) := by
  unfold fX9_nested_L121
  rw [tm_wl_eq]
  simp only [fX9_nested_S0, tm_go_ite, tm_go_bind, tm_go_inl, tm_go_inr, tm_go_out, tm_go_th]
  try rfl
noncomputable def fX9_nested (this : Nat) (a1 : Int) (a2 : Int) (h : tm_H) : Option (Int) :=
  tm_th h 9 this (
    (fX9_isTerm this a1 h).bind fun v1 =>
    if v1 = 0 then
    (some ((-1)))
    else
    ((fX9_isTerm this a2 h).bind fun v2 =>
    if v2 = 0 then
    (some ((-1)))
    else
    (fX9_nested_L23 this a1 a2 h 0 0)))
noncomputable def fX9_gain_S0 (this : Nat) (a1 : Int) (a2 : Int) (a3 : Int) (a4 : Int) (st : (Int × Int × tm_H)) : Option (((Int × Int × tm_H)) ⊕ (Int × tm_H)) := match st with
  | (x5, x6, h) =>
    if x6 < 6 then
    ((fX9_readsBy this x6 ((-1)) 1 h).bind fun q3 =>
    (fX9_reads this x6 q3.2).bind fun q4 =>
    some (.inl (((tm_wr (x5 + (tm_wr (q3.1 - q4.1)))), (tm_wr (x6 + 1)), q4.2))))
    else
    (some (.inr (tm_wr (100 + x5), h)))
noncomputable def fX9_gain_L30 (this : Nat) (a1 : Int) (a2 : Int) (a3 : Int) (a4 : Int) (x5 : Int) (x6 : Int) (h : tm_H) : Option (Int × tm_H) := tm_wl (fX9_gain_S0 this a1 a2 a3 a4) ((x5, x6, h))
theorem fX9_gain_L30_eq (this : Nat) (a1 : Int) (a2 : Int) (a3 : Int) (a4 : Int) (x5 : Int) (x6 : Int) (h : tm_H) : fX9_gain_L30 this a1 a2 a3 a4 x5 x6 h =
    if x6 < 6 then
    ((fX9_readsBy this x6 ((-1)) 1 h).bind fun q5 =>
    (fX9_reads this x6 q5.2).bind fun q6 =>
    fX9_gain_L30 this a1 a2 a3 a4 (tm_wr (x5 + (tm_wr (q5.1 - q6.1)))) (tm_wr (x6 + 1)) q6.2)
    else
    (some (tm_wr (100 + x5), h)) := by
  unfold fX9_gain_L30
  rw [tm_wl_eq]
  simp only [fX9_gain_S0, tm_go_ite, tm_go_bind, tm_go_inl, tm_go_inr, tm_go_out, tm_go_th]
  try rfl
noncomputable def fX9_gain (this : Nat) (a1 : Int) (a2 : Int) (a3 : Int) (a4 : Int) (h : tm_H) : Option (Int × tm_H) :=
  tm_th h 9 this (
    (fX9_tries this a1 a2 a3 a4 h).bind fun q1 =>
    if q1.1 = 0 then
    (some ((-1), q1.2))
    else
    ((fX9_isThere this q1.2).bind fun v2 =>
    if v2 = 0 then
    (fX9_gain_L30 this a1 a2 a3 a4 0 0 q1.2)
    else
    (some ((-2), q1.2))))
noncomputable def fX9_greediest_S0 (this : Nat) (st : (Int × Int × Int × tm_H) ⊕ (Int × Int × tm_H) ⊕ (Int × Int × Int × tm_H)) : Option (((Int × Int × Int × tm_H) ⊕ (Int × Int × tm_H) ⊕ (Int × Int × Int × tm_H)) ⊕ (Int × tm_H)) := match st with
  | .inl ((x1, x2, x3, h)) =>
    (tm_gR h 9 0 this).bind fun r1 =>
    (tm_lI h 0 r1 307).bind fun v2 =>
    if x3 < v2 then
    ((fX9_allMarks this x3 h).bind fun q3 =>
    if x1 = ((-99)) then
    (some (.inl (.inr (.inl ((x3, q3.1, q3.2))))))
    else
    (if x2 < q3.1 then
    (some (.inl (.inr (.inl ((x3, q3.1, q3.2))))))
    else
    (some (.inl (.inr (.inr ((x1, x2, x3, q3.2))))))))
    else
    (some (.inr (x1, h)))
  | .inr (.inl ((x3, x4, h))) =>
    some (.inl (.inr (.inr ((x3, x4, x3, h)))))
  | .inr (.inr ((x1, x2, x3, h))) =>
    some (.inl (.inl ((x1, x2, (tm_wr (x3 + 1)), h))))
noncomputable def fX9_greediest_L7 (this : Nat) (x1 : Int) (x2 : Int) (x3 : Int) (h : tm_H) : Option (Int × tm_H) := tm_wl (fX9_greediest_S0 this) (.inl ((x1, x2, x3, h)))
noncomputable def fX9_greediest_L38 (this : Nat) (x3 : Int) (x4 : Int) (h : tm_H) : Option (Int × tm_H) := tm_wl (fX9_greediest_S0 this) (.inr (.inl ((x3, x4, h))))
noncomputable def fX9_greediest_L43 (this : Nat) (x1 : Int) (x2 : Int) (x3 : Int) (h : tm_H) : Option (Int × tm_H) := tm_wl (fX9_greediest_S0 this) (.inr (.inr ((x1, x2, x3, h))))
theorem fX9_greediest_L7_eq (this : Nat) (x1 : Int) (x2 : Int) (x3 : Int) (h : tm_H) : fX9_greediest_L7 this x1 x2 x3 h =
    (tm_gR h 9 0 this).bind fun r4 =>
    (tm_lI h 0 r4 307).bind fun v5 =>
    if x3 < v5 then
    ((fX9_allMarks this x3 h).bind fun q6 =>
    if x1 = ((-99)) then
    (fX9_greediest_L38 this x3 q6.1 q6.2)
    else
    (if x2 < q6.1 then
    (fX9_greediest_L38 this x3 q6.1 q6.2)
    else
    (fX9_greediest_L43 this x1 x2 x3 q6.2)))
    else
    (some (x1, h)) := by
  unfold fX9_greediest_L7
  rw [tm_wl_eq]
  simp only [fX9_greediest_S0, tm_go_ite, tm_go_bind, tm_go_inl, tm_go_inr, tm_go_out, tm_go_th]
  try rfl
theorem fX9_greediest_L38_eq (this : Nat) (x3 : Int) (x4 : Int) (h : tm_H) : fX9_greediest_L38 this x3 x4 h =
    fX9_greediest_L43 this x3 x4 x3 h := by
  unfold fX9_greediest_L38
  rw [tm_wl_eq]
  simp only [fX9_greediest_S0, tm_go_ite, tm_go_bind, tm_go_inl, tm_go_inr, tm_go_out, tm_go_th]
  try rfl
theorem fX9_greediest_L43_eq (this : Nat) (x1 : Int) (x2 : Int) (x3 : Int) (h : tm_H) : fX9_greediest_L43 this x1 x2 x3 h =
    fX9_greediest_L7 this x1 x2 (tm_wr (x3 + 1)) h := by
  unfold fX9_greediest_L43
  rw [tm_wl_eq]
  simp only [fX9_greediest_S0, tm_go_ite, tm_go_bind, tm_go_inl, tm_go_inr, tm_go_out, tm_go_th]
  try rfl
noncomputable def fX9_greediest (this : Nat) (h : tm_H) : Option (Int × tm_H) :=
  tm_th h 9 this (
    fX9_greediest_L7 this ((-99)) 0 0 h)
