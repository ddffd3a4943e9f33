noncomputable def fX0_init (this : Nat) (h : tm_H) (n : Nat) : Option (tm_H × Nat) :=
  tm_th h 0 this (
    (tm_nm h n 6 40).bind fun h1 =>
    (tm_sF h1 0 0 this (.inr (some n))).bind fun h2 =>
    (tm_nw h2 (n + 7) (.inr (0, 6, .inl (fun _ => 0)))).bind fun h3 =>
    (tm_sF h3 0 1 this (.inr (some (n + 7)))).bind fun h4 =>
    some (h4, n + 8))
noncomputable def fX0_has (this : Nat) (a1 : Int) (h : tm_H) : Option (Int) :=
  tm_th h 0 this (
    if a1 < 0 then
    (some 0)
    else
    (if a1 < 6 then
    (some 1)
    else
    (some 0)))
noncomputable def fX0_hasPlace (this : Nat) (a1 : Int) (a2 : Int) (h : tm_H) : Option (Int) :=
  tm_th h 0 this (
    if a1 < 0 then
    (some 0)
    else
    (if a1 < 6 then
    (if a2 < 0 then
    (some 0)
    else
    ((tm_gR h 0 1 this).bind fun r1 =>
    (tm_lI h 0 r1 a1).bind fun v2 =>
    if a2 < v2 then
    (some 1)
    else
    (some 0)))
    else
    (some 0)))
noncomputable def fX0_lengthOf (this : Nat) (a1 : Int) (h : tm_H) : Option (Int) :=
  tm_th h 0 this (
    if a1 < 0 then
    (some 0)
    else
    (if a1 < 6 then
    ((tm_gR h 0 1 this).bind fun r1 =>
    (tm_lI h 0 r1 a1).bind fun v2 =>
    some v2)
    else
    (some 0)))
noncomputable def fX0_wordAt (this : Nat) (a1 : Int) (a2 : Int) (h : tm_H) : Option (Int) :=
  tm_th h 0 this (
    if a1 < 0 then
    (some ((-99)))
    else
    (if a1 < 6 then
    (if a2 < 0 then
    (some ((-99)))
    else
    ((tm_gR h 0 1 this).bind fun r1 =>
    (tm_lI h 0 r1 a1).bind fun v2 =>
    if a2 < v2 then
    ((tm_gR h 0 0 this).bind fun r3 =>
    (tm_lR h 5 r3 a1).bind fun r4 =>
    (tm_lI h 0 r4 a2).bind fun v5 =>
    some v5)
    else
    (some ((-99)))))
    else
    (some ((-99)))))
noncomputable def fX0_put_S0 (this : Nat) (a1 : Int) (a2 : Int) (a3 : Int) (st : (Nat × Int × tm_H)) : Option (((Nat × Int × tm_H)) ⊕ (tm_H)) := match st with
  | (x4, x5, h) =>
    if a2 < x5 then
    ((tm_lI h 0 x4 (tm_wr (x5 - 1))).bind fun v10 =>
    (tm_wI h 0 x4 x5 v10).bind fun h11 =>
    some (.inl ((x4, (tm_wr (x5 + (-1))), h11))))
    else
    ((tm_wI h 0 x4 a2 a3).bind fun h12 =>
    (tm_gR h12 0 1 this).bind fun r13 =>
    (tm_lI h12 0 r13 a1).bind fun v14 =>
    (tm_wI h12 0 r13 a1 (tm_wr (v14 + 1))).bind fun h15 =>
    some (.inr h15))
noncomputable def fX0_put_L50 (this : Nat) (a1 : Int) (a2 : Int) (a3 : Int) (x4 : Nat) (x5 : Int) (h : tm_H) : Option (tm_H) := tm_wl (fX0_put_S0 this a1 a2 a3) ((x4, x5, h))
theorem fX0_put_L50_eq (this : Nat) (a1 : Int) (a2 : Int) (a3 : Int) (x4 : Nat) (x5 : Int) (h : tm_H) : fX0_put_L50 this a1 a2 a3 x4 x5 h =
    if a2 < x5 then
    ((tm_lI h 0 x4 (tm_wr (x5 - 1))).bind fun v16 =>
    (tm_wI h 0 x4 x5 v16).bind fun h17 =>
    fX0_put_L50 this a1 a2 a3 x4 (tm_wr (x5 + (-1))) h17)
    else
    ((tm_wI h 0 x4 a2 a3).bind fun h18 =>
    (tm_gR h18 0 1 this).bind fun r19 =>
    (tm_lI h18 0 r19 a1).bind fun v20 =>
    (tm_wI h18 0 r19 a1 (tm_wr (v20 + 1))).bind fun h21 =>
    some h21) := by
  unfold fX0_put_L50
  rw [tm_wl_eq]
  simp only [fX0_put_S0, tm_go_ite, tm_go_bind, tm_go_inl, tm_go_inr, tm_go_out, tm_go_th]
  try rfl
noncomputable def fX0_put (this : Nat) (a1 : Int) (a2 : Int) (a3 : Int) (h : tm_H) : Option (tm_H) :=
  tm_th h 0 this (
    (fX0_has this a1 h).bind fun v1 =>
    if v1 = 0 then
    (some h)
    else
    (if a2 < 0 then
    (some h)
    else
    ((tm_gR h 0 1 this).bind fun r2 =>
    (tm_lI h 0 r2 a1).bind fun v3 =>
    if v3 < a2 then
    (some h)
    else
    ((tm_gR h 0 1 this).bind fun r4 =>
    (tm_lI h 0 r4 a1).bind fun v5 =>
    if v5 < 40 then
    ((tm_gR h 0 0 this).bind fun r6 =>
    (tm_lR h 5 r6 a1).bind fun r7 =>
    (tm_gR h 0 1 this).bind fun r8 =>
    (tm_lI h 0 r8 a1).bind fun v9 =>
    fX0_put_L50 this a1 a2 a3 r7 v9 h)
    else
    (some h)))))
noncomputable def fX0_cut_S0 (this : Nat) (a1 : Int) (a2 : Int) (a3 : Int) (st : (Nat × Int × Int × tm_H)) : Option (((Nat × Int × Int × tm_H)) ⊕ (tm_H)) := match st with
  | (x4, x5, x6, h) =>
    (tm_gR h 0 1 this).bind fun r5 =>
    (tm_lI h 0 r5 a1).bind fun v6 =>
    if x6 < v6 then
    ((tm_lI h 0 x4 x6).bind fun v7 =>
    (tm_wI h 0 x4 (tm_wr (x6 - x5)) v7).bind fun h8 =>
    some (.inl ((x4, x5, (tm_wr (x6 + 1)), h8))))
    else
    ((tm_gR h 0 1 this).bind fun r9 =>
    (tm_lI h 0 r9 a1).bind fun v10 =>
    (tm_wI h 0 r9 a1 (tm_wr (v10 - x5))).bind fun h11 =>
    some (.inr h11))
noncomputable def fX0_cut_L44 (this : Nat) (a1 : Int) (a2 : Int) (a3 : Int) (x4 : Nat) (x5 : Int) (x6 : Int) (h : tm_H) : Option (tm_H) := tm_wl (fX0_cut_S0 this a1 a2 a3) ((x4, x5, x6, h))
theorem fX0_cut_L44_eq (this : Nat) (a1 : Int) (a2 : Int) (a3 : Int) (x4 : Nat) (x5 : Int) (x6 : Int) (h : tm_H) : fX0_cut_L44 this a1 a2 a3 x4 x5 x6 h =
    (tm_gR h 0 1 this).bind fun r12 =>
    (tm_lI h 0 r12 a1).bind fun v13 =>
    if x6 < v13 then
    ((tm_lI h 0 x4 x6).bind fun v14 =>
    (tm_wI h 0 x4 (tm_wr (x6 - x5)) v14).bind fun h15 =>
    fX0_cut_L44 this a1 a2 a3 x4 x5 (tm_wr (x6 + 1)) h15)
    else
    ((tm_gR h 0 1 this).bind fun r16 =>
    (tm_lI h 0 r16 a1).bind fun v17 =>
    (tm_wI h 0 r16 a1 (tm_wr (v17 - x5))).bind fun h18 =>
    some h18) := by
  unfold fX0_cut_L44
  rw [tm_wl_eq]
  simp only [fX0_cut_S0, tm_go_ite, tm_go_bind, tm_go_inl, tm_go_inr, tm_go_out, tm_go_th]
  try rfl
noncomputable def fX0_cut (this : Nat) (a1 : Int) (a2 : Int) (a3 : Int) (h : tm_H) : Option (tm_H) :=
  tm_th h 0 this (
    (fX0_hasPlace this a1 a2 h).bind fun v1 =>
    if v1 = 0 then
    (some h)
    else
    ((fX0_hasPlace this a1 a3 h).bind fun v2 =>
    if v2 = 0 then
    (some h)
    else
    (if a3 < a2 then
    (some h)
    else
    ((tm_gR h 0 0 this).bind fun r3 =>
    (tm_lR h 5 r3 a1).bind fun r4 =>
    fX0_cut_L44 this a1 a2 a3 r4 (tm_wr ((tm_wr (a3 - a2)) + 1)) (tm_wr (a3 + 1)) h))))
noncomputable def fX0_exchange_S0 (this : Nat) (a1 : Int) (a2 : Int) (st : (Int × Int × tm_H) ⊕ (Int × Int × Int × tm_H) ⊕ (Int × Int × Int × tm_H)) : Option (((Int × Int × tm_H) ⊕ (Int × Int × Int × tm_H) ⊕ (Int × Int × Int × tm_H)) ⊕ (Int × tm_H)) := match st with
  | .inl ((x3, x4, h)) =>
    if x4 < 6 then
    (some (.inl (.inr (.inl ((x3, x4, 0, h))))))
    else
    (some (.inr (x3, h)))
  | .inr (.inl ((x3, x4, x5, h))) =>
    (tm_gR h 0 1 this).bind fun r1 =>
    (tm_lI h 0 r1 x4).bind fun v2 =>
    if x5 < v2 then
    ((tm_gR h 0 0 this).bind fun r3 =>
    (tm_lR h 5 r3 x4).bind fun r4 =>
    (tm_lI h 0 r4 x5).bind fun v5 =>
    if v5 = a1 then
    ((tm_gR h 0 0 this).bind fun r6 =>
    (tm_lR h 5 r6 x4).bind fun r7 =>
    (tm_wI h 0 r7 x5 a2).bind fun h8 =>
    some (.inl (.inr (.inr (((tm_wr (x3 + 1)), x4, x5, h8))))))
    else
    (some (.inl (.inr (.inr ((x3, x4, x5, h)))))))
    else
    (some (.inl (.inl ((x3, (tm_wr (x4 + 1)), h)))))
  | .inr (.inr ((x3, x4, x5, h))) =>
    some (.inl (.inr (.inl ((x3, x4, (tm_wr (x5 + 1)), h)))))
noncomputable def fX0_exchange_L5 (this : Nat) (a1 : Int) (a2 : Int) (x3 : Int) (x4 : Int) (h : tm_H) : Option (Int × tm_H) := tm_wl (fX0_exchange_S0 this a1 a2) (.inl ((x3, x4, h)))
noncomputable def fX0_exchange_L15 (this : Nat) (a1 : Int) (a2 : Int) (x3 : Int) (x4 : Int) (x5 : Int) (h : tm_H) : Option (Int × tm_H) := tm_wl (fX0_exchange_S0 this a1 a2) (.inr (.inl ((x3, x4, x5, h))))
noncomputable def fX0_exchange_L55 (this : Nat) (a1 : Int) (a2 : Int) (x3 : Int) (x4 : Int) (x5 : Int) (h : tm_H) : Option (Int × tm_H) := tm_wl (fX0_exchange_S0 this a1 a2) (.inr (.inr ((x3, x4, x5, h))))
theorem fX0_exchange_L5_eq (this : Nat) (a1 : Int) (a2 : Int) (x3 : Int) (x4 : Int) (h : tm_H) : fX0_exchange_L5 this a1 a2 x3 x4 h =
    if x4 < 6 then
    (fX0_exchange_L15 this a1 a2 x3 x4 0 h)
    else
    (some (x3, h)) := by
  unfold fX0_exchange_L5
  rw [tm_wl_eq]
  simp only [fX0_exchange_S0, tm_go_ite, tm_go_bind, tm_go_inl, tm_go_inr, tm_go_out, tm_go_th]
  try rfl
theorem fX0_exchange_L15_eq (this : Nat) (a1 : Int) (a2 : Int) (x3 : Int) (x4 : Int) (x5 : Int) (h : tm_H) : fX0_exchange_L15 this a1 a2 x3 x4 x5 h =
    (tm_gR h 0 1 this).bind fun r9 =>
    (tm_lI h 0 r9 x4).bind fun v10 =>
    if x5 < v10 then
    ((tm_gR h 0 0 this).bind fun r11 =>
    (tm_lR h 5 r11 x4).bind fun r12 =>
    (tm_lI h 0 r12 x5).bind fun v13 =>
    if v13 = a1 then
    ((tm_gR h 0 0 this).bind fun r14 =>
    (tm_lR h 5 r14 x4).bind fun r15 =>
    (tm_wI h 0 r15 x5 a2).bind fun h16 =>
    fX0_exchange_L55 this a1 a2 (tm_wr (x3 + 1)) x4 x5 h16)
    else
    (fX0_exchange_L55 this a1 a2 x3 x4 x5 h))
    else
    (fX0_exchange_L5 this a1 a2 x3 (tm_wr (x4 + 1)) h) := by
  unfold fX0_exchange_L15
  rw [tm_wl_eq]
  simp only [fX0_exchange_S0, tm_go_ite, tm_go_bind, tm_go_inl, tm_go_inr, tm_go_out, tm_go_th]
  try rfl
theorem fX0_exchange_L55_eq (this : Nat) (a1 : Int) (a2 : Int) (x3 : Int) (x4 : Int) (x5 : Int) (h : tm_H) : fX0_exchange_L55 this a1 a2 x3 x4 x5 h =
    fX0_exchange_L15 this a1 a2 x3 x4 (tm_wr (x5 + 1)) h := by
  unfold fX0_exchange_L55
  rw [tm_wl_eq]
  simp only [fX0_exchange_S0, tm_go_ite, tm_go_bind, tm_go_inl, tm_go_inr, tm_go_out, tm_go_th]
  try rfl
noncomputable def fX0_exchange (this : Nat) (a1 : Int) (a2 : Int) (h : tm_H) : Option (Int × tm_H) :=
  tm_th h 0 this (
    fX0_exchange_L5 this a1 a2 0 0 h)
noncomputable def fX0_trade (this : Nat) (a1 : Int) (a2 : Int) (h : tm_H) : Option (tm_H) :=
  tm_th h 0 this (
    (fX0_has this a1 h).bind fun v1 =>
    if v1 = 0 then
    (some h)
    else
    ((fX0_has this a2 h).bind fun v2 =>
    if v2 = 0 then
    (some h)
    else
    ((tm_gR h 0 0 this).bind fun r3 =>
    (tm_lR h 5 r3 a1).bind fun r4 =>
    (tm_gR h 0 0 this).bind fun r5 =>
    (tm_gR h 0 0 this).bind fun r6 =>
    (tm_lR h 5 r6 a2).bind fun r7 =>
    (tm_wR h 5 r5 a1 100 r7).bind fun h8 =>
    (tm_gR h8 0 0 this).bind fun r9 =>
    (tm_wR h8 5 r9 a2 100 r4).bind fun h10 =>
    (tm_gR h10 0 1 this).bind fun r11 =>
    (tm_lI h10 0 r11 a1).bind fun v12 =>
    (tm_gR h10 0 1 this).bind fun r13 =>
    (tm_gR h10 0 1 this).bind fun r14 =>
    (tm_lI h10 0 r14 a2).bind fun v15 =>
    (tm_wI h10 0 r13 a1 v15).bind fun h16 =>
    (tm_gR h16 0 1 this).bind fun r17 =>
    (tm_wI h16 0 r17 a2 v12).bind fun h18 =>
    some h18)))
noncomputable def fX0_total_S0 (this : Nat) (h : tm_H) (st : (Int × Int)) : Option (((Int × Int)) ⊕ (Int)) := match st with
  | (x1, x2) =>
    if x2 < 6 then
    ((tm_gR h 0 1 this).bind fun r1 =>
    (tm_lI h 0 r1 x2).bind fun v2 =>
    some (.inl (((tm_wr (x1 + v2)), (tm_wr (x2 + 1))))))
    else
    (some (.inr x1))
noncomputable def fX0_total_L4 (this : Nat) (h : tm_H) (x1 : Int) (x2 : Int) : Option (Int) := tm_wl (fX0_total_S0 this h) ((x1, x2))
theorem fX0_total_L4_eq (this : Nat) (h : tm_H) (x1 : Int) (x2 : Int) : fX0_total_L4 this h x1 x2 =
    if x2 < 6 then
    ((tm_gR h 0 1 this).bind fun r3 =>
    (tm_lI h 0 r3 x2).bind fun v4 =>
    fX0_total_L4 this h (tm_wr (x1 + v4)) (tm_wr (x2 + 1)))
    else
    (some x1) := by
  unfold fX0_total_L4
  rw [tm_wl_eq]
  simp only [fX0_total_S0, tm_go_ite, tm_go_bind, tm_go_inl, tm_go_inr, tm_go_out, tm_go_th]
  try rfl
noncomputable def fX0_total (this : Nat) (h : tm_H) : Option (Int) :=
  tm_th h 0 this (
    fX0_total_L4 this h 0 0)
noncomputable def fX0_copyFrom_S0 (this : Nat) (a1 : Nat) (st : (Int × tm_H)) : Option (((Int × tm_H)) ⊕ (tm_H)) := match st with
  | (x2, h) =>
    if x2 < 6 then
    ((tm_gR h 0 0 a1).bind fun r1 =>
    (tm_lR h 5 r1 x2).bind fun r2 =>
    (tm_gR h 0 0 this).bind fun r3 =>
    (tm_lR h 5 r3 x2).bind fun r4 =>
    (tm_cpI h 0 r2 0 r4 0 40).bind fun h5 =>
    some (.inl (((tm_wr (x2 + 1)), h5))))
    else
    ((tm_gR h 0 1 a1).bind fun r6 =>
    (tm_gR h 0 1 this).bind fun r7 =>
    (tm_cpI h 0 r6 0 r7 0 6).bind fun h8 =>
    some (.inr h8))
noncomputable def fX0_copyFrom_L2 (this : Nat) (a1 : Nat) (x2 : Int) (h : tm_H) : Option (tm_H) := tm_wl (fX0_copyFrom_S0 this a1) ((x2, h))
theorem fX0_copyFrom_L2_eq (this : Nat) (a1 : Nat) (x2 : Int) (h : tm_H) : fX0_copyFrom_L2 this a1 x2 h =
    if x2 < 6 then
    ((tm_gR h 0 0 a1).bind fun r9 =>
    (tm_lR h 5 r9 x2).bind fun r10 =>
    (tm_gR h 0 0 this).bind fun r11 =>
    (tm_lR h 5 r11 x2).bind fun r12 =>
    (tm_cpI h 0 r10 0 r12 0 40).bind fun h13 =>
    fX0_copyFrom_L2 this a1 (tm_wr (x2 + 1)) h13)
    else
    ((tm_gR h 0 1 a1).bind fun r14 =>
    (tm_gR h 0 1 this).bind fun r15 =>
    (tm_cpI h 0 r14 0 r15 0 6).bind fun h16 =>
    some h16) := by
  unfold fX0_copyFrom_L2
  rw [tm_wl_eq]
  simp only [fX0_copyFrom_S0, tm_go_ite, tm_go_bind, tm_go_inl, tm_go_inr, tm_go_out, tm_go_th]
  try rfl
noncomputable def fX0_copyFrom (this : Nat) (a1 : Nat) (h : tm_H) : Option (tm_H) :=
  tm_th h 0 this (
    fX0_copyFrom_L2 this a1 0 h)
noncomputable def fX7_add (this : Nat) (a1 : Int64) (h : tm_H) : Option (Int × tm_H) :=
  tm_th h 7 this (
    (tm_gI h 7 2 this).bind fun v1 =>
    if v1 < 60 then
    ((tm_gR h 7 0 this).bind fun r2 =>
    (tm_gI h 7 2 this).bind fun v3 =>
    (tm_wL h 1 r2 v3 a1).bind fun h4 =>
    (tm_gR h4 7 1 this).bind fun r5 =>
    (tm_gI h4 7 2 this).bind fun v6 =>
    (tm_gI h4 7 2 this).bind fun v7 =>
    (tm_wI h4 0 r5 v6 v7).bind fun h8 =>
    (tm_gI h8 7 2 this).bind fun v9 =>
    (tm_sF h8 7 2 this (.inl (tm_wr (v9 + 1)))).bind fun h10 =>
    (tm_gI h10 7 2 this).bind fun v11 =>
    some (tm_wr (v11 - 1), h10))
    else
    (some ((-99), h)))
noncomputable def fX7_init_S0 (this : Nat) (n : Nat) (st : (Int × tm_H)) : Option (((Int × tm_H)) ⊕ (tm_H × Nat)) := match st with
  | (x1, h) =>
    if 122 < x1 then
    (some (.inr (h, n + 2)))
    else
    ((fX7_add this (tm_i2l x1) h).bind fun q6 =>
    some (.inl (((tm_wr (x1 + 1)), q6.2))))
noncomputable def fX7_init_L28 (this : Nat) (n : Nat) (x1 : Int) (h : tm_H) : Option (tm_H × Nat) := tm_wl (fX7_init_S0 this n) ((x1, h))
theorem fX7_init_L28_eq (this : Nat) (n : Nat) (x1 : Int) (h : tm_H) : fX7_init_L28 this n x1 h =
    if 122 < x1 then
    (some (h, n + 2))
    else
    ((fX7_add this (tm_i2l x1) h).bind fun q7 =>
    fX7_init_L28 this n (tm_wr (x1 + 1)) q7.2) := by
  unfold fX7_init_L28
  rw [tm_wl_eq]
  simp only [fX7_init_S0, tm_go_ite, tm_go_bind, tm_go_inl, tm_go_inr, tm_go_out, tm_go_th]
  try rfl
noncomputable def fX7_init (this : Nat) (h : tm_H) (n : Nat) : Option (tm_H × Nat) :=
  tm_th h 7 this (
    (tm_nw h n (.inr (1, 60, .inr (.inl (fun _ => 0))))).bind fun h1 =>
    (tm_sF h1 7 0 this (.inr (some n))).bind fun h2 =>
    (tm_nw h2 (n + 1) (.inr (0, 60, .inl (fun _ => 0)))).bind fun h3 =>
    (tm_sF h3 7 1 this (.inr (some (n + 1)))).bind fun h4 =>
    (tm_sF h4 7 2 this (.inl 0)).bind fun h5 =>
    fX7_init_L28 this n 97 h5)
noncomputable def fX5_init (this : Nat) (h : tm_H) (n : Nat) : Option (tm_H × Nat) :=
  tm_th h 5 this (
    (tm_nm h n 13 4).bind fun h1 =>
    (tm_sF h1 5 0 this (.inr (some n))).bind fun h2 =>
    (tm_nw h2 (n + 14) (.inr (0, 13, .inl (fun _ => 0)))).bind fun h3 =>
    (tm_sF h3 5 1 this (.inr (some (n + 14)))).bind fun h4 =>
    (tm_nw h4 (n + 15) (.inr (2, 13, .inl (fun _ => 0)))).bind fun h5 =>
    (tm_sF h5 5 2 this (.inr (some (n + 15)))).bind fun h6 =>
    (tm_sF h6 5 3 this (.inl 0)).bind fun h7 =>
    some (h7, n + 16))
noncomputable def fX4_init (this : Nat) (h : tm_H) (n : Nat) : Option (tm_H × Nat) :=
  tm_th h 4 this (
    (tm_nw h n (.inl (7, [.inr none, .inr none, .inl 0]))).bind fun h1 =>
    (fX7_init n h1 (n + 1)).bind fun q2 =>
    (tm_sF q2.1 4 0 this (.inr (some n))).bind fun h3 =>
    (tm_nw h3 q2.2 (.inl (0, [.inr none, .inr none]))).bind fun h4 =>
    (fX0_init q2.2 h4 (q2.2 + 1)).bind fun q5 =>
    (tm_sF q5.1 4 1 this (.inr (some q2.2))).bind fun h6 =>
    (tm_nw h6 q5.2 (.inl (5, [.inr none, .inr none, .inr none, .inl 0]))).bind fun h7 =>
    (fX5_init q5.2 h7 (q5.2 + 1)).bind fun q8 =>
    (tm_sF q8.1 4 2 this (.inr (some q5.2))).bind fun h9 =>
    (tm_nw h9 q8.2 (.inr (3, 2, .inr (.inr (fun _ => none))))).bind fun h10 =>
    (tm_sF h10 4 3 this (.inr (some q8.2))).bind fun h11 =>
    (tm_nw h11 (q8.2 + 1) (.inr (2, 2, .inl (fun _ => 0)))).bind fun h12 =>
    (tm_sF h12 4 4 this (.inr (some (q8.2 + 1)))).bind fun h13 =>
    (tm_gR h13 4 3 this).bind fun r14 =>
    (tm_nw h13 (q8.2 + 2) (.inl (0, [.inr none, .inr none]))).bind fun h15 =>
    (fX0_init (q8.2 + 2) h15 (q8.2 + 3)).bind fun q16 =>
    (tm_wR q16.1 3 r14 0 0 (q8.2 + 2)).bind fun h17 =>
    (tm_gR h17 4 3 this).bind fun r18 =>
    (tm_nw h17 q16.2 (.inl (0, [.inr none, .inr none]))).bind fun h19 =>
    (fX0_init q16.2 h19 (q16.2 + 1)).bind fun q20 =>
    (tm_wR q20.1 3 r18 1 0 q16.2).bind fun h21 =>
    some (h21, q20.2))
noncomputable def fX1_init (this : Nat) (h : tm_H) (n : Nat) : Option (tm_H × Nat) :=
  tm_th h 1 this (
    (tm_nw h n (.inr (4, 5, .inr (.inr (fun _ => none))))).bind fun h1 =>
    (tm_sF h1 1 0 this (.inr (some n))).bind fun h2 =>
    (tm_sF h2 1 1 this (.inl 0)).bind fun h3 =>
    (tm_gR h3 1 0 this).bind fun r4 =>
    (tm_nw h3 (n + 1) (.inl (4, [.inr none, .inr none, .inr none, .inr none, .inr none]))).bind fun h5 =>
    (fX4_init (n + 1) h5 (n + 2)).bind fun q6 =>
    (tm_wR q6.1 4 r4 0 4 (n + 1)).bind fun h7 =>
    (tm_gR h7 1 0 this).bind fun r8 =>
    (tm_nw h7 q6.2 (.inl (4, [.inr none, .inr none, .inr none, .inr none, .inr none]))).bind fun h9 =>
    (fX4_init q6.2 h9 (q6.2 + 1)).bind fun q10 =>
    (tm_wR q10.1 4 r8 1 4 q6.2).bind fun h11 =>
    (tm_gR h11 1 0 this).bind fun r12 =>
    (tm_nw h11 q10.2 (.inl (4, [.inr none, .inr none, .inr none, .inr none, .inr none]))).bind fun h13 =>
    (fX4_init q10.2 h13 (q10.2 + 1)).bind fun q14 =>
    (tm_wR q14.1 4 r12 2 4 q10.2).bind fun h15 =>
    (tm_gR h15 1 0 this).bind fun r16 =>
    (tm_nw h15 q14.2 (.inl (4, [.inr none, .inr none, .inr none, .inr none, .inr none]))).bind fun h17 =>
    (fX4_init q14.2 h17 (q14.2 + 1)).bind fun q18 =>
    (tm_wR q18.1 4 r16 3 4 q14.2).bind fun h19 =>
    (tm_gR h19 1 0 this).bind fun r20 =>
    (tm_nw h19 q18.2 (.inl (4, [.inr none, .inr none, .inr none, .inr none, .inr none]))).bind fun h21 =>
    (fX4_init q18.2 h21 (q18.2 + 1)).bind fun q22 =>
    (tm_wR q22.1 4 r20 4 4 q18.2).bind fun h23 =>
    some (h23, q22.2))
noncomputable def fX1_size (this : Nat) (h : tm_H) : Option (Int) :=
  tm_th h 1 this (
    (tm_gI h 1 1 this).bind fun v1 =>
    some v1)
noncomputable def fX1_dropOldest_S0 (this : Nat) (st : (Nat × Int × tm_H)) : Option (((Nat × Int × tm_H)) ⊕ (tm_H)) := match st with
  | (x1, x2, h) =>
    if x2 < 5 then
    ((tm_gR h 1 0 this).bind fun r3 =>
    (tm_gR h 1 0 this).bind fun r4 =>
    (tm_lR h 4 r4 x2).bind fun r5 =>
    (tm_wR h 4 r3 (tm_wr (x2 - 1)) 4 r5).bind fun h6 =>
    some (.inl ((x1, (tm_wr (x2 + 1)), h6))))
    else
    ((tm_gR h 1 0 this).bind fun r7 =>
    (tm_wR h 4 r7 4 4 x1).bind fun h8 =>
    (tm_gI h8 1 1 this).bind fun v9 =>
    (tm_sF h8 1 1 this (.inl (tm_wr (v9 - 1)))).bind fun h10 =>
    some (.inr h10))
noncomputable def fX1_dropOldest_L9 (this : Nat) (x1 : Nat) (x2 : Int) (h : tm_H) : Option (tm_H) := tm_wl (fX1_dropOldest_S0 this) ((x1, x2, h))
theorem fX1_dropOldest_L9_eq (this : Nat) (x1 : Nat) (x2 : Int) (h : tm_H) : fX1_dropOldest_L9 this x1 x2 h =
    if x2 < 5 then
    ((tm_gR h 1 0 this).bind fun r11 =>
    (tm_gR h 1 0 this).bind fun r12 =>
    (tm_lR h 4 r12 x2).bind fun r13 =>
    (tm_wR h 4 r11 (tm_wr (x2 - 1)) 4 r13).bind fun h14 =>
    fX1_dropOldest_L9 this x1 (tm_wr (x2 + 1)) h14)
    else
    ((tm_gR h 1 0 this).bind fun r15 =>
    (tm_wR h 4 r15 4 4 x1).bind fun h16 =>
    (tm_gI h16 1 1 this).bind fun v17 =>
    (tm_sF h16 1 1 this (.inl (tm_wr (v17 - 1)))).bind fun h18 =>
    some h18) := by
  unfold fX1_dropOldest_L9
  rw [tm_wl_eq]
  simp only [fX1_dropOldest_S0, tm_go_ite, tm_go_bind, tm_go_inl, tm_go_inr, tm_go_out, tm_go_th]
  try rfl
noncomputable def fX1_dropOldest (this : Nat) (h : tm_H) : Option (tm_H) :=
  tm_th h 1 this (
    (tm_gR h 1 0 this).bind fun r1 =>
    (tm_lR h 4 r1 0).bind fun r2 =>
    fX1_dropOldest_L9 this r2 1 h)
noncomputable def fX7_copyFrom (this : Nat) (a1 : Nat) (h : tm_H) : Option (tm_H) :=
  tm_th h 7 this (
    (tm_gR h 7 0 a1).bind fun r1 =>
    (tm_gR h 7 0 this).bind fun r2 =>
    (tm_cpL h 1 r1 0 r2 0 60).bind fun h3 =>
    (tm_gR h3 7 1 a1).bind fun r4 =>
    (tm_gR h3 7 1 this).bind fun r5 =>
    (tm_cpI h3 0 r4 0 r5 0 60).bind fun h6 =>
    (tm_gI h6 7 2 a1).bind fun v7 =>
    (tm_sF h6 7 2 this (.inl v7)).bind fun h8 =>
    some h8)
noncomputable def fX5_copyFrom_S0 (this : Nat) (a1 : Nat) (st : (Int × tm_H)) : Option (((Int × tm_H)) ⊕ (tm_H)) := match st with
  | (x2, h) =>
    if x2 < 13 then
    ((tm_gR h 5 0 a1).bind fun r1 =>
    (tm_lR h 5 r1 x2).bind fun r2 =>
    (tm_gR h 5 0 this).bind fun r3 =>
    (tm_lR h 5 r3 x2).bind fun r4 =>
    (tm_cpI h 0 r2 0 r4 0 4).bind fun h5 =>
    (tm_gR h5 5 1 this).bind fun r6 =>
    (tm_gR h5 5 1 a1).bind fun r7 =>
    (tm_lI h5 0 r7 x2).bind fun v8 =>
    (tm_wI h5 0 r6 x2 v8).bind fun h9 =>
    (tm_gR h9 5 2 this).bind fun r10 =>
    (tm_gR h9 5 2 a1).bind fun r11 =>
    (tm_lI h9 2 r11 x2).bind fun v12 =>
    (tm_wZ h9 2 r10 x2 v12).bind fun h13 =>
    some (.inl (((tm_wr (x2 + 1)), h13))))
    else
    ((tm_gI h 5 3 a1).bind fun v14 =>
    (tm_sF h 5 3 this (.inl v14)).bind fun h15 =>
    some (.inr h15))
noncomputable def fX5_copyFrom_L2 (this : Nat) (a1 : Nat) (x2 : Int) (h : tm_H) : Option (tm_H) := tm_wl (fX5_copyFrom_S0 this a1) ((x2, h))
theorem fX5_copyFrom_L2_eq (this : Nat) (a1 : Nat) (x2 : Int) (h : tm_H) : fX5_copyFrom_L2 this a1 x2 h =
    if x2 < 13 then
    ((tm_gR h 5 0 a1).bind fun r16 =>
    (tm_lR h 5 r16 x2).bind fun r17 =>
    (tm_gR h 5 0 this).bind fun r18 =>
    (tm_lR h 5 r18 x2).bind fun r19 =>
    (tm_cpI h 0 r17 0 r19 0 4).bind fun h20 =>
    (tm_gR h20 5 1 this).bind fun r21 =>
    (tm_gR h20 5 1 a1).bind fun r22 =>
    (tm_lI h20 0 r22 x2).bind fun v23 =>
    (tm_wI h20 0 r21 x2 v23).bind fun h24 =>
    (tm_gR h24 5 2 this).bind fun r25 =>
    (tm_gR h24 5 2 a1).bind fun r26 =>
    (tm_lI h24 2 r26 x2).bind fun v27 =>
    (tm_wZ h24 2 r25 x2 v27).bind fun h28 =>
    fX5_copyFrom_L2 this a1 (tm_wr (x2 + 1)) h28)
    else
    ((tm_gI h 5 3 a1).bind fun v29 =>
    (tm_sF h 5 3 this (.inl v29)).bind fun h30 =>
    some h30) := by
  unfold fX5_copyFrom_L2
  rw [tm_wl_eq]
  simp only [fX5_copyFrom_S0, tm_go_ite, tm_go_bind, tm_go_inl, tm_go_inr, tm_go_out, tm_go_th]
  try rfl
noncomputable def fX5_copyFrom (this : Nat) (a1 : Nat) (h : tm_H) : Option (tm_H) :=
  tm_th h 5 this (
    fX5_copyFrom_L2 this a1 0 h)
noncomputable def fX4_copyFrom_S0 (this : Nat) (a1 : Nat) (st : (Int × tm_H)) : Option (((Int × tm_H)) ⊕ (tm_H)) := match st with
  | (x2, h) =>
    if x2 < 2 then
    ((tm_gR h 4 3 this).bind fun r10 =>
    (tm_lR h 3 r10 x2).bind fun r11 =>
    (tm_gR h 4 3 a1).bind fun r12 =>
    (tm_lR h 3 r12 x2).bind fun r13 =>
    (fX0_copyFrom r11 r13 h).bind fun h14 =>
    (tm_gR h14 4 4 this).bind fun r15 =>
    (tm_gR h14 4 4 a1).bind fun r16 =>
    (tm_lI h14 2 r16 x2).bind fun v17 =>
    (tm_wZ h14 2 r15 x2 v17).bind fun h18 =>
    some (.inl (((tm_wr (x2 + 1)), h18))))
    else
    (some (.inr h))
noncomputable def fX4_copyFrom_L35 (this : Nat) (a1 : Nat) (x2 : Int) (h : tm_H) : Option (tm_H) := tm_wl (fX4_copyFrom_S0 this a1) ((x2, h))
theorem fX4_copyFrom_L35_eq (this : Nat) (a1 : Nat) (x2 : Int) (h : tm_H) : fX4_copyFrom_L35 this a1 x2 h =
    if x2 < 2 then
    ((tm_gR h 4 3 this).bind fun r19 =>
    (tm_lR h 3 r19 x2).bind fun r20 =>
    (tm_gR h 4 3 a1).bind fun r21 =>
    (tm_lR h 3 r21 x2).bind fun r22 =>
    (fX0_copyFrom r20 r22 h).bind fun h23 =>
    (tm_gR h23 4 4 this).bind fun r24 =>
    (tm_gR h23 4 4 a1).bind fun r25 =>
    (tm_lI h23 2 r25 x2).bind fun v26 =>
    (tm_wZ h23 2 r24 x2 v26).bind fun h27 =>
    fX4_copyFrom_L35 this a1 (tm_wr (x2 + 1)) h27)
    else
    (some h) := by
  unfold fX4_copyFrom_L35
  rw [tm_wl_eq]
  simp only [fX4_copyFrom_S0, tm_go_ite, tm_go_bind, tm_go_inl, tm_go_inr, tm_go_out, tm_go_th]
  try rfl
noncomputable def fX4_copyFrom (this : Nat) (a1 : Nat) (h : tm_H) : Option (tm_H) :=
  tm_th h 4 this (
    (tm_gR h 4 0 this).bind fun r1 =>
    (tm_gR h 4 0 a1).bind fun r2 =>
    (fX7_copyFrom r1 r2 h).bind fun h3 =>
    (tm_gR h3 4 1 this).bind fun r4 =>
    (tm_gR h3 4 1 a1).bind fun r5 =>
    (fX0_copyFrom r4 r5 h3).bind fun h6 =>
    (tm_gR h6 4 2 this).bind fun r7 =>
    (tm_gR h6 4 2 a1).bind fun r8 =>
    (fX5_copyFrom r7 r8 h6).bind fun h9 =>
    fX4_copyFrom_L35 this a1 0 h9)
noncomputable def fX1_keep_L12 (this : Nat) (a1 : Nat)  (h : tm_H) : Option (tm_H) :=
  (tm_gR h 1 0 this).bind fun r3 =>
  (tm_gI h 1 1 this).bind fun v4 =>
  (tm_lR h 4 r3 v4).bind fun r5 =>
  (fX4_copyFrom r5 a1 h).bind fun h6 =>
  (tm_gI h6 1 1 this).bind fun v7 =>
  (tm_sF h6 1 1 this (.inl (tm_wr (v7 + 1)))).bind fun h8 =>
  some h8
noncomputable def fX1_keep (this : Nat) (a1 : Nat) (h : tm_H) : Option (tm_H) :=
  tm_th h 1 this (
    (tm_gI h 1 1 this).bind fun v1 =>
    if v1 < 5 then
    (fX1_keep_L12 this a1 h)
    else
    ((fX1_dropOldest this h).bind fun h2 =>
    fX1_keep_L12 this a1 h2))
noncomputable def fX1_giveBack (this : Nat) (a1 : Nat) (h : tm_H) : Option (tm_H) :=
  tm_th h 1 this (
    (tm_gI h 1 1 this).bind fun v1 =>
    if 0 < v1 then
    ((tm_gI h 1 1 this).bind fun v2 =>
    (tm_sF h 1 1 this (.inl (tm_wr (v2 - 1)))).bind fun h3 =>
    (tm_gR h3 1 0 this).bind fun r4 =>
    (tm_gI h3 1 1 this).bind fun v5 =>
    (tm_lR h3 4 r4 v5).bind fun r6 =>
    (fX4_copyFrom a1 r6 h3).bind fun h7 =>
    some h7)
    else
    (some h))
noncomputable def fX6_init (this : Nat) (h : tm_H) (n : Nat) : Option (tm_H × Nat) :=
  tm_th h 6 this (
    (tm_nw h n (.inr (0, 140, .inl (fun _ => 0)))).bind fun h1 =>
    (tm_sF h1 6 0 this (.inr (some n))).bind fun h2 =>
    (tm_sF h2 6 1 this (.inl 0)).bind fun h3 =>
    some (h3, n + 1))
noncomputable def fX2_init (this : Nat) (h : tm_H) (n : Nat) : Option (tm_H × Nat) :=
  tm_th h 2 this (
    (tm_nw h n (.inl (6, [.inr none, .inl 0]))).bind fun h1 =>
    (fX6_init n h1 (n + 1)).bind fun q2 =>
    (tm_sF q2.1 2 0 this (.inr (some n))).bind fun h3 =>
    (tm_nw h3 q2.2 (.inl (4, [.inr none, .inr none, .inr none, .inr none, .inr none]))).bind fun h4 =>
    (fX4_init q2.2 h4 (q2.2 + 1)).bind fun q5 =>
    (tm_sF q5.1 2 1 this (.inr (some q2.2))).bind fun h6 =>
    (tm_nw h6 q5.2 (.inr (0, 4, .inl (fun _ => 0)))).bind fun h7 =>
    (tm_sF h7 2 2 this (.inr (some q5.2))).bind fun h8 =>
    (tm_sF h8 2 3 this (.inl 0)).bind fun h9 =>
    (tm_sF h9 2 4 this (.inl 0)).bind fun h10 =>
    some (h10, q5.2 + 1))
noncomputable def fX3_init (this : Nat) (h : tm_H) (n : Nat) : Option (tm_H × Nat) :=
  tm_th h 3 this (
    (tm_nm h n 6 40).bind fun h1 =>
    (tm_sF h1 3 0 this (.inr (some n))).bind fun h2 =>
    (tm_nm h2 (n + 7) 6 40).bind fun h3 =>
    (tm_sF h3 3 1 this (.inr (some (n + 7)))).bind fun h4 =>
    (tm_nm h4 (n + 14) 13 6).bind fun h5 =>
    (tm_sF h5 3 2 this (.inr (some (n + 14)))).bind fun h6 =>
    (tm_nw h6 (n + 28) (.inr (0, 13, .inl (fun _ => 0)))).bind fun h7 =>
    (tm_sF h7 3 3 this (.inr (some (n + 28)))).bind fun h8 =>
    (tm_nw h8 (n + 29) (.inr (0, 78, .inl (fun _ => 0)))).bind fun h9 =>
    (tm_sF h9 3 4 this (.inr (some (n + 29)))).bind fun h10 =>
    (tm_nw h10 (n + 30) (.inr (0, 78, .inl (fun _ => 0)))).bind fun h11 =>
    (tm_sF h11 3 5 this (.inr (some (n + 30)))).bind fun h12 =>
    (tm_nw h12 (n + 31) (.inr (0, 78, .inl (fun _ => 0)))).bind fun h13 =>
    (tm_sF h13 3 6 this (.inr (some (n + 31)))).bind fun h14 =>
    (tm_sF h14 3 7 this (.inl 0)).bind fun h15 =>
    (tm_sF h15 3 8 this (.inl 0)).bind fun h16 =>
    some (h16, n + 32))
noncomputable def fX3_forget_S0 (this : Nat) (st : (Int × tm_H) ⊕ (Int × Int × tm_H)) : Option (((Int × tm_H) ⊕ (Int × Int × tm_H)) ⊕ (tm_H)) := match st with
  | .inl ((x1, h)) =>
    if x1 < 13 then
    ((tm_gR h 3 3 this).bind fun r1 =>
    (tm_wI h 0 r1 x1 0).bind fun h2 =>
    some (.inl (.inr ((x1, 0, h2)))))
    else
    ((tm_sF h 3 7 this (.inl 0)).bind fun h3 =>
    (tm_sF h3 3 8 this (.inl 0)).bind fun h4 =>
    some (.inr h4))
  | .inr ((x1, x2, h)) =>
    if x2 < 6 then
    ((tm_gR h 3 2 this).bind fun r5 =>
    (tm_lR h 5 r5 x1).bind fun r6 =>
    (tm_wI h 0 r6 x2 ((-99))).bind fun h7 =>
    some (.inl (.inr ((x1, (tm_wr (x2 + 1)), h7)))))
    else
    (some (.inl (.inl (((tm_wr (x1 + 1)), h)))))
noncomputable def fX3_forget_L2 (this : Nat) (x1 : Int) (h : tm_H) : Option (tm_H) := tm_wl (fX3_forget_S0 this) (.inl ((x1, h)))
noncomputable def fX3_forget_L17 (this : Nat) (x1 : Int) (x2 : Int) (h : tm_H) : Option (tm_H) := tm_wl (fX3_forget_S0 this) (.inr ((x1, x2, h)))
theorem fX3_forget_L2_eq (this : Nat) (x1 : Int) (h : tm_H) : fX3_forget_L2 this x1 h =
    if x1 < 13 then
    ((tm_gR h 3 3 this).bind fun r8 =>
    (tm_wI h 0 r8 x1 0).bind fun h9 =>
    fX3_forget_L17 this x1 0 h9)
    else
    ((tm_sF h 3 7 this (.inl 0)).bind fun h10 =>
    (tm_sF h10 3 8 this (.inl 0)).bind fun h11 =>
    some h11) := by
  unfold fX3_forget_L2
  rw [tm_wl_eq]
  simp only [fX3_forget_S0, tm_go_ite, tm_go_bind, tm_go_inl, tm_go_inr, tm_go_out, tm_go_th]
  try rfl
theorem fX3_forget_L17_eq (this : Nat) (x1 : Int) (x2 : Int) (h : tm_H) : fX3_forget_L17 this x1 x2 h =
    if x2 < 6 then
    ((tm_gR h 3 2 this).bind fun r12 =>
    (tm_lR h 5 r12 x1).bind fun r13 =>
    (tm_wI h 0 r13 x2 ((-99))).bind fun h14 =>
    fX3_forget_L17 this x1 (tm_wr (x2 + 1)) h14)
    else
    (fX3_forget_L2 this (tm_wr (x1 + 1)) h) := by
  unfold fX3_forget_L17
  rw [tm_wl_eq]
  simp only [fX3_forget_S0, tm_go_ite, tm_go_bind, tm_go_inl, tm_go_inr, tm_go_out, tm_go_th]
  try rfl
noncomputable def fX3_forget (this : Nat) (h : tm_H) : Option (tm_H) :=
  tm_th h 3 this (
    fX3_forget_L2 this 0 h)
noncomputable def fX5_size (this : Nat) (h : tm_H) : Option (Int) :=
  tm_th h 5 this (
    (tm_gI h 5 3 this).bind fun v1 =>
    some v1)
noncomputable def fX5_lengthOf (this : Nat) (a1 : Int) (h : tm_H) : Option (Int) :=
  tm_th h 5 this (
    if a1 < 0 then
    (some 0)
    else
    ((tm_gI h 5 3 this).bind fun v1 =>
    if a1 < v1 then
    ((tm_gR h 5 1 this).bind fun r2 =>
    (tm_lI h 0 r2 a1).bind fun v3 =>
    some v3)
    else
    (some 0)))
noncomputable def fX5_wordAt (this : Nat) (a1 : Int) (a2 : Int) (h : tm_H) : Option (Int) :=
  tm_th h 5 this (
    if a1 < 0 then
    (some ((-99)))
    else
    ((tm_gI h 5 3 this).bind fun v1 =>
    if a1 < v1 then
    (if a2 < 0 then
    (some ((-99)))
    else
    ((tm_gR h 5 1 this).bind fun r2 =>
    (tm_lI h 0 r2 a1).bind fun v3 =>
    if a2 < v3 then
    ((tm_gR h 5 0 this).bind fun r4 =>
    (tm_lR h 5 r4 a1).bind fun r5 =>
    (tm_lI h 0 r5 a2).bind fun v6 =>
    some v6)
    else
    (some ((-99)))))
    else
    (some ((-99)))))
noncomputable def fX7_baseOf (this : Nat) (a1 : Int) (h : tm_H) : Option (Int) :=
  tm_th h 7 this (
    if a1 < 0 then
    (some ((-99)))
    else
    ((tm_gI h 7 2 this).bind fun v1 =>
    if a1 < v1 then
    ((tm_gR h 7 1 this).bind fun r2 =>
    (tm_lI h 0 r2 a1).bind fun v3 =>
    some v3)
    else
    (some ((-99)))))
noncomputable def fX4_occursAt_S0 (this : Nat) (a1 : Int) (a2 : Int) (a3 : Int) (h : tm_H) (st : (Int × Int)) : Option (((Int × Int)) ⊕ (Int)) := match st with
  | (x4, x5) =>
    if x5 < x4 then
    ((tm_gR h 4 0 this).bind fun r5 =>
    (tm_gR h 4 2 this).bind fun r6 =>
    (fX5_wordAt r6 a1 x5 h).bind fun v7 =>
    (fX7_baseOf r5 v7 h).bind fun v8 =>
    (tm_gR h 4 0 this).bind fun r9 =>
    (tm_gR h 4 1 this).bind fun r10 =>
    (fX0_wordAt r10 a2 (tm_wr (a3 + x5)) h).bind fun v11 =>
    (fX7_baseOf r9 v11 h).bind fun v12 =>
    if v8 = v12 then
    (some (.inl ((x4, (tm_wr (x5 + 1))))))
    else
    (some (.inr 0)))
    else
    (some (.inr 1))
noncomputable def fX4_occursAt_L39 (this : Nat) (a1 : Int) (a2 : Int) (a3 : Int) (h : tm_H) (x4 : Int) (x5 : Int) : Option (Int) := tm_wl (fX4_occursAt_S0 this a1 a2 a3 h) ((x4, x5))
theorem fX4_occursAt_L39_eq (this : Nat) (a1 : Int) (a2 : Int) (a3 : Int) (h : tm_H) (x4 : Int) (x5 : Int) : fX4_occursAt_L39 this a1 a2 a3 h x4 x5 =
    if x5 < x4 then
    ((tm_gR h 4 0 this).bind fun r13 =>
    (tm_gR h 4 2 this).bind fun r14 =>
    (fX5_wordAt r14 a1 x5 h).bind fun v15 =>
    (fX7_baseOf r13 v15 h).bind fun v16 =>
    (tm_gR h 4 0 this).bind fun r17 =>
    (tm_gR h 4 1 this).bind fun r18 =>
    (fX0_wordAt r18 a2 (tm_wr (a3 + x5)) h).bind fun v19 =>
    (fX7_baseOf r17 v19 h).bind fun v20 =>
    if v16 = v20 then
    (fX4_occursAt_L39 this a1 a2 a3 h x4 (tm_wr (x5 + 1)))
    else
    (some 0))
    else
    (some 1) := by
  unfold fX4_occursAt_L39
  rw [tm_wl_eq]
  simp only [fX4_occursAt_S0, tm_go_ite, tm_go_bind, tm_go_inl, tm_go_inr, tm_go_out, tm_go_th]
  try rfl
noncomputable def fX4_occursAt (this : Nat) (a1 : Int) (a2 : Int) (a3 : Int) (h : tm_H) : Option (Int) :=
  tm_th h 4 this (
    (tm_gR h 4 2 this).bind fun r1 =>
    (fX5_lengthOf r1 a1 h).bind fun v2 =>
    if v2 = 0 then
    (some 0)
    else
    (if a3 < 0 then
    (some 0)
    else
    ((tm_gR h 4 1 this).bind fun r3 =>
    (fX0_lengthOf r3 a2 h).bind fun v4 =>
    if (tm_wr (v4 - v2)) < a3 then
    (some 0)
    else
    (fX4_occursAt_L39 this a1 a2 a3 h v2 0))))
noncomputable def fX4_longestAt_S0 (this : Nat) (a1 : Int) (a2 : Int) (h : tm_H) (st : (Int × Int) ⊕ (Int × Int)) : Option (((Int × Int) ⊕ (Int × Int)) ⊕ (Int)) := match st with
  | .inl ((x3, x4)) =>
    (tm_gR h 4 2 this).bind fun r1 =>
    (fX5_size r1 h).bind fun v2 =>
    if x4 < v2 then
    ((tm_gR h 4 2 this).bind fun r3 =>
    (fX5_lengthOf r3 x4 h).bind fun v4 =>
    (tm_gR h 4 2 this).bind fun r5 =>
    (fX5_lengthOf r5 x3 h).bind fun v6 =>
    if v6 < v4 then
    ((fX4_occursAt this x4 a1 a2 h).bind fun v7 =>
    if v7 = 0 then
    (some (.inl (.inr ((x3, x4)))))
    else
    (some (.inl (.inr ((x4, x4))))))
    else
    (some (.inl (.inr ((x3, x4))))))
    else
    (some (.inr x3))
  | .inr ((x3, x4)) =>
    some (.inl (.inl ((x3, (tm_wr (x4 + 1))))))
noncomputable def fX4_longestAt_L6 (this : Nat) (a1 : Int) (a2 : Int) (h : tm_H) (x3 : Int) (x4 : Int) : Option (Int) := tm_wl (fX4_longestAt_S0 this a1 a2 h) (.inl ((x3, x4)))
noncomputable def fX4_longestAt_L52 (this : Nat) (a1 : Int) (a2 : Int) (h : tm_H) (x3 : Int) (x4 : Int) : Option (Int) := tm_wl (fX4_longestAt_S0 this a1 a2 h) (.inr ((x3, x4)))
theorem fX4_longestAt_L6_eq (this : Nat) (a1 : Int) (a2 : Int) (h : tm_H) (x3 : Int) (x4 : Int) : fX4_longestAt_L6 this a1 a2 h x3 x4 =
    (tm_gR h 4 2 this).bind fun r8 =>
    (fX5_size r8 h).bind fun v9 =>
    if x4 < v9 then
    ((tm_gR h 4 2 this).bind fun r10 =>
    (fX5_lengthOf r10 x4 h).bind fun v11 =>
    (tm_gR h 4 2 this).bind fun r12 =>
    (fX5_lengthOf r12 x3 h).bind fun v13 =>
    if v13 < v11 then
    ((fX4_occursAt this x4 a1 a2 h).bind fun v14 =>
    if v14 = 0 then
    (fX4_longestAt_L52 this a1 a2 h x3 x4)
    else
    (fX4_longestAt_L52 this a1 a2 h x4 x4))
    else
    (fX4_longestAt_L52 this a1 a2 h x3 x4))
    else
    (some x3) := by
  unfold fX4_longestAt_L6
  rw [tm_wl_eq]
  simp only [fX4_longestAt_S0, tm_go_ite, tm_go_bind, tm_go_inl, tm_go_inr, tm_go_out, tm_go_th]
  try rfl
theorem fX4_longestAt_L52_eq (this : Nat) (a1 : Int) (a2 : Int) (h : tm_H) (x3 : Int) (x4 : Int) : fX4_longestAt_L52 this a1 a2 h x3 x4 =
    fX4_longestAt_L6 this a1 a2 h x3 (tm_wr (x4 + 1)) := by
  unfold fX4_longestAt_L52
  rw [tm_wl_eq]
  simp only [fX4_longestAt_S0, tm_go_ite, tm_go_bind, tm_go_inl, tm_go_inr, tm_go_out, tm_go_th]
  try rfl
noncomputable def fX4_longestAt (this : Nat) (a1 : Int) (a2 : Int) (h : tm_H) : Option (Int) :=
  tm_th h 4 this (
    fX4_longestAt_L6 this a1 a2 h ((-99)) 0)
noncomputable def fX5_has (this : Nat) (a1 : Int) (h : tm_H) : Option (Int) :=
  tm_th h 5 this (
    if a1 < 0 then
    (some 0)
    else
    ((tm_gI h 5 3 this).bind fun v1 =>
    if a1 < v1 then
    (some 1)
    else
    (some 0)))
noncomputable def fX5_isQuiet (this : Nat) (a1 : Int) (h : tm_H) : Option (Int) :=
  tm_th h 5 this (
    (fX5_has this a1 h).bind fun v1 =>
    if v1 = 0 then
    (some 0)
    else
    ((tm_gR h 5 2 this).bind fun r2 =>
    (tm_lI h 2 r2 a1).bind fun v3 =>
    if v3 = 0 then
    (some 0)
    else
    (some 1)))
noncomputable def fX3_note (this : Nat) (a1 : Nat) (a2 : Int) (a3 : Int) (a4 : Int) (h : tm_H) : Option (tm_H) :=
  tm_th h 3 this (
    (tm_gR h 4 2 a1).bind fun r1 =>
    (fX5_has r1 a2 h).bind fun v2 =>
    if v2 = 0 then
    (some h)
    else
    ((tm_gR h 3 3 this).bind fun r3 =>
    (tm_lI h 0 r3 a2).bind fun v4 =>
    (tm_wI h 0 r3 a2 (tm_wr (v4 + 1))).bind fun h5 =>
    (tm_gI h5 3 8 this).bind fun v6 =>
    (tm_sF h5 3 8 this (.inl (tm_wr (v6 + 1)))).bind fun h7 =>
    (tm_gR h7 3 2 this).bind fun r8 =>
    (tm_lR h7 5 r8 a2).bind fun r9 =>
    (tm_lI h7 0 r9 a3).bind fun v10 =>
    if v10 = ((-99)) then
    ((tm_gR h7 3 2 this).bind fun r11 =>
    (tm_lR h7 5 r11 a2).bind fun r12 =>
    (tm_wI h7 0 r12 a3 a4).bind fun h13 =>
    (tm_gR h13 4 2 a1).bind fun r14 =>
    (fX5_isQuiet r14 a2 h13).bind fun v15 =>
    if v15 = 0 then
    ((tm_gI h13 3 7 this).bind fun v16 =>
    if v16 < 78 then
    ((tm_gR h13 3 4 this).bind fun r17 =>
    (tm_gI h13 3 7 this).bind fun v18 =>
    (tm_wI h13 0 r17 v18 a3).bind fun h19 =>
    (tm_gR h19 3 5 this).bind fun r20 =>
    (tm_gI h19 3 7 this).bind fun v21 =>
    (tm_wI h19 0 r20 v21 a4).bind fun h22 =>
    (tm_gR h22 3 6 this).bind fun r23 =>
    (tm_gI h22 3 7 this).bind fun v24 =>
    (tm_wI h22 0 r23 v24 a2).bind fun h25 =>
    (tm_gI h25 3 7 this).bind fun v26 =>
    (tm_sF h25 3 7 this (.inl (tm_wr (v26 + 1)))).bind fun h27 =>
    some h27)
    else
    (some h13))
    else
    (some h13))
    else
    (some h7)))
noncomputable def fX3_readChapter_S0 (this : Nat) (a1 : Nat) (a2 : Int) (st : (Int × Int × Int × Int × tm_H) ⊕ (Int × Int × Int × Int × tm_H) ⊕ (Int × Int × Int × Int × Nat × Int × Int × tm_H)) : Option (((Int × Int × Int × Int × tm_H) ⊕ (Int × Int × Int × Int × tm_H) ⊕ (Int × Int × Int × Int × Nat × Int × Int × tm_H)) ⊕ (tm_H)) := match st with
  | .inl ((x3, x4, x5, x6, h)) =>
    (tm_gR h 4 1 a1).bind fun r1 =>
    (fX0_lengthOf r1 a2 h).bind fun v2 =>
    if x6 < v2 then
    (if x6 < x5 then
    (some (.inl (.inr (.inl ((x3, x4, x5, x6, h))))))
    else
    ((fX4_longestAt a1 a2 x6 h).bind fun v3 =>
    (tm_gR h 4 2 a1).bind fun r4 =>
    (fX5_lengthOf r4 v3 h).bind fun v5 =>
    (fX3_note this a1 v3 a2 x6 h).bind fun h6 =>
    some (.inl (.inr (.inl ((v3, x6, (tm_wr (x6 + v5)), x6, h6)))))))
    else
    (some (.inr h))
  | .inr (.inl ((x3, x4, x5, x6, h))) =>
    (tm_gR h 3 0 this).bind fun r7 =>
    (tm_lR h 5 r7 a2).bind fun r8 =>
    (tm_wI h 0 r8 x6 x3).bind fun h9 =>
    (tm_gR h9 3 1 this).bind fun r10 =>
    (tm_lR h9 5 r10 a2).bind fun r11 =>
    if x3 = ((-99)) then
    (some (.inl (.inr (.inr ((x3, x4, x5, x6, r11, x6, ((-99)), h9))))))
    else
    (some (.inl (.inr (.inr ((x3, x4, x5, x6, r11, x6, (tm_wr (x6 - x4)), h9))))))
  | .inr (.inr ((x3, x4, x5, x6, s0, s1, s2, h))) =>
    (tm_wI h 0 s0 s1 s2).bind fun h12 =>
    some (.inl (.inl ((x3, x4, x5, (tm_wr (x6 + 1)), h12))))
noncomputable def fX3_readChapter_L12 (this : Nat) (a1 : Nat) (a2 : Int) (x3 : Int) (x4 : Int) (x5 : Int) (x6 : Int) (h : tm_H) : Option (tm_H) := tm_wl (fX3_readChapter_S0 this a1 a2) (.inl ((x3, x4, x5, x6, h)))
noncomputable def fX3_readChapter_L66 (this : Nat) (a1 : Nat) (a2 : Int) (x3 : Int) (x4 : Int) (x5 : Int) (x6 : Int) (h : tm_H) : Option (tm_H) := tm_wl (fX3_readChapter_S0 this a1 a2) (.inr (.inl ((x3, x4, x5, x6, h))))
noncomputable def fX3_readChapter_L100 (this : Nat) (a1 : Nat) (a2 : Int) (x3 : Int) (x4 : Int) (x5 : Int) (x6 : Int) (s0 : Nat) (s1 : Int) (s2 : Int) (h : tm_H) : Option (tm_H) := tm_wl (fX3_readChapter_S0 this a1 a2) (.inr (.inr ((x3, x4, x5, x6, s0, s1, s2, h))))
theorem fX3_readChapter_L12_eq (this : Nat) (a1 : Nat) (a2 : Int) (x3 : Int) (x4 : Int) (x5 : Int) (x6 : Int) (h : tm_H) : fX3_readChapter_L12 this a1 a2 x3 x4 x5 x6 h =
    (tm_gR h 4 1 a1).bind fun r13 =>
    (fX0_lengthOf r13 a2 h).bind fun v14 =>
    if x6 < v14 then
    (if x6 < x5 then
    (fX3_readChapter_L66 this a1 a2 x3 x4 x5 x6 h)
    else
    ((fX4_longestAt a1 a2 x6 h).bind fun v15 =>
    (tm_gR h 4 2 a1).bind fun r16 =>
    (fX5_lengthOf r16 v15 h).bind fun v17 =>
    (fX3_note this a1 v15 a2 x6 h).bind fun h18 =>
    fX3_readChapter_L66 this a1 a2 v15 x6 (tm_wr (x6 + v17)) x6 h18))
    else
    (some h) := by
  unfold fX3_readChapter_L12
  rw [tm_wl_eq]
  simp only [fX3_readChapter_S0, tm_go_ite, tm_go_bind, tm_go_inl, tm_go_inr, tm_go_out, tm_go_th]
  try rfl
theorem fX3_readChapter_L66_eq (this : Nat) (a1 : Nat) (a2 : Int) (x3 : Int) (x4 : Int) (x5 : Int) (x6 : Int) (h : tm_H) : fX3_readChapter_L66 this a1 a2 x3 x4 x5 x6 h =
    (tm_gR h 3 0 this).bind fun r19 =>
    (tm_lR h 5 r19 a2).bind fun r20 =>
    (tm_wI h 0 r20 x6 x3).bind fun h21 =>
    (tm_gR h21 3 1 this).bind fun r22 =>
    (tm_lR h21 5 r22 a2).bind fun r23 =>
    if x3 = ((-99)) then
    (fX3_readChapter_L100 this a1 a2 x3 x4 x5 x6 r23 x6 ((-99)) h21)
    else
    (fX3_readChapter_L100 this a1 a2 x3 x4 x5 x6 r23 x6 (tm_wr (x6 - x4)) h21) := by
  unfold fX3_readChapter_L66
  rw [tm_wl_eq]
  simp only [fX3_readChapter_S0, tm_go_ite, tm_go_bind, tm_go_inl, tm_go_inr, tm_go_out, tm_go_th]
  try rfl
theorem fX3_readChapter_L100_eq (this : Nat) (a1 : Nat) (a2 : Int) (x3 : Int) (x4 : Int) (x5 : Int) (x6 : Int) (s0 : Nat) (s1 : Int) (s2 : Int) (h : tm_H) : fX3_readChapter_L100 this a1 a2 x3 x4 x5 x6 s0 s1 s2 h =
    (tm_wI h 0 s0 s1 s2).bind fun h24 =>
    fX3_readChapter_L12 this a1 a2 x3 x4 x5 (tm_wr (x6 + 1)) h24 := by
  unfold fX3_readChapter_L100
  rw [tm_wl_eq]
  simp only [fX3_readChapter_S0, tm_go_ite, tm_go_bind, tm_go_inl, tm_go_inr, tm_go_out, tm_go_th]
  try rfl
noncomputable def fX3_readChapter (this : Nat) (a1 : Nat) (a2 : Int) (h : tm_H) : Option (tm_H) :=
  tm_th h 3 this (
    fX3_readChapter_L12 this a1 a2 ((-99)) 0 0 0 h)
noncomputable def fX3_read_S0 (this : Nat) (a1 : Nat) (st : (Int × tm_H)) : Option (((Int × tm_H)) ⊕ (tm_H)) := match st with
  | (x2, h) =>
    if x2 < 6 then
    ((fX3_readChapter this a1 x2 h).bind fun h2 =>
    some (.inl (((tm_wr (x2 + 1)), h2))))
    else
    (some (.inr h))
noncomputable def fX3_read_L6 (this : Nat) (a1 : Nat) (x2 : Int) (h : tm_H) : Option (tm_H) := tm_wl (fX3_read_S0 this a1) ((x2, h))
theorem fX3_read_L6_eq (this : Nat) (a1 : Nat) (x2 : Int) (h : tm_H) : fX3_read_L6 this a1 x2 h =
    if x2 < 6 then
    ((fX3_readChapter this a1 x2 h).bind fun h3 =>
    fX3_read_L6 this a1 (tm_wr (x2 + 1)) h3)
    else
    (some h) := by
  unfold fX3_read_L6
  rw [tm_wl_eq]
  simp only [fX3_read_S0, tm_go_ite, tm_go_bind, tm_go_inl, tm_go_inr, tm_go_out, tm_go_th]
  try rfl
noncomputable def fX3_read (this : Nat) (a1 : Nat) (h : tm_H) : Option (tm_H) :=
  tm_th h 3 this (
    (fX3_forget this h).bind fun h1 =>
    fX3_read_L6 this a1 0 h1)
noncomputable def fX3_markCount (this : Nat) (h : tm_H) : Option (Int) :=
  tm_th h 3 this (
    (tm_gI h 3 7 this).bind fun v1 =>
    some v1)
noncomputable def fX3_readingCount (this : Nat) (h : tm_H) : Option (Int) :=
  tm_th h 3 this (
    (tm_gI h 3 8 this).bind fun v1 =>
    some v1)
noncomputable def fX3_isInside (a1 : Int) (a2 : Int) (h : tm_H) : Option (Int) :=
  if a1 < 0 then
  (some 0)
  else
  (if a1 < 6 then
  (if a2 < 0 then
  (some 0)
  else
  (if a2 < 40 then
  (some 1)
  else
  (some 0)))
  else
  (some 0))
noncomputable def fX3_termOver (this : Nat) (a1 : Int) (a2 : Int) (h : tm_H) : Option (Int) :=
  tm_th h 3 this (
    (fX3_isInside a1 a2 h).bind fun v1 =>
    if v1 = 0 then
    (some ((-99)))
    else
    ((tm_gR h 3 0 this).bind fun r2 =>
    (tm_lR h 5 r2 a1).bind fun r3 =>
    (tm_lI h 0 r3 a2).bind fun v4 =>
    some v4))
noncomputable def fX3_stepOver (this : Nat) (a1 : Int) (a2 : Int) (h : tm_H) : Option (Int) :=
  tm_th h 3 this (
    (fX3_isInside a1 a2 h).bind fun v1 =>
    if v1 = 0 then
    (some ((-99)))
    else
    ((tm_gR h 3 1 this).bind fun r2 =>
    (tm_lR h 5 r2 a1).bind fun r3 =>
    (tm_lI h 0 r3 a2).bind fun v4 =>
    some v4))
noncomputable def fX3_hasMark_S0 (this : Nat) (a1 : Int) (a2 : Int) (h : tm_H) (st : (Int) ⊕ (Int)) : Option (((Int) ⊕ (Int)) ⊕ (Int)) := match st with
  | .inl ((x3)) =>
    (tm_gI h 3 7 this).bind fun v1 =>
    if x3 < v1 then
    ((tm_gR h 3 4 this).bind fun r2 =>
    (tm_lI h 0 r2 x3).bind fun v3 =>
    if v3 = a1 then
    ((tm_gR h 3 5 this).bind fun r4 =>
    (tm_lI h 0 r4 x3).bind fun v5 =>
    if v5 = a2 then
    (some (.inr 1))
    else
    (some (.inl (.inr ((x3))))))
    else
    (some (.inl (.inr ((x3))))))
    else
    (some (.inr 0))
  | .inr ((x3)) =>
    some (.inl (.inl (((tm_wr (x3 + 1))))))
noncomputable def fX3_hasMark_L2 (this : Nat) (a1 : Int) (a2 : Int) (h : tm_H) (x3 : Int) : Option (Int) := tm_wl (fX3_hasMark_S0 this a1 a2 h) (.inl ((x3)))
noncomputable def fX3_hasMark_L32 (this : Nat) (a1 : Int) (a2 : Int) (h : tm_H) (x3 : Int) : Option (Int) := tm_wl (fX3_hasMark_S0 this a1 a2 h) (.inr ((x3)))
theorem fX3_hasMark_L2_eq (this : Nat) (a1 : Int) (a2 : Int) (h : tm_H) (x3 : Int) : fX3_hasMark_L2 this a1 a2 h x3 =
    (tm_gI h 3 7 this).bind fun v6 =>
    if x3 < v6 then
    ((tm_gR h 3 4 this).bind fun r7 =>
    (tm_lI h 0 r7 x3).bind fun v8 =>
    if v8 = a1 then
    ((tm_gR h 3 5 this).bind fun r9 =>
    (tm_lI h 0 r9 x3).bind fun v10 =>
    if v10 = a2 then
    (some 1)
    else
    (fX3_hasMark_L32 this a1 a2 h x3))
    else
    (fX3_hasMark_L32 this a1 a2 h x3))
    else
    (some 0) := by
  unfold fX3_hasMark_L2
  rw [tm_wl_eq]
  simp only [fX3_hasMark_S0, tm_go_ite, tm_go_bind, tm_go_inl, tm_go_inr, tm_go_out, tm_go_th]
  try rfl
theorem fX3_hasMark_L32_eq (this : Nat) (a1 : Int) (a2 : Int) (h : tm_H) (x3 : Int) : fX3_hasMark_L32 this a1 a2 h x3 =
    fX3_hasMark_L2 this a1 a2 h (tm_wr (x3 + 1)) := by
  unfold fX3_hasMark_L32
  rw [tm_wl_eq]
  simp only [fX3_hasMark_S0, tm_go_ite, tm_go_bind, tm_go_inl, tm_go_inr, tm_go_out, tm_go_th]
  try rfl
noncomputable def fX3_hasMark (this : Nat) (a1 : Int) (a2 : Int) (h : tm_H) : Option (Int) :=
  tm_th h 3 this (
    fX3_hasMark_L2 this a1 a2 h 0)
noncomputable def fX3_timesRead (this : Nat) (a1 : Int) (h : tm_H) : Option (Int) :=
  tm_th h 3 this (
    if a1 < 0 then
    (some 0)
    else
    (if a1 < 13 then
    ((tm_gR h 3 3 this).bind fun r1 =>
    (tm_lI h 0 r1 a1).bind fun v2 =>
    some v2)
    else
    (some 0)))
noncomputable def fX3_firstPlace (this : Nat) (a1 : Int) (a2 : Int) (h : tm_H) : Option (Int) :=
  tm_th h 3 this (
    if a1 < 0 then
    (some ((-99)))
    else
    (if a1 < 13 then
    (if a2 < 0 then
    (some ((-99)))
    else
    (if a2 < 6 then
    ((tm_gR h 3 2 this).bind fun r1 =>
    (tm_lR h 5 r1 a1).bind fun r2 =>
    (tm_lI h 0 r2 a2).bind fun v3 =>
    some v3)
    else
    (some ((-99)))))
    else
    (some ((-99)))))
noncomputable def fX3_marksOf_S0 (this : Nat) (a1 : Int) (h : tm_H) (st : (Int × Int) ⊕ (Int × Int)) : Option (((Int × Int) ⊕ (Int × Int)) ⊕ (Int)) := match st with
  | .inl ((x2, x3)) =>
    (tm_gI h 3 7 this).bind fun v1 =>
    if x3 < v1 then
    ((tm_gR h 3 6 this).bind fun r2 =>
    (tm_lI h 0 r2 x3).bind fun v3 =>
    if v3 = a1 then
    (some (.inl (.inr (((tm_wr (x2 + 1)), x3)))))
    else
    (some (.inl (.inr ((x2, x3))))))
    else
    (some (.inr x2))
  | .inr ((x2, x3)) =>
    some (.inl (.inl ((x2, (tm_wr (x3 + 1))))))
noncomputable def fX3_marksOf_L4 (this : Nat) (a1 : Int) (h : tm_H) (x2 : Int) (x3 : Int) : Option (Int) := tm_wl (fX3_marksOf_S0 this a1 h) (.inl ((x2, x3)))
noncomputable def fX3_marksOf_L25 (this : Nat) (a1 : Int) (h : tm_H) (x2 : Int) (x3 : Int) : Option (Int) := tm_wl (fX3_marksOf_S0 this a1 h) (.inr ((x2, x3)))
theorem fX3_marksOf_L4_eq (this : Nat) (a1 : Int) (h : tm_H) (x2 : Int) (x3 : Int) : fX3_marksOf_L4 this a1 h x2 x3 =
    (tm_gI h 3 7 this).bind fun v4 =>
    if x3 < v4 then
    ((tm_gR h 3 6 this).bind fun r5 =>
    (tm_lI h 0 r5 x3).bind fun v6 =>
    if v6 = a1 then
    (fX3_marksOf_L25 this a1 h (tm_wr (x2 + 1)) x3)
    else
    (fX3_marksOf_L25 this a1 h x2 x3))
    else
    (some x2) := by
  unfold fX3_marksOf_L4
  rw [tm_wl_eq]
  simp only [fX3_marksOf_S0, tm_go_ite, tm_go_bind, tm_go_inl, tm_go_inr, tm_go_out, tm_go_th]
  try rfl
theorem fX3_marksOf_L25_eq (this : Nat) (a1 : Int) (h : tm_H) (x2 : Int) (x3 : Int) : fX3_marksOf_L25 this a1 h x2 x3 =
    fX3_marksOf_L4 this a1 h x2 (tm_wr (x3 + 1)) := by
  unfold fX3_marksOf_L25
  rw [tm_wl_eq]
  simp only [fX3_marksOf_S0, tm_go_ite, tm_go_bind, tm_go_inl, tm_go_inr, tm_go_out, tm_go_th]
  try rfl
noncomputable def fX3_marksOf (this : Nat) (a1 : Int) (h : tm_H) : Option (Int) :=
  tm_th h 3 this (
    fX3_marksOf_L4 this a1 h 0 0)
noncomputable def fX3_markPart (this : Nat) (a1 : Int) (a2 : Int) (h : tm_H) : Option (Int) :=
  tm_th h 3 this (
    if a1 < 0 then
    (some ((-99)))
    else
    ((tm_gI h 3 7 this).bind fun v1 =>
    if a1 < v1 then
    (if a2 = 0 then
    ((tm_gR h 3 4 this).bind fun r2 =>
    (tm_lI h 0 r2 a1).bind fun v3 =>
    some v3)
    else
    (if a2 = 1 then
    ((tm_gR h 3 5 this).bind fun r5 =>
    (tm_lI h 0 r5 a1).bind fun v6 =>
    some v6)
    else
    (if a2 = 2 then
    ((tm_gR h 3 6 this).bind fun r8 =>
    (tm_lI h 0 r8 a1).bind fun v9 =>
    some v9)
    else
    (some ((-99))))))
    else
    (some ((-99)))))
noncomputable def fX4_hasSlot (this : Nat) (a1 : Int) (h : tm_H) : Option (Int) :=
  tm_th h 4 this (
    if a1 < 0 then
    (some 0)
    else
    (if a1 < 2 then
    (some 1)
    else
    (some 0)))
noncomputable def fX4_isTaken (this : Nat) (a1 : Int) (h : tm_H) : Option (Int) :=
  tm_th h 4 this (
    (fX4_hasSlot this a1 h).bind fun v1 =>
    if v1 = 0 then
    (some 0)
    else
    ((tm_gR h 4 4 this).bind fun r2 =>
    (tm_lI h 2 r2 a1).bind fun v3 =>
    if v3 = 0 then
    (some 0)
    else
    (some 1)))
noncomputable def fX4_takenCount_S0 (this : Nat) (h : tm_H) (st : (Int × Int) ⊕ (Int × Int)) : Option (((Int × Int) ⊕ (Int × Int)) ⊕ (Int)) := match st with
  | .inl ((x1, x2)) =>
    if x2 < 2 then
    ((tm_gR h 4 4 this).bind fun r1 =>
    (tm_lI h 2 r1 x2).bind fun v2 =>
    if v2 = 0 then
    (some (.inl (.inr ((x1, x2)))))
    else
    (some (.inl (.inr (((tm_wr (x1 + 1)), x2))))))
    else
    (some (.inr x1))
  | .inr ((x1, x2)) =>
    some (.inl (.inl ((x1, (tm_wr (x2 + 1))))))
noncomputable def fX4_takenCount_L4 (this : Nat) (h : tm_H) (x1 : Int) (x2 : Int) : Option (Int) := tm_wl (fX4_takenCount_S0 this h) (.inl ((x1, x2)))
noncomputable def fX4_takenCount_L21 (this : Nat) (h : tm_H) (x1 : Int) (x2 : Int) : Option (Int) := tm_wl (fX4_takenCount_S0 this h) (.inr ((x1, x2)))
theorem fX4_takenCount_L4_eq (this : Nat) (h : tm_H) (x1 : Int) (x2 : Int) : fX4_takenCount_L4 this h x1 x2 =
    if x2 < 2 then
    ((tm_gR h 4 4 this).bind fun r3 =>
    (tm_lI h 2 r3 x2).bind fun v4 =>
    if v4 = 0 then
    (fX4_takenCount_L21 this h x1 x2)
    else
    (fX4_takenCount_L21 this h (tm_wr (x1 + 1)) x2))
    else
    (some x1) := by
  unfold fX4_takenCount_L4
  rw [tm_wl_eq]
  simp only [fX4_takenCount_S0, tm_go_ite, tm_go_bind, tm_go_inl, tm_go_inr, tm_go_out, tm_go_th]
  try rfl
theorem fX4_takenCount_L21_eq (this : Nat) (h : tm_H) (x1 : Int) (x2 : Int) : fX4_takenCount_L21 this h x1 x2 =
    fX4_takenCount_L4 this h x1 (tm_wr (x2 + 1)) := by
  unfold fX4_takenCount_L21
  rw [tm_wl_eq]
  simp only [fX4_takenCount_S0, tm_go_ite, tm_go_bind, tm_go_inl, tm_go_inr, tm_go_out, tm_go_th]
  try rfl
noncomputable def fX4_takenCount (this : Nat) (h : tm_H) : Option (Int) :=
  tm_th h 4 this (
    fX4_takenCount_L4 this h 0 0)
noncomputable def fX4_keepChapters (this : Nat) (a1 : Int) (h : tm_H) : Option (tm_H) :=
  tm_th h 4 this (
    (fX4_hasSlot this a1 h).bind fun v1 =>
    if v1 = 0 then
    (some h)
    else
    ((tm_gR h 4 3 this).bind fun r2 =>
    (tm_lR h 3 r2 a1).bind fun r3 =>
    (tm_gR h 4 1 this).bind fun r4 =>
    (fX0_copyFrom r3 r4 h).bind fun h5 =>
    (tm_gR h5 4 4 this).bind fun r6 =>
    (tm_wZ h5 2 r6 a1 1).bind fun h7 =>
    some h7))
noncomputable def fX4_bringChapters (this : Nat) (a1 : Int) (h : tm_H) : Option (tm_H) :=
  tm_th h 4 this (
    (fX4_isTaken this a1 h).bind fun v1 =>
    if v1 = 0 then
    (some h)
    else
    ((tm_gR h 4 1 this).bind fun r2 =>
    (tm_gR h 4 3 this).bind fun r3 =>
    (tm_lR h 3 r3 a1).bind fun r4 =>
    (fX0_copyFrom r2 r4 h).bind fun h5 =>
    some h5))
noncomputable def fX7_isForm (this : Nat) (a1 : Int) (h : tm_H) : Option (Int) :=
  tm_th h 7 this (
    (fX7_baseOf this a1 h).bind fun v1 =>
    if v1 = a1 then
    (some 0)
    else
    (some 1))
noncomputable def fX7_hasForms_S0 (this : Nat) (a1 : Int) (h : tm_H) (st : (Int) ⊕ (Int)) : Option (((Int) ⊕ (Int)) ⊕ (Int)) := match st with
  | .inl ((x2)) =>
    (tm_gI h 7 2 this).bind fun v1 =>
    if x2 < v1 then
    (if x2 = a1 then
    (some (.inl (.inr ((x2)))))
    else
    ((tm_gR h 7 1 this).bind fun r2 =>
    (tm_lI h 0 r2 x2).bind fun v3 =>
    if v3 = a1 then
    (some (.inr 1))
    else
    (some (.inl (.inr ((x2)))))))
    else
    (some (.inr 0))
  | .inr ((x2)) =>
    some (.inl (.inl (((tm_wr (x2 + 1))))))
noncomputable def fX7_hasForms_L2 (this : Nat) (a1 : Int) (h : tm_H) (x2 : Int) : Option (Int) := tm_wl (fX7_hasForms_S0 this a1 h) (.inl ((x2)))
noncomputable def fX7_hasForms_L27 (this : Nat) (a1 : Int) (h : tm_H) (x2 : Int) : Option (Int) := tm_wl (fX7_hasForms_S0 this a1 h) (.inr ((x2)))
theorem fX7_hasForms_L2_eq (this : Nat) (a1 : Int) (h : tm_H) (x2 : Int) : fX7_hasForms_L2 this a1 h x2 =
    (tm_gI h 7 2 this).bind fun v4 =>
    if x2 < v4 then
    (if x2 = a1 then
    (fX7_hasForms_L27 this a1 h x2)
    else
    ((tm_gR h 7 1 this).bind fun r5 =>
    (tm_lI h 0 r5 x2).bind fun v6 =>
    if v6 = a1 then
    (some 1)
    else
    (fX7_hasForms_L27 this a1 h x2)))
    else
    (some 0) := by
  unfold fX7_hasForms_L2
  rw [tm_wl_eq]
  simp only [fX7_hasForms_S0, tm_go_ite, tm_go_bind, tm_go_inl, tm_go_inr, tm_go_out, tm_go_th]
  try rfl
theorem fX7_hasForms_L27_eq (this : Nat) (a1 : Int) (h : tm_H) (x2 : Int) : fX7_hasForms_L27 this a1 h x2 =
    fX7_hasForms_L2 this a1 h (tm_wr (x2 + 1)) := by
  unfold fX7_hasForms_L27
  rw [tm_wl_eq]
  simp only [fX7_hasForms_S0, tm_go_ite, tm_go_bind, tm_go_inl, tm_go_inr, tm_go_out, tm_go_th]
  try rfl
noncomputable def fX7_hasForms (this : Nat) (a1 : Int) (h : tm_H) : Option (Int) :=
  tm_th h 7 this (
    fX7_hasForms_L2 this a1 h 0)
noncomputable def fX7_has (this : Nat) (a1 : Int) (h : tm_H) : Option (Int) :=
  tm_th h 7 this (
    if a1 < 0 then
    (some 0)
    else
    ((tm_gI h 7 2 this).bind fun v1 =>
    if a1 < v1 then
    (some 1)
    else
    (some 0)))
noncomputable def fX7_putBase (this : Nat) (a1 : Int) (a2 : Int) (h : tm_H) : Option (tm_H) :=
  tm_th h 7 this (
    (fX7_has this a1 h).bind fun v1 =>
    if v1 = 0 then
    (some h)
    else
    ((fX7_has this a2 h).bind fun v2 =>
    if v2 = 0 then
    (some h)
    else
    ((tm_gR h 7 1 this).bind fun r3 =>
    (tm_wI h 0 r3 a1 a2).bind fun h4 =>
    some h4)))
noncomputable def fX5_sameBases_S0 (a1 : Nat) (a2 : Nat) (a3 : Nat) (a4 : Int) (h : tm_H) (st : (Int)) : Option (((Int)) ⊕ (Int)) := match st with
  | (x4) =>
    if x4 < a4 then
    ((tm_len h 0 a2).bind fun v1 =>
    if x4 < v1 then
    ((tm_len h 0 a3).bind fun v2 =>
    if x4 < v2 then
    ((tm_lI h 0 a2 x4).bind fun v3 =>
    (fX7_baseOf a1 v3 h).bind fun v4 =>
    (tm_lI h 0 a3 x4).bind fun v5 =>
    (fX7_baseOf a1 v5 h).bind fun v6 =>
    if v4 = v6 then
    (some (.inl (((tm_wr (x4 + 1))))))
    else
    (some (.inr 0)))
    else
    (some (.inr 1)))
    else
    (some (.inr 1)))
    else
    (some (.inr 1))
noncomputable def fX5_sameBases_L3 (a1 : Nat) (a2 : Nat) (a3 : Nat) (a4 : Int) (h : tm_H) (x4 : Int) : Option (Int) := tm_wl (fX5_sameBases_S0 a1 a2 a3 a4 h) ((x4))
theorem fX5_sameBases_L3_eq (a1 : Nat) (a2 : Nat) (a3 : Nat) (a4 : Int) (h : tm_H) (x4 : Int) : fX5_sameBases_L3 a1 a2 a3 a4 h x4 =
    if x4 < a4 then
    ((tm_len h 0 a2).bind fun v7 =>
    if x4 < v7 then
    ((tm_len h 0 a3).bind fun v8 =>
    if x4 < v8 then
    ((tm_lI h 0 a2 x4).bind fun v9 =>
    (fX7_baseOf a1 v9 h).bind fun v10 =>
    (tm_lI h 0 a3 x4).bind fun v11 =>
    (fX7_baseOf a1 v11 h).bind fun v12 =>
    if v10 = v12 then
    (fX5_sameBases_L3 a1 a2 a3 a4 h (tm_wr (x4 + 1)))
    else
    (some 0))
    else
    (some 1))
    else
    (some 1))
    else
    (some 1) := by
  unfold fX5_sameBases_L3
  rw [tm_wl_eq]
  simp only [fX5_sameBases_S0, tm_go_ite, tm_go_bind, tm_go_inl, tm_go_inr, tm_go_out, tm_go_th]
  try rfl
noncomputable def fX5_sameBases (a1 : Nat) (a2 : Nat) (a3 : Nat) (a4 : Int) (h : tm_H) : Option (Int) :=
  fX5_sameBases_L3 a1 a2 a3 a4 h 0
noncomputable def fX5_twoAreAlike_S0 (this : Nat) (a1 : Nat) (h : tm_H) (st : (Int) ⊕ (Int × Int) ⊕ (Int × Int)) : Option (((Int) ⊕ (Int × Int) ⊕ (Int × Int)) ⊕ (Int)) := match st with
  | .inl ((x2)) =>
    (tm_gI h 5 3 this).bind fun v1 =>
    if x2 < v1 then
    (some (.inl (.inr (.inl ((x2, (tm_wr (x2 + 1))))))))
    else
    (some (.inr 0))
  | .inr (.inl ((x2, x3))) =>
    (tm_gI h 5 3 this).bind fun v2 =>
    if x3 < v2 then
    ((tm_gR h 5 1 this).bind fun r3 =>
    (tm_lI h 0 r3 x2).bind fun v4 =>
    (tm_gR h 5 1 this).bind fun r5 =>
    (tm_lI h 0 r5 x3).bind fun v6 =>
    if v4 = v6 then
    ((tm_gR h 5 0 this).bind fun r7 =>
    (tm_lR h 5 r7 x2).bind fun r8 =>
    (tm_gR h 5 0 this).bind fun r9 =>
    (tm_lR h 5 r9 x3).bind fun r10 =>
    (tm_gR h 5 1 this).bind fun r11 =>
    (tm_lI h 0 r11 x2).bind fun v12 =>
    (fX5_sameBases a1 r8 r10 v12 h).bind fun v13 =>
    if v13 = 0 then
    (some (.inl (.inr (.inr ((x2, x3))))))
    else
    (some (.inr 1)))
    else
    (some (.inl (.inr (.inr ((x2, x3)))))))
    else
    (some (.inl (.inl (((tm_wr (x2 + 1)))))))
  | .inr (.inr ((x2, x3))) =>
    some (.inl (.inr (.inl ((x2, (tm_wr (x3 + 1)))))))
noncomputable def fX5_twoAreAlike_L2 (this : Nat) (a1 : Nat) (h : tm_H) (x2 : Int) : Option (Int) := tm_wl (fX5_twoAreAlike_S0 this a1 h) (.inl ((x2)))
noncomputable def fX5_twoAreAlike_L14 (this : Nat) (a1 : Nat) (h : tm_H) (x2 : Int) (x3 : Int) : Option (Int) := tm_wl (fX5_twoAreAlike_S0 this a1 h) (.inr (.inl ((x2, x3))))
noncomputable def fX5_twoAreAlike_L64 (this : Nat) (a1 : Nat) (h : tm_H) (x2 : Int) (x3 : Int) : Option (Int) := tm_wl (fX5_twoAreAlike_S0 this a1 h) (.inr (.inr ((x2, x3))))
theorem fX5_twoAreAlike_L2_eq (this : Nat) (a1 : Nat) (h : tm_H) (x2 : Int) : fX5_twoAreAlike_L2 this a1 h x2 =
    (tm_gI h 5 3 this).bind fun v14 =>
    if x2 < v14 then
    (fX5_twoAreAlike_L14 this a1 h x2 (tm_wr (x2 + 1)))
    else
    (some 0) := by
  unfold fX5_twoAreAlike_L2
  rw [tm_wl_eq]
  simp only [fX5_twoAreAlike_S0, tm_go_ite, tm_go_bind, tm_go_inl, tm_go_inr, tm_go_out, tm_go_th]
  try rfl
theorem fX5_twoAreAlike_L14_eq (this : Nat) (a1 : Nat) (h : tm_H) (x2 : Int) (x3 : Int) : fX5_twoAreAlike_L14 this a1 h x2 x3 =
    (tm_gI h 5 3 this).bind fun v15 =>
    if x3 < v15 then
    ((tm_gR h 5 1 this).bind fun r16 =>
    (tm_lI h 0 r16 x2).bind fun v17 =>
    (tm_gR h 5 1 this).bind fun r18 =>
    (tm_lI h 0 r18 x3).bind fun v19 =>
    if v17 = v19 then
    ((tm_gR h 5 0 this).bind fun r20 =>
    (tm_lR h 5 r20 x2).bind fun r21 =>
    (tm_gR h 5 0 this).bind fun r22 =>
    (tm_lR h 5 r22 x3).bind fun r23 =>
    (tm_gR h 5 1 this).bind fun r24 =>
    (tm_lI h 0 r24 x2).bind fun v25 =>
    (fX5_sameBases a1 r21 r23 v25 h).bind fun v26 =>
    if v26 = 0 then
    (fX5_twoAreAlike_L64 this a1 h x2 x3)
    else
    (some 1))
    else
    (fX5_twoAreAlike_L64 this a1 h x2 x3))
    else
    (fX5_twoAreAlike_L2 this a1 h (tm_wr (x2 + 1))) := by
  unfold fX5_twoAreAlike_L14
  rw [tm_wl_eq]
  simp only [fX5_twoAreAlike_S0, tm_go_ite, tm_go_bind, tm_go_inl, tm_go_inr, tm_go_out, tm_go_th]
  try rfl
theorem fX5_twoAreAlike_L64_eq (this : Nat) (a1 : Nat) (h : tm_H) (x2 : Int) (x3 : Int) : fX5_twoAreAlike_L64 this a1 h x2 x3 =
    fX5_twoAreAlike_L14 this a1 h x2 (tm_wr (x3 + 1)) := by
  unfold fX5_twoAreAlike_L64
  rw [tm_wl_eq]
  simp only [fX5_twoAreAlike_S0, tm_go_ite, tm_go_bind, tm_go_inl, tm_go_inr, tm_go_out, tm_go_th]
  try rfl
noncomputable def fX5_twoAreAlike (this : Nat) (a1 : Nat) (h : tm_H) : Option (Int) :=
  tm_th h 5 this (
    fX5_twoAreAlike_L2 this a1 h 0)
noncomputable def fX4_mayHaveBase_L29 (this : Nat) (a1 : Int) (a2 : Int)  (h : tm_H) : Option (Int × tm_H) :=
  (tm_gR h 4 0 this).bind fun r5 =>
  (fX7_baseOf r5 a1 h).bind fun v6 =>
  (tm_gR h 4 0 this).bind fun r7 =>
  (fX7_putBase r7 a1 a2 h).bind fun h8 =>
  (tm_gR h8 4 2 this).bind fun r9 =>
  (tm_gR h8 4 0 this).bind fun r10 =>
  (fX5_twoAreAlike r9 r10 h8).bind fun v11 =>
  (tm_gR h8 4 0 this).bind fun r12 =>
  (fX7_putBase r12 a1 v6 h8).bind fun h13 =>
  if v11 = 0 then
  (some (1, h13))
  else
  (some (0, h13))
noncomputable def fX4_mayHaveBase (this : Nat) (a1 : Int) (a2 : Int) (h : tm_H) : Option (Int × tm_H) :=
  tm_th h 4 this (
    if a2 = a1 then
    (fX4_mayHaveBase_L29 this a1 a2 h)
    else
    ((tm_gR h 4 0 this).bind fun r1 =>
    (fX7_isForm r1 a2 h).bind fun v2 =>
    if v2 = 0 then
    ((tm_gR h 4 0 this).bind fun r3 =>
    (fX7_hasForms r3 a1 h).bind fun v4 =>
    if v4 = 0 then
    (fX4_mayHaveBase_L29 this a1 a2 h)
    else
    (some (0, h)))
    else
    (some (0, h))))
noncomputable def fX4_occurrences_S0 (this : Nat) (a1 : Int) (h : tm_H) (st : (Int × Int) ⊕ (Int × Int × Int) ⊕ (Int × Int × Int)) : Option (((Int × Int) ⊕ (Int × Int × Int) ⊕ (Int × Int × Int)) ⊕ (Int)) := match st with
  | .inl ((x2, x3)) =>
    if x3 < 6 then
    (some (.inl (.inr (.inl ((x2, x3, 0))))))
    else
    (some (.inr x2))
  | .inr (.inl ((x2, x3, x4))) =>
    (tm_gR h 4 1 this).bind fun r1 =>
    (fX0_lengthOf r1 x3 h).bind fun v2 =>
    if x4 < v2 then
    ((fX4_occursAt this a1 x3 x4 h).bind fun v3 =>
    if v3 = 0 then
    (some (.inl (.inr (.inr ((x2, x3, x4))))))
    else
    (some (.inl (.inr (.inr (((tm_wr (x2 + 1)), x3, x4)))))))
    else
    (some (.inl (.inl ((x2, (tm_wr (x3 + 1)))))))
  | .inr (.inr ((x2, x3, x4))) =>
    some (.inl (.inr (.inl ((x2, x3, (tm_wr (x4 + 1)))))))
noncomputable def fX4_occurrences_L4 (this : Nat) (a1 : Int) (h : tm_H) (x2 : Int) (x3 : Int) : Option (Int) := tm_wl (fX4_occurrences_S0 this a1 h) (.inl ((x2, x3)))
noncomputable def fX4_occurrences_L13 (this : Nat) (a1 : Int) (h : tm_H) (x2 : Int) (x3 : Int) (x4 : Int) : Option (Int) := tm_wl (fX4_occurrences_S0 this a1 h) (.inr (.inl ((x2, x3, x4))))
noncomputable def fX4_occurrences_L40 (this : Nat) (a1 : Int) (h : tm_H) (x2 : Int) (x3 : Int) (x4 : Int) : Option (Int) := tm_wl (fX4_occurrences_S0 this a1 h) (.inr (.inr ((x2, x3, x4))))
theorem fX4_occurrences_L4_eq (this : Nat) (a1 : Int) (h : tm_H) (x2 : Int) (x3 : Int) : fX4_occurrences_L4 this a1 h x2 x3 =
    if x3 < 6 then
    (fX4_occurrences_L13 this a1 h x2 x3 0)
    else
    (some x2) := by
  unfold fX4_occurrences_L4
  rw [tm_wl_eq]
  simp only [fX4_occurrences_S0, tm_go_ite, tm_go_bind, tm_go_inl, tm_go_inr, tm_go_out, tm_go_th]
  try rfl
theorem fX4_occurrences_L13_eq (this : Nat) (a1 : Int) (h : tm_H) (x2 : Int) (x3 : Int) (x4 : Int) : fX4_occurrences_L13 this a1 h x2 x3 x4 =
    (tm_gR h 4 1 this).bind fun r4 =>
    (fX0_lengthOf r4 x3 h).bind fun v5 =>
    if x4 < v5 then
    ((fX4_occursAt this a1 x3 x4 h).bind fun v6 =>
    if v6 = 0 then
    (fX4_occurrences_L40 this a1 h x2 x3 x4)
    else
    (fX4_occurrences_L40 this a1 h (tm_wr (x2 + 1)) x3 x4))
    else
    (fX4_occurrences_L4 this a1 h x2 (tm_wr (x3 + 1))) := by
  unfold fX4_occurrences_L13
  rw [tm_wl_eq]
  simp only [fX4_occurrences_S0, tm_go_ite, tm_go_bind, tm_go_inl, tm_go_inr, tm_go_out, tm_go_th]
  try rfl
theorem fX4_occurrences_L40_eq (this : Nat) (a1 : Int) (h : tm_H) (x2 : Int) (x3 : Int) (x4 : Int) : fX4_occurrences_L40 this a1 h x2 x3 x4 =
    fX4_occurrences_L13 this a1 h x2 x3 (tm_wr (x4 + 1)) := by
  unfold fX4_occurrences_L40
  rw [tm_wl_eq]
  simp only [fX4_occurrences_S0, tm_go_ite, tm_go_bind, tm_go_inl, tm_go_inr, tm_go_out, tm_go_th]
  try rfl
noncomputable def fX4_occurrences (this : Nat) (a1 : Int) (h : tm_H) : Option (Int) :=
  tm_th h 4 this (
    fX4_occurrences_L4 this a1 h 0 0)
noncomputable def fX4_occursWithin_S0 (this : Nat) (a1 : Int) (a2 : Int) (a3 : Int) (h : tm_H) (st : (Int)) : Option (((Int)) ⊕ (Int)) := match st with
  | (x4) =>
    (tm_gR h 4 2 this).bind fun r1 =>
    (fX5_lengthOf r1 a1 h).bind fun v2 =>
    if x4 < v2 then
    ((tm_gR h 4 0 this).bind fun r3 =>
    (tm_gR h 4 2 this).bind fun r4 =>
    (fX5_wordAt r4 a1 x4 h).bind fun v5 =>
    (fX7_baseOf r3 v5 h).bind fun v6 =>
    (tm_gR h 4 0 this).bind fun r7 =>
    (tm_gR h 4 2 this).bind fun r8 =>
    (fX5_wordAt r8 a2 (tm_wr (a3 + x4)) h).bind fun v9 =>
    (fX7_baseOf r7 v9 h).bind fun v10 =>
    if v6 = v10 then
    (some (.inl (((tm_wr (x4 + 1))))))
    else
    (some (.inr 0)))
    else
    (some (.inr 1))
noncomputable def fX4_occursWithin_L3 (this : Nat) (a1 : Int) (a2 : Int) (a3 : Int) (h : tm_H) (x4 : Int) : Option (Int) := tm_wl (fX4_occursWithin_S0 this a1 a2 a3 h) ((x4))
theorem fX4_occursWithin_L3_eq (this : Nat) (a1 : Int) (a2 : Int) (a3 : Int) (h : tm_H) (x4 : Int) : fX4_occursWithin_L3 this a1 a2 a3 h x4 =
    (tm_gR h 4 2 this).bind fun r11 =>
    (fX5_lengthOf r11 a1 h).bind fun v12 =>
    if x4 < v12 then
    ((tm_gR h 4 0 this).bind fun r13 =>
    (tm_gR h 4 2 this).bind fun r14 =>
    (fX5_wordAt r14 a1 x4 h).bind fun v15 =>
    (fX7_baseOf r13 v15 h).bind fun v16 =>
    (tm_gR h 4 0 this).bind fun r17 =>
    (tm_gR h 4 2 this).bind fun r18 =>
    (fX5_wordAt r18 a2 (tm_wr (a3 + x4)) h).bind fun v19 =>
    (fX7_baseOf r17 v19 h).bind fun v20 =>
    if v16 = v20 then
    (fX4_occursWithin_L3 this a1 a2 a3 h (tm_wr (x4 + 1)))
    else
    (some 0))
    else
    (some 1) := by
  unfold fX4_occursWithin_L3
  rw [tm_wl_eq]
  simp only [fX4_occursWithin_S0, tm_go_ite, tm_go_bind, tm_go_inl, tm_go_inr, tm_go_out, tm_go_th]
  try rfl
noncomputable def fX4_occursWithin (this : Nat) (a1 : Int) (a2 : Int) (a3 : Int) (h : tm_H) : Option (Int) :=
  tm_th h 4 this (
    fX4_occursWithin_L3 this a1 a2 a3 h 0)
noncomputable def fX4_timesWithin_S0 (this : Nat) (a1 : Int) (a2 : Int) (h : tm_H) (st : (Int × Int) ⊕ (Int × Int)) : Option (((Int × Int) ⊕ (Int × Int)) ⊕ (Int)) := match st with
  | .inl ((x3, x4)) =>
    (tm_gR h 4 2 this).bind fun r1 =>
    (fX5_lengthOf r1 a2 h).bind fun v2 =>
    (tm_gR h 4 2 this).bind fun r3 =>
    (fX5_lengthOf r3 a1 h).bind fun v4 =>
    if (tm_wr (v2 - v4)) < x4 then
    (some (.inr x3))
    else
    ((fX4_occursWithin this a1 a2 x4 h).bind fun v5 =>
    if v5 = 0 then
    (some (.inl (.inr ((x3, x4)))))
    else
    (some (.inl (.inr (((tm_wr (x3 + 1)), x4))))))
  | .inr ((x3, x4)) =>
    some (.inl (.inl ((x3, (tm_wr (x4 + 1))))))
noncomputable def fX4_timesWithin_L5 (this : Nat) (a1 : Int) (a2 : Int) (h : tm_H) (x3 : Int) (x4 : Int) : Option (Int) := tm_wl (fX4_timesWithin_S0 this a1 a2 h) (.inl ((x3, x4)))
noncomputable def fX4_timesWithin_L41 (this : Nat) (a1 : Int) (a2 : Int) (h : tm_H) (x3 : Int) (x4 : Int) : Option (Int) := tm_wl (fX4_timesWithin_S0 this a1 a2 h) (.inr ((x3, x4)))
theorem fX4_timesWithin_L5_eq (this : Nat) (a1 : Int) (a2 : Int) (h : tm_H) (x3 : Int) (x4 : Int) : fX4_timesWithin_L5 this a1 a2 h x3 x4 =
    (tm_gR h 4 2 this).bind fun r6 =>
    (fX5_lengthOf r6 a2 h).bind fun v7 =>
    (tm_gR h 4 2 this).bind fun r8 =>
    (fX5_lengthOf r8 a1 h).bind fun v9 =>
    if (tm_wr (v7 - v9)) < x4 then
    (some x3)
    else
    ((fX4_occursWithin this a1 a2 x4 h).bind fun v10 =>
    if v10 = 0 then
    (fX4_timesWithin_L41 this a1 a2 h x3 x4)
    else
    (fX4_timesWithin_L41 this a1 a2 h (tm_wr (x3 + 1)) x4)) := by
  unfold fX4_timesWithin_L5
  rw [tm_wl_eq]
  simp only [fX4_timesWithin_S0, tm_go_ite, tm_go_bind, tm_go_inl, tm_go_inr, tm_go_out, tm_go_th]
  try rfl
theorem fX4_timesWithin_L41_eq (this : Nat) (a1 : Int) (a2 : Int) (h : tm_H) (x3 : Int) (x4 : Int) : fX4_timesWithin_L41 this a1 a2 h x3 x4 =
    fX4_timesWithin_L5 this a1 a2 h x3 (tm_wr (x4 + 1)) := by
  unfold fX4_timesWithin_L41
  rw [tm_wl_eq]
  simp only [fX4_timesWithin_S0, tm_go_ite, tm_go_bind, tm_go_inl, tm_go_inr, tm_go_out, tm_go_th]
  try rfl
noncomputable def fX4_timesWithin (this : Nat) (a1 : Int) (a2 : Int) (h : tm_H) : Option (Int) :=
  tm_th h 4 this (
    fX4_timesWithin_L5 this a1 a2 h 0 0)
noncomputable def fX5_quietCount_S0 (this : Nat) (h : tm_H) (st : (Int × Int) ⊕ (Int × Int)) : Option (((Int × Int) ⊕ (Int × Int)) ⊕ (Int)) := match st with
  | .inl ((x1, x2)) =>
    (tm_gI h 5 3 this).bind fun v1 =>
    if x2 < v1 then
    ((tm_gR h 5 2 this).bind fun r2 =>
    (tm_lI h 2 r2 x2).bind fun v3 =>
    if v3 = 0 then
    (some (.inl (.inr ((x1, x2)))))
    else
    (some (.inl (.inr (((tm_wr (x1 + 1)), x2))))))
    else
    (some (.inr x1))
  | .inr ((x1, x2)) =>
    some (.inl (.inl ((x1, (tm_wr (x2 + 1))))))
noncomputable def fX5_quietCount_L4 (this : Nat) (h : tm_H) (x1 : Int) (x2 : Int) : Option (Int) := tm_wl (fX5_quietCount_S0 this h) (.inl ((x1, x2)))
noncomputable def fX5_quietCount_L24 (this : Nat) (h : tm_H) (x1 : Int) (x2 : Int) : Option (Int) := tm_wl (fX5_quietCount_S0 this h) (.inr ((x1, x2)))
theorem fX5_quietCount_L4_eq (this : Nat) (h : tm_H) (x1 : Int) (x2 : Int) : fX5_quietCount_L4 this h x1 x2 =
    (tm_gI h 5 3 this).bind fun v4 =>
    if x2 < v4 then
    ((tm_gR h 5 2 this).bind fun r5 =>
    (tm_lI h 2 r5 x2).bind fun v6 =>
    if v6 = 0 then
    (fX5_quietCount_L24 this h x1 x2)
    else
    (fX5_quietCount_L24 this h (tm_wr (x1 + 1)) x2))
    else
    (some x1) := by
  unfold fX5_quietCount_L4
  rw [tm_wl_eq]
  simp only [fX5_quietCount_S0, tm_go_ite, tm_go_bind, tm_go_inl, tm_go_inr, tm_go_out, tm_go_th]
  try rfl
theorem fX5_quietCount_L24_eq (this : Nat) (h : tm_H) (x1 : Int) (x2 : Int) : fX5_quietCount_L24 this h x1 x2 =
    fX5_quietCount_L4 this h x1 (tm_wr (x2 + 1)) := by
  unfold fX5_quietCount_L24
  rw [tm_wl_eq]
  simp only [fX5_quietCount_S0, tm_go_ite, tm_go_bind, tm_go_inl, tm_go_inr, tm_go_out, tm_go_th]
  try rfl
noncomputable def fX5_quietCount (this : Nat) (h : tm_H) : Option (Int) :=
  tm_th h 5 this (
    fX5_quietCount_L4 this h 0 0)
noncomputable def fX5_hush (this : Nat) (a1 : Int) (a2 : Int) (h : tm_H) : Option (tm_H) :=
  tm_th h 5 this (
    (fX5_has this a1 h).bind fun v1 =>
    if v1 = 0 then
    (some h)
    else
    ((tm_gR h 5 2 this).bind fun r2 =>
    (tm_wZ h 2 r2 a1 a2).bind fun h3 =>
    some h3))
noncomputable def fX5_add (this : Nat) (a1 : Nat) (a2 : Int) (h : tm_H) : Option (tm_H) :=
  tm_th h 5 this (
    (tm_gI h 5 3 this).bind fun v1 =>
    if v1 < 13 then
    (if a2 < 1 then
    (some h)
    else
    (if 4 < a2 then
    (some h)
    else
    ((tm_len h 0 a1).bind fun v2 =>
    if v2 < a2 then
    (some h)
    else
    ((tm_gR h 5 0 this).bind fun r3 =>
    (tm_gI h 5 3 this).bind fun v4 =>
    (tm_lR h 5 r3 v4).bind fun r5 =>
    (tm_cpI h 0 a1 0 r5 0 a2).bind fun h6 =>
    (tm_gR h6 5 1 this).bind fun r7 =>
    (tm_gI h6 5 3 this).bind fun v8 =>
    (tm_wI h6 0 r7 v8 a2).bind fun h9 =>
    (tm_gR h9 5 2 this).bind fun r10 =>
    (tm_gI h9 5 3 this).bind fun v11 =>
    (tm_wZ h9 2 r10 v11 0).bind fun h12 =>
    (tm_gI h12 5 3 this).bind fun v13 =>
    (tm_sF h12 5 3 this (.inl (tm_wr (v13 + 1)))).bind fun h14 =>
    some h14))))
    else
    (some h))
noncomputable def fX5_drop_S0 (this : Nat) (a1 : Int) (st : (Nat × Int × tm_H)) : Option (((Nat × Int × tm_H)) ⊕ (tm_H)) := match st with
  | (x2, x3, h) =>
    (tm_gI h 5 3 this).bind fun v4 =>
    if x3 < v4 then
    ((tm_gR h 5 0 this).bind fun r5 =>
    (tm_gR h 5 0 this).bind fun r6 =>
    (tm_lR h 5 r6 x3).bind fun r7 =>
    (tm_wR h 5 r5 (tm_wr (x3 - 1)) 100 r7).bind fun h8 =>
    (tm_gR h8 5 1 this).bind fun r9 =>
    (tm_gR h8 5 1 this).bind fun r10 =>
    (tm_lI h8 0 r10 x3).bind fun v11 =>
    (tm_wI h8 0 r9 (tm_wr (x3 - 1)) v11).bind fun h12 =>
    (tm_gR h12 5 2 this).bind fun r13 =>
    (tm_gR h12 5 2 this).bind fun r14 =>
    (tm_lI h12 2 r14 x3).bind fun v15 =>
    (tm_wZ h12 2 r13 (tm_wr (x3 - 1)) v15).bind fun h16 =>
    some (.inl ((x2, (tm_wr (x3 + 1)), h16))))
    else
    ((tm_gI h 5 3 this).bind fun v17 =>
    (tm_sF h 5 3 this (.inl (tm_wr (v17 - 1)))).bind fun h18 =>
    (tm_gR h18 5 0 this).bind fun r19 =>
    (tm_gI h18 5 3 this).bind fun v20 =>
    (tm_wR h18 5 r19 v20 100 x2).bind fun h21 =>
    some (.inr h21))
noncomputable def fX5_drop_L20 (this : Nat) (a1 : Int) (x2 : Nat) (x3 : Int) (h : tm_H) : Option (tm_H) := tm_wl (fX5_drop_S0 this a1) ((x2, x3, h))
theorem fX5_drop_L20_eq (this : Nat) (a1 : Int) (x2 : Nat) (x3 : Int) (h : tm_H) : fX5_drop_L20 this a1 x2 x3 h =
    (tm_gI h 5 3 this).bind fun v22 =>
    if x3 < v22 then
    ((tm_gR h 5 0 this).bind fun r23 =>
    (tm_gR h 5 0 this).bind fun r24 =>
    (tm_lR h 5 r24 x3).bind fun r25 =>
    (tm_wR h 5 r23 (tm_wr (x3 - 1)) 100 r25).bind fun h26 =>
    (tm_gR h26 5 1 this).bind fun r27 =>
    (tm_gR h26 5 1 this).bind fun r28 =>
    (tm_lI h26 0 r28 x3).bind fun v29 =>
    (tm_wI h26 0 r27 (tm_wr (x3 - 1)) v29).bind fun h30 =>
    (tm_gR h30 5 2 this).bind fun r31 =>
    (tm_gR h30 5 2 this).bind fun r32 =>
    (tm_lI h30 2 r32 x3).bind fun v33 =>
    (tm_wZ h30 2 r31 (tm_wr (x3 - 1)) v33).bind fun h34 =>
    fX5_drop_L20 this a1 x2 (tm_wr (x3 + 1)) h34)
    else
    ((tm_gI h 5 3 this).bind fun v35 =>
    (tm_sF h 5 3 this (.inl (tm_wr (v35 - 1)))).bind fun h36 =>
    (tm_gR h36 5 0 this).bind fun r37 =>
    (tm_gI h36 5 3 this).bind fun v38 =>
    (tm_wR h36 5 r37 v38 100 x2).bind fun h39 =>
    some h39) := by
  unfold fX5_drop_L20
  rw [tm_wl_eq]
  simp only [fX5_drop_S0, tm_go_ite, tm_go_bind, tm_go_inl, tm_go_inr, tm_go_out, tm_go_th]
  try rfl
noncomputable def fX5_drop (this : Nat) (a1 : Int) (h : tm_H) : Option (tm_H) :=
  tm_th h 5 this (
    (fX5_has this a1 h).bind fun v1 =>
    if v1 = 0 then
    (some h)
    else
    ((tm_gR h 5 0 this).bind fun r2 =>
    (tm_lR h 5 r2 a1).bind fun r3 =>
    fX5_drop_L20 this a1 r3 (tm_wr (a1 + 1)) h))
noncomputable def fX5_hasLike_S0 (this : Nat) (a1 : Nat) (a2 : Nat) (a3 : Int) (h : tm_H) (st : (Int) ⊕ (Int)) : Option (((Int) ⊕ (Int)) ⊕ (Int)) := match st with
  | .inl ((x4)) =>
    (tm_gI h 5 3 this).bind fun v1 =>
    if x4 < v1 then
    ((tm_gR h 5 1 this).bind fun r2 =>
    (tm_lI h 0 r2 x4).bind fun v3 =>
    if v3 = a3 then
    ((tm_gR h 5 0 this).bind fun r4 =>
    (tm_lR h 5 r4 x4).bind fun r5 =>
    (fX5_sameBases a1 r5 a2 a3 h).bind fun v6 =>
    if v6 = 0 then
    (some (.inl (.inr ((x4)))))
    else
    (some (.inr 1)))
    else
    (some (.inl (.inr ((x4))))))
    else
    (some (.inr 0))
  | .inr ((x4)) =>
    some (.inl (.inl (((tm_wr (x4 + 1))))))
noncomputable def fX5_hasLike_L3 (this : Nat) (a1 : Nat) (a2 : Nat) (a3 : Int) (h : tm_H) (x4 : Int) : Option (Int) := tm_wl (fX5_hasLike_S0 this a1 a2 a3 h) (.inl ((x4)))
noncomputable def fX5_hasLike_L41 (this : Nat) (a1 : Nat) (a2 : Nat) (a3 : Int) (h : tm_H) (x4 : Int) : Option (Int) := tm_wl (fX5_hasLike_S0 this a1 a2 a3 h) (.inr ((x4)))
theorem fX5_hasLike_L3_eq (this : Nat) (a1 : Nat) (a2 : Nat) (a3 : Int) (h : tm_H) (x4 : Int) : fX5_hasLike_L3 this a1 a2 a3 h x4 =
    (tm_gI h 5 3 this).bind fun v7 =>
    if x4 < v7 then
    ((tm_gR h 5 1 this).bind fun r8 =>
    (tm_lI h 0 r8 x4).bind fun v9 =>
    if v9 = a3 then
    ((tm_gR h 5 0 this).bind fun r10 =>
    (tm_lR h 5 r10 x4).bind fun r11 =>
    (fX5_sameBases a1 r11 a2 a3 h).bind fun v12 =>
    if v12 = 0 then
    (fX5_hasLike_L41 this a1 a2 a3 h x4)
    else
    (some 1))
    else
    (fX5_hasLike_L41 this a1 a2 a3 h x4))
    else
    (some 0) := by
  unfold fX5_hasLike_L3
  rw [tm_wl_eq]
  simp only [fX5_hasLike_S0, tm_go_ite, tm_go_bind, tm_go_inl, tm_go_inr, tm_go_out, tm_go_th]
  try rfl
theorem fX5_hasLike_L41_eq (this : Nat) (a1 : Nat) (a2 : Nat) (a3 : Int) (h : tm_H) (x4 : Int) : fX5_hasLike_L41 this a1 a2 a3 h x4 =
    fX5_hasLike_L3 this a1 a2 a3 h (tm_wr (x4 + 1)) := by
  unfold fX5_hasLike_L41
  rw [tm_wl_eq]
  simp only [fX5_hasLike_S0, tm_go_ite, tm_go_bind, tm_go_inl, tm_go_inr, tm_go_out, tm_go_th]
  try rfl
noncomputable def fX5_hasLike (this : Nat) (a1 : Nat) (a2 : Nat) (a3 : Int) (h : tm_H) : Option (Int) :=
  tm_th h 5 this (
    fX5_hasLike_L3 this a1 a2 a3 h 0)
noncomputable def fX6_length (this : Nat) (h : tm_H) : Option (Int) :=
  tm_th h 6 this (
    (tm_gI h 6 1 this).bind fun v1 =>
    some v1)
noncomputable def fX6_add (this : Nat) (a1 : Int) (h : tm_H) : Option (tm_H) :=
  tm_th h 6 this (
    (tm_gI h 6 1 this).bind fun v1 =>
    if v1 < 140 then
    ((tm_gR h 6 0 this).bind fun r2 =>
    (tm_gI h 6 1 this).bind fun v3 =>
    (tm_wI h 0 r2 v3 a1).bind fun h4 =>
    (tm_gI h4 6 1 this).bind fun v5 =>
    (tm_sF h4 6 1 this (.inl (tm_wr (v5 + 1)))).bind fun h6 =>
    some h6)
    else
    (some h))
noncomputable def fX7_size (this : Nat) (h : tm_H) : Option (Int) :=
  tm_th h 7 this (
    (tm_gI h 7 2 this).bind fun v1 =>
    some v1)
noncomputable def fX7_letterAt (this : Nat) (a1 : Int) (a2 : Int) (h : tm_H) : Option (Int) :=
  tm_th h 7 this (
    (fX7_has this a1 h).bind fun v1 =>
    if v1 = 0 then
    (some ((-99)))
    else
    (if a2 < 0 then
    (some ((-99)))
    else
    (if a2 < 8 then
    ((tm_gR h 7 0 this).bind fun r2 =>
    (tm_lL h 1 r2 a1).bind fun j3 =>
    if (tm_and (tm_l2i (tm_lushr j3 (tm_wr (a2 * 8)))) 255) = 0 then
    (some ((-99)))
    else
    (some (tm_and (tm_l2i (tm_lushr j3 (tm_wr (a2 * 8)))) 255)))
    else
    (some ((-99))))))
noncomputable def fX7_formCount_S0 (this : Nat) (h : tm_H) (st : (Int × Int) ⊕ (Int × Int)) : Option (((Int × Int) ⊕ (Int × Int)) ⊕ (Int)) := match st with
  | .inl ((x1, x2)) =>
    (tm_gI h 7 2 this).bind fun v1 =>
    if x2 < v1 then
    ((tm_gR h 7 1 this).bind fun r2 =>
    (tm_lI h 0 r2 x2).bind fun v3 =>
    if v3 = x2 then
    (some (.inl (.inr ((x1, x2)))))
    else
    (some (.inl (.inr (((tm_wr (x1 + 1)), x2))))))
    else
    (some (.inr x1))
  | .inr ((x1, x2)) =>
    some (.inl (.inl ((x1, (tm_wr (x2 + 1))))))
noncomputable def fX7_formCount_L4 (this : Nat) (h : tm_H) (x1 : Int) (x2 : Int) : Option (Int) := tm_wl (fX7_formCount_S0 this h) (.inl ((x1, x2)))
noncomputable def fX7_formCount_L25 (this : Nat) (h : tm_H) (x1 : Int) (x2 : Int) : Option (Int) := tm_wl (fX7_formCount_S0 this h) (.inr ((x1, x2)))
theorem fX7_formCount_L4_eq (this : Nat) (h : tm_H) (x1 : Int) (x2 : Int) : fX7_formCount_L4 this h x1 x2 =
    (tm_gI h 7 2 this).bind fun v4 =>
    if x2 < v4 then
    ((tm_gR h 7 1 this).bind fun r5 =>
    (tm_lI h 0 r5 x2).bind fun v6 =>
    if v6 = x2 then
    (fX7_formCount_L25 this h x1 x2)
    else
    (fX7_formCount_L25 this h (tm_wr (x1 + 1)) x2))
    else
    (some x1) := by
  unfold fX7_formCount_L4
  rw [tm_wl_eq]
  simp only [fX7_formCount_S0, tm_go_ite, tm_go_bind, tm_go_inl, tm_go_inr, tm_go_out, tm_go_th]
  try rfl
theorem fX7_formCount_L25_eq (this : Nat) (h : tm_H) (x1 : Int) (x2 : Int) : fX7_formCount_L25 this h x1 x2 =
    fX7_formCount_L4 this h x1 (tm_wr (x2 + 1)) := by
  unfold fX7_formCount_L25
  rw [tm_wl_eq]
  simp only [fX7_formCount_S0, tm_go_ite, tm_go_bind, tm_go_inl, tm_go_inr, tm_go_out, tm_go_th]
  try rfl
noncomputable def fX7_formCount (this : Nat) (h : tm_H) : Option (Int) :=
  tm_th h 7 this (
    fX7_formCount_L4 this h 0 0)
noncomputable def fX8_init (this : Nat) (h : tm_H) (n : Nat) : Option (tm_H × Nat) :=
  tm_th h 8 this (
    (tm_nw h n (.inl (4, [.inr none, .inr none, .inr none, .inr none, .inr none]))).bind fun h1 =>
    (fX4_init n h1 (n + 1)).bind fun q2 =>
    (tm_sF q2.1 8 0 this (.inr (some n))).bind fun h3 =>
    (tm_nw h3 q2.2 (.inl (4, [.inr none, .inr none, .inr none, .inr none, .inr none]))).bind fun h4 =>
    (fX4_init q2.2 h4 (q2.2 + 1)).bind fun q5 =>
    (tm_sF q5.1 8 1 this (.inr (some q2.2))).bind fun h6 =>
    (tm_nw h6 q5.2 (.inl (1, [.inr none, .inl 0]))).bind fun h7 =>
    (fX1_init q5.2 h7 (q5.2 + 1)).bind fun q8 =>
    (tm_sF q8.1 8 2 this (.inr (some q5.2))).bind fun h9 =>
    (tm_nw h9 q8.2 (.inl (2, [.inr none, .inr none, .inr none, .inl 0, .inl 0]))).bind fun h10 =>
    (fX2_init q8.2 h10 (q8.2 + 1)).bind fun q11 =>
    (tm_sF q11.1 8 3 this (.inr (some q8.2))).bind fun h12 =>
    (tm_nw h12 q11.2 (.inl (3, [.inr none, .inr none, .inr none, .inr none, .inr none, .inr none, .inr none, .inl 0, .inl 0]))).bind fun h13 =>
    (fX3_init q11.2 h13 (q11.2 + 1)).bind fun q14 =>
    (tm_sF q14.1 8 4 this (.inr (some q11.2))).bind fun h15 =>
    (tm_nw h15 q14.2 (.inr (0, 4, .inl (fun _ => 0)))).bind fun h16 =>
    (tm_sF h16 8 5 this (.inr (some q14.2))).bind fun h17 =>
    some (h17, q14.2 + 1))
noncomputable def fX8_insert (this : Nat) (a1 : Int) (a2 : Int) (a3 : Int) (h : tm_H) : Option (Int × tm_H) :=
  tm_th h 8 this (
    (tm_gR h 8 0 this).bind fun r1 =>
    (tm_gR h 4 1 r1).bind fun r2 =>
    (fX0_has r2 a1 h).bind fun v3 =>
    if v3 = 0 then
    (some ((-1), h))
    else
    (if a2 < 0 then
    (some ((-1), h))
    else
    ((fX0_lengthOf r2 a1 h).bind fun v4 =>
    if v4 < a2 then
    (some ((-1), h))
    else
    ((tm_gR h 8 0 this).bind fun r5 =>
    (tm_gR h 4 0 r5).bind fun r6 =>
    (fX7_has r6 a3 h).bind fun v7 =>
    if v7 = 0 then
    (some ((-1), h))
    else
    ((fX0_lengthOf r2 a1 h).bind fun v8 =>
    if v8 < 40 then
    ((tm_gR h 8 2 this).bind fun r9 =>
    (tm_gR h 8 0 this).bind fun r10 =>
    (fX1_keep r9 r10 h).bind fun h11 =>
    (fX0_put r2 a1 a2 a3 h11).bind fun h12 =>
    (fX0_lengthOf r2 a1 h12).bind fun v13 =>
    some (v13, h12))
    else
    (some ((-3), h)))))))
noncomputable def fX8_delete (this : Nat) (a1 : Int) (a2 : Int) (a3 : Int) (h : tm_H) : Option (Int × tm_H) :=
  tm_th h 8 this (
    (tm_gR h 8 0 this).bind fun r1 =>
    (tm_gR h 4 1 r1).bind fun r2 =>
    (fX0_hasPlace r2 a1 a2 h).bind fun v3 =>
    if v3 = 0 then
    (some ((-1), h))
    else
    ((fX0_hasPlace r2 a1 a3 h).bind fun v4 =>
    if v4 = 0 then
    (some ((-1), h))
    else
    (if a3 < a2 then
    (some ((-1), h))
    else
    ((tm_gR h 8 2 this).bind fun r5 =>
    (tm_gR h 8 0 this).bind fun r6 =>
    (fX1_keep r5 r6 h).bind fun h7 =>
    (fX0_cut r2 a1 a2 a3 h7).bind fun h8 =>
    (fX0_lengthOf r2 a1 h8).bind fun v9 =>
    some (v9, h8)))))
noncomputable def fX8_replace (this : Nat) (a1 : Int) (a2 : Int) (h : tm_H) : Option (Int × tm_H) :=
  tm_th h 8 this (
    (tm_gR h 8 0 this).bind fun r1 =>
    (tm_gR h 4 0 r1).bind fun r2 =>
    (fX7_has r2 a1 h).bind fun v3 =>
    if v3 = 0 then
    (some ((-1), h))
    else
    ((tm_gR h 8 0 this).bind fun r4 =>
    (tm_gR h 4 0 r4).bind fun r5 =>
    (fX7_has r5 a2 h).bind fun v6 =>
    if v6 = 0 then
    (some ((-1), h))
    else
    (if a1 = a2 then
    (some ((-1), h))
    else
    ((tm_gR h 8 2 this).bind fun r7 =>
    (tm_gR h 8 0 this).bind fun r8 =>
    (fX1_keep r7 r8 h).bind fun h9 =>
    (tm_gR h9 8 0 this).bind fun r10 =>
    (tm_gR h9 4 1 r10).bind fun r11 =>
    (fX0_exchange r11 a1 a2 h9).bind fun q12 =>
    some (q12.1, q12.2)))))
noncomputable def fX8_readNow (this : Nat) (h : tm_H) : Option (Nat × tm_H) :=
  tm_th h 8 this (
    (tm_gR h 8 4 this).bind fun r1 =>
    (tm_gR h 8 0 this).bind fun r2 =>
    (fX3_read r1 r2 h).bind fun h3 =>
    (tm_gR h3 8 4 this).bind fun r4 =>
    some (r4, h3))
noncomputable def fX8_swap (this : Nat) (a1 : Int) (a2 : Int) (h : tm_H) : Option (Int × tm_H) :=
  tm_th h 8 this (
    (tm_gR h 8 0 this).bind fun r1 =>
    (tm_gR h 4 1 r1).bind fun r2 =>
    (fX0_has r2 a1 h).bind fun v3 =>
    if v3 = 0 then
    (some ((-1), h))
    else
    ((tm_gR h 8 0 this).bind fun r4 =>
    (tm_gR h 4 1 r4).bind fun r5 =>
    (fX0_has r5 a2 h).bind fun v6 =>
    if v6 = 0 then
    (some ((-1), h))
    else
    ((tm_gR h 8 2 this).bind fun r7 =>
    (tm_gR h 8 0 this).bind fun r8 =>
    (fX1_keep r7 r8 h).bind fun h9 =>
    (tm_gR h9 8 0 this).bind fun r10 =>
    (tm_gR h9 4 1 r10).bind fun r11 =>
    (fX0_trade r11 a1 a2 h9).bind fun h12 =>
    (fX8_readNow this h12).bind fun q13 =>
    (fX3_markCount q13.1 q13.2).bind fun v14 =>
    some (v14, q13.2))))
noncomputable def fX8_askedLength_S0 (this : Nat) (h : tm_H) (st : (Int × Int) ⊕ (Int × Int)) : Option (((Int × Int) ⊕ (Int × Int)) ⊕ (Int)) := match st with
  | .inl ((x1, x2)) =>
    if x2 < 4 then
    ((tm_gR h 8 5 this).bind fun r1 =>
    (tm_lI h 0 r1 x2).bind fun v2 =>
    if v2 = ((-1)) then
    (some (.inl (.inr ((x1, x2)))))
    else
    ((tm_gR h 8 0 this).bind fun r3 =>
    (tm_gR h 4 0 r3).bind fun r4 =>
    (tm_gR h 8 5 this).bind fun r5 =>
    (tm_lI h 0 r5 x2).bind fun v6 =>
    (fX7_has r4 v6 h).bind fun v7 =>
    if v7 = 0 then
    (some (.inr ((-1))))
    else
    (if x1 < x2 then
    (some (.inr ((-1))))
    else
    (some (.inl (.inr (((tm_wr (x1 + 1)), x2))))))))
    else
    (if x1 = 0 then
    (some (.inr ((-1))))
    else
    (some (.inr x1)))
  | .inr ((x1, x2)) =>
    some (.inl (.inl ((x1, (tm_wr (x2 + 1))))))
noncomputable def fX8_askedLength_L4 (this : Nat) (h : tm_H) (x1 : Int) (x2 : Int) : Option (Int) := tm_wl (fX8_askedLength_S0 this h) (.inl ((x1, x2)))
noncomputable def fX8_askedLength_L51 (this : Nat) (h : tm_H) (x1 : Int) (x2 : Int) : Option (Int) := tm_wl (fX8_askedLength_S0 this h) (.inr ((x1, x2)))
theorem fX8_askedLength_L4_eq (this : Nat) (h : tm_H) (x1 : Int) (x2 : Int) : fX8_askedLength_L4 this h x1 x2 =
    if x2 < 4 then
    ((tm_gR h 8 5 this).bind fun r8 =>
    (tm_lI h 0 r8 x2).bind fun v9 =>
    if v9 = ((-1)) then
    (fX8_askedLength_L51 this h x1 x2)
    else
    ((tm_gR h 8 0 this).bind fun r10 =>
    (tm_gR h 4 0 r10).bind fun r11 =>
    (tm_gR h 8 5 this).bind fun r12 =>
    (tm_lI h 0 r12 x2).bind fun v13 =>
    (fX7_has r11 v13 h).bind fun v14 =>
    if v14 = 0 then
    (some ((-1)))
    else
    (if x1 < x2 then
    (some ((-1)))
    else
    (fX8_askedLength_L51 this h (tm_wr (x1 + 1)) x2))))
    else
    (if x1 = 0 then
    (some ((-1)))
    else
    (some x1)) := by
  unfold fX8_askedLength_L4
  rw [tm_wl_eq]
  simp only [fX8_askedLength_S0, tm_go_ite, tm_go_bind, tm_go_inl, tm_go_inr, tm_go_out, tm_go_th]
  try rfl
theorem fX8_askedLength_L51_eq (this : Nat) (h : tm_H) (x1 : Int) (x2 : Int) : fX8_askedLength_L51 this h x1 x2 =
    fX8_askedLength_L4 this h x1 (tm_wr (x2 + 1)) := by
  unfold fX8_askedLength_L51
  rw [tm_wl_eq]
  simp only [fX8_askedLength_S0, tm_go_ite, tm_go_bind, tm_go_inl, tm_go_inr, tm_go_out, tm_go_th]
  try rfl
noncomputable def fX8_askedLength (this : Nat) (h : tm_H) : Option (Int) :=
  tm_th h 8 this (
    fX8_askedLength_L4 this h 0 0)
noncomputable def fX8_ask (this : Nat) (a1 : Int) (a2 : Int) (a3 : Int) (a4 : Int) (h : tm_H) : Option (Int × tm_H) :=
  tm_th h 8 this (
    (tm_gR h 8 5 this).bind fun r1 =>
    (tm_wI h 0 r1 0 a1).bind fun h2 =>
    (tm_gR h2 8 5 this).bind fun r3 =>
    (tm_wI h2 0 r3 1 a2).bind fun h4 =>
    (tm_gR h4 8 5 this).bind fun r5 =>
    (tm_wI h4 0 r5 2 a3).bind fun h6 =>
    (tm_gR h6 8 5 this).bind fun r7 =>
    (tm_wI h6 0 r7 3 a4).bind fun h8 =>
    (fX8_askedLength this h8).bind fun v9 =>
    if 0 < v9 then
    ((tm_gR h8 8 0 this).bind fun r10 =>
    (tm_gR h8 4 2 r10).bind fun r11 =>
    (tm_gR h8 8 0 this).bind fun r12 =>
    (tm_gR h8 4 0 r12).bind fun r13 =>
    (tm_gR h8 8 5 this).bind fun r14 =>
    (fX5_hasLike r11 r13 r14 v9 h8).bind fun v15 =>
    if v15 = 0 then
    (some (v9, h8))
    else
    (some ((-2), h8)))
    else
    (some (v9, h8)))
noncomputable def fX8_addTerm (this : Nat) (a1 : Int) (a2 : Int) (a3 : Int) (a4 : Int) (h : tm_H) : Option (Int × tm_H) :=
  tm_th h 8 this (
    (fX8_ask this a1 a2 a3 a4 h).bind fun q1 =>
    if q1.1 < 0 then
    (some (q1.1, q1.2))
    else
    ((tm_gR q1.2 8 0 this).bind fun r2 =>
    (tm_gR q1.2 4 2 r2).bind fun r3 =>
    (fX5_size r3 q1.2).bind fun v4 =>
    if v4 < 12 then
    ((tm_gR q1.2 8 2 this).bind fun r5 =>
    (tm_gR q1.2 8 0 this).bind fun r6 =>
    (fX1_keep r5 r6 q1.2).bind fun h7 =>
    (tm_gR h7 8 0 this).bind fun r8 =>
    (tm_gR h7 4 2 r8).bind fun r9 =>
    (tm_gR h7 8 5 this).bind fun r10 =>
    (fX5_add r9 r10 q1.1 h7).bind fun h11 =>
    (tm_gR h11 8 0 this).bind fun r12 =>
    (tm_gR h11 4 2 r12).bind fun r13 =>
    (fX5_size r13 h11).bind fun v14 =>
    some (tm_wr (v14 - 1), h11))
    else
    (some ((-3), q1.2))))
noncomputable def fX8_removeTerm (this : Nat) (a1 : Int) (h : tm_H) : Option (Int × tm_H) :=
  tm_th h 8 this (
    (tm_gR h 8 0 this).bind fun r1 =>
    (tm_gR h 4 2 r1).bind fun r2 =>
    (fX5_has r2 a1 h).bind fun v3 =>
    if v3 = 0 then
    (some ((-1), h))
    else
    ((tm_gR h 8 2 this).bind fun r4 =>
    (tm_gR h 8 0 this).bind fun r5 =>
    (fX1_keep r4 r5 h).bind fun h6 =>
    (tm_gR h6 8 0 this).bind fun r7 =>
    (tm_gR h6 4 2 r7).bind fun r8 =>
    (fX5_drop r8 a1 h6).bind fun h9 =>
    (tm_gR h9 8 0 this).bind fun r10 =>
    (tm_gR h9 4 2 r10).bind fun r11 =>
    (fX5_size r11 h9).bind fun v12 =>
    some (v12, h9)))
noncomputable def fX8_setQuiet_L54 (this : Nat) (a1 : Int) (a2 : Int) (s0 : Nat) (s1 : Int) (s2 : Int) (h : tm_H) : Option (Int × tm_H) :=
  (fX5_hush s0 s1 s2 h).bind fun h9 =>
  (fX8_readNow this h9).bind fun q10 =>
  (fX3_markCount q10.1 q10.2).bind fun v11 =>
  some (v11, q10.2)
noncomputable def fX8_setQuiet (this : Nat) (a1 : Int) (a2 : Int) (h : tm_H) : Option (Int × tm_H) :=
  tm_th h 8 this (
    (tm_gR h 8 0 this).bind fun r1 =>
    (tm_gR h 4 2 r1).bind fun r2 =>
    (fX5_has r2 a1 h).bind fun v3 =>
    if v3 = 0 then
    (some ((-1), h))
    else
    (if a2 < 0 then
    (some ((-1), h))
    else
    (if 1 < a2 then
    (some ((-1), h))
    else
    ((tm_gR h 8 2 this).bind fun r4 =>
    (tm_gR h 8 0 this).bind fun r5 =>
    (fX1_keep r4 r5 h).bind fun h6 =>
    (tm_gR h6 8 0 this).bind fun r7 =>
    (tm_gR h6 4 2 r7).bind fun r8 =>
    if a2 = 1 then
    (fX8_setQuiet_L54 this a1 a2 r8 a1 1 h6)
    else
    (fX8_setQuiet_L54 this a1 a2 r8 a1 0 h6)))))
noncomputable def fX8_setBase (this : Nat) (a1 : Int) (a2 : Int) (h : tm_H) : Option (Int × tm_H) :=
  tm_th h 8 this (
    (tm_gR h 8 0 this).bind fun r1 =>
    (tm_gR h 4 0 r1).bind fun r2 =>
    (fX7_has r2 a1 h).bind fun v3 =>
    if v3 = 0 then
    (some ((-1), h))
    else
    ((tm_gR h 8 0 this).bind fun r4 =>
    (tm_gR h 4 0 r4).bind fun r5 =>
    (fX7_has r5 a2 h).bind fun v6 =>
    if v6 = 0 then
    (some ((-1), h))
    else
    ((tm_gR h 8 0 this).bind fun r7 =>
    (fX4_mayHaveBase r7 a1 a2 h).bind fun q8 =>
    if q8.1 = 0 then
    (some ((-2), q8.2))
    else
    ((tm_gR q8.2 8 2 this).bind fun r9 =>
    (tm_gR q8.2 8 0 this).bind fun r10 =>
    (fX1_keep r9 r10 q8.2).bind fun h11 =>
    (tm_gR h11 8 0 this).bind fun r12 =>
    (tm_gR h11 4 0 r12).bind fun r13 =>
    (fX7_baseOf r13 a1 h11).bind fun v14 =>
    (tm_gR h11 8 0 this).bind fun r15 =>
    (tm_gR h11 4 0 r15).bind fun r16 =>
    (fX7_putBase r16 a1 a2 h11).bind fun h17 =>
    some (v14, h17)))))
noncomputable def fX8_take (this : Nat) (a1 : Int) (h : tm_H) : Option (Int × tm_H) :=
  tm_th h 8 this (
    (tm_gR h 8 0 this).bind fun r1 =>
    (fX4_hasSlot r1 a1 h).bind fun v2 =>
    if v2 = 0 then
    (some ((-1), h))
    else
    ((tm_gR h 8 2 this).bind fun r3 =>
    (tm_gR h 8 0 this).bind fun r4 =>
    (fX1_keep r3 r4 h).bind fun h5 =>
    (tm_gR h5 8 0 this).bind fun r6 =>
    (fX4_keepChapters r6 a1 h5).bind fun h7 =>
    (tm_gR h7 8 0 this).bind fun r8 =>
    (tm_gR h7 4 1 r8).bind fun r9 =>
    (fX0_total r9 h7).bind fun v10 =>
    some (v10, h7)))
noncomputable def fX8_restore (this : Nat) (a1 : Int) (h : tm_H) : Option (Int × tm_H) :=
  tm_th h 8 this (
    (tm_gR h 8 0 this).bind fun r1 =>
    (fX4_hasSlot r1 a1 h).bind fun v2 =>
    if v2 = 0 then
    (some ((-1), h))
    else
    ((tm_gR h 8 0 this).bind fun r3 =>
    (fX4_isTaken r3 a1 h).bind fun v4 =>
    if v4 = 0 then
    (some ((-2), h))
    else
    ((tm_gR h 8 2 this).bind fun r5 =>
    (tm_gR h 8 0 this).bind fun r6 =>
    (fX1_keep r5 r6 h).bind fun h7 =>
    (tm_gR h7 8 0 this).bind fun r8 =>
    (fX4_bringChapters r8 a1 h7).bind fun h9 =>
    (tm_gR h9 8 0 this).bind fun r10 =>
    (tm_gR h9 4 1 r10).bind fun r11 =>
    (fX0_total r11 h9).bind fun v12 =>
    some (v12, h9))))
noncomputable def fX8_undo (this : Nat) (h : tm_H) : Option (Int × tm_H) :=
  tm_th h 8 this (
    (tm_gR h 8 2 this).bind fun r1 =>
    (fX1_size r1 h).bind fun v2 =>
    if v2 = 0 then
    (some ((-2), h))
    else
    ((tm_gR h 8 2 this).bind fun r3 =>
    (tm_gR h 8 0 this).bind fun r4 =>
    (fX1_giveBack r3 r4 h).bind fun h5 =>
    (tm_gR h5 8 2 this).bind fun r6 =>
    (fX1_size r6 h5).bind fun v7 =>
    some (v7, h5)))
noncomputable def fX8_append (this : Nat) (a1 : Int) (h : tm_H) : Option (Int × tm_H) :=
  tm_th h 8 this (
    if a1 < 1 then
    (some ((-1), h))
    else
    (if 255 < a1 then
    (some ((-1), h))
    else
    ((tm_gR h 8 3 this).bind fun r1 =>
    (tm_gR h 2 0 r1).bind fun r2 =>
    (fX6_length r2 h).bind fun v3 =>
    if v3 < 140 then
    ((tm_gR h 8 3 this).bind fun r4 =>
    (tm_gR h 2 0 r4).bind fun r5 =>
    (fX6_add r5 a1 h).bind fun h6 =>
    (tm_gR h6 8 3 this).bind fun r7 =>
    (tm_gR h6 2 0 r7).bind fun r8 =>
    (fX6_length r8 h6).bind fun v9 =>
    some (v9, h6))
    else
    (some ((-3), h)))))
noncomputable def fX8_count (this : Nat) (a1 : Int) (h : tm_H) : Option (Int × tm_H) :=
  tm_th h 8 this (
    if a1 = 0 then
    ((tm_gR h 8 0 this).bind fun r1 =>
    (tm_gR h 4 0 r1).bind fun r2 =>
    (fX7_size r2 h).bind fun v3 =>
    some (v3, h))
    else
    (if a1 = 1 then
    ((tm_gR h 8 0 this).bind fun r5 =>
    (tm_gR h 4 1 r5).bind fun r6 =>
    (fX0_total r6 h).bind fun v7 =>
    some (v7, h))
    else
    (if a1 = 2 then
    ((tm_gR h 8 0 this).bind fun r9 =>
    (tm_gR h 4 2 r9).bind fun r10 =>
    (fX5_size r10 h).bind fun v11 =>
    some (v11, h))
    else
    (if a1 = 3 then
    ((tm_gR h 8 0 this).bind fun r13 =>
    (tm_gR h 4 2 r13).bind fun r14 =>
    (fX5_quietCount r14 h).bind fun v15 =>
    some (v15, h))
    else
    (if a1 = 4 then
    ((fX8_readNow this h).bind fun q17 =>
    (fX3_markCount q17.1 q17.2).bind fun v18 =>
    some (v18, q17.2))
    else
    (if a1 = 5 then
    ((fX8_readNow this h).bind fun q20 =>
    (fX3_readingCount q20.1 q20.2).bind fun v21 =>
    some (v21, q20.2))
    else
    (if a1 = 6 then
    ((tm_gR h 8 0 this).bind fun r23 =>
    (tm_gR h 4 0 r23).bind fun r24 =>
    (fX7_formCount r24 h).bind fun v25 =>
    some (v25, h))
    else
    (if a1 = 7 then
    ((tm_gR h 8 0 this).bind fun r27 =>
    (fX4_takenCount r27 h).bind fun v28 =>
    some (v28, h))
    else
    (if a1 = 8 then
    ((tm_gR h 8 2 this).bind fun r30 =>
    (fX1_size r30 h).bind fun v31 =>
    some (v31, h))
    else
    (if a1 = 9 then
    ((tm_gR h 8 3 this).bind fun r33 =>
    (tm_gR h 2 0 r33).bind fun r34 =>
    (fX6_length r34 h).bind fun v35 =>
    some (v35, h))
    else
    (some ((-1), h))))))))))))
noncomputable def fX8_letter (this : Nat) (a1 : Int) (a2 : Int) (h : tm_H) : Option (Int) :=
  tm_th h 8 this (
    (tm_gR h 8 0 this).bind fun r1 =>
    (tm_gR h 4 0 r1).bind fun r2 =>
    (fX7_has r2 a1 h).bind fun v3 =>
    if v3 = 0 then
    (some ((-1)))
    else
    (if a2 < 0 then
    (some ((-1)))
    else
    ((tm_gR h 8 0 this).bind fun r4 =>
    (tm_gR h 4 0 r4).bind fun r5 =>
    (fX7_letterAt r5 a1 a2 h).bind fun v6 =>
    some v6)))
noncomputable def fX8_base (this : Nat) (a1 : Int) (h : tm_H) : Option (Int) :=
  tm_th h 8 this (
    (tm_gR h 8 0 this).bind fun r1 =>
    (tm_gR h 4 0 r1).bind fun r2 =>
    (fX7_has r2 a1 h).bind fun v3 =>
    if v3 = 0 then
    (some ((-1)))
    else
    ((tm_gR h 8 0 this).bind fun r4 =>
    (tm_gR h 4 0 r4).bind fun r5 =>
    (fX7_baseOf r5 a1 h).bind fun v6 =>
    some v6))
noncomputable def fX8_place (this : Nat) (a1 : Int) (a2 : Int) (a3 : Int) (h : tm_H) : Option (Int × tm_H) :=
  tm_th h 8 this (
    (tm_gR h 8 0 this).bind fun r1 =>
    (tm_gR h 4 1 r1).bind fun r2 =>
    (fX0_has r2 a1 h).bind fun v3 =>
    if v3 = 0 then
    (some ((-1), h))
    else
    (if a2 < 0 then
    (some ((-1), h))
    else
    (if a3 < 0 then
    (some ((-1), h))
    else
    (if 3 < a3 then
    (some ((-1), h))
    else
    ((tm_gR h 8 0 this).bind fun r4 =>
    (tm_gR h 4 1 r4).bind fun r5 =>
    (fX0_hasPlace r5 a1 a2 h).bind fun v6 =>
    if v6 = 0 then
    (some ((-99), h))
    else
    (if a3 = 0 then
    ((tm_gR h 8 0 this).bind fun r7 =>
    (tm_gR h 4 1 r7).bind fun r8 =>
    (fX0_wordAt r8 a1 a2 h).bind fun v9 =>
    some (v9, h))
    else
    (if a3 = 1 then
    ((fX8_readNow this h).bind fun q11 =>
    (fX3_termOver q11.1 a1 a2 q11.2).bind fun v12 =>
    some (v12, q11.2))
    else
    (if a3 = 2 then
    ((fX8_readNow this h).bind fun q14 =>
    (fX3_stepOver q14.1 a1 a2 q14.2).bind fun v15 =>
    some (v15, q14.2))
    else
    ((fX8_readNow this h).bind fun q17 =>
    (fX3_hasMark q17.1 a1 a2 q17.2).bind fun v18 =>
    if v18 = 0 then
    (some (0, q17.2))
    else
    (some (1, q17.2)))))))))))
noncomputable def fX8_term (this : Nat) (a1 : Int) (a2 : Int) (h : tm_H) : Option (Int × tm_H) :=
  tm_th h 8 this (
    (tm_gR h 8 0 this).bind fun r1 =>
    (tm_gR h 4 2 r1).bind fun r2 =>
    (fX5_has r2 a1 h).bind fun v3 =>
    if v3 = 0 then
    (some ((-1), h))
    else
    (if a2 = 0 then
    ((tm_gR h 8 0 this).bind fun r4 =>
    (tm_gR h 4 2 r4).bind fun r5 =>
    (fX5_lengthOf r5 a1 h).bind fun v6 =>
    some (v6, h))
    else
    (if a2 = 1 then
    ((tm_gR h 8 0 this).bind fun r8 =>
    (tm_gR h 4 2 r8).bind fun r9 =>
    (fX5_wordAt r9 a1 (tm_wr (a2 - 1)) h).bind fun v10 =>
    some (v10, h))
    else
    (if a2 = 2 then
    ((tm_gR h 8 0 this).bind fun r12 =>
    (tm_gR h 4 2 r12).bind fun r13 =>
    (fX5_wordAt r13 a1 (tm_wr (a2 - 1)) h).bind fun v14 =>
    some (v14, h))
    else
    (if a2 = 3 then
    ((tm_gR h 8 0 this).bind fun r16 =>
    (tm_gR h 4 2 r16).bind fun r17 =>
    (fX5_wordAt r17 a1 (tm_wr (a2 - 1)) h).bind fun v18 =>
    some (v18, h))
    else
    (if a2 = 4 then
    ((tm_gR h 8 0 this).bind fun r20 =>
    (tm_gR h 4 2 r20).bind fun r21 =>
    (fX5_wordAt r21 a1 (tm_wr (a2 - 1)) h).bind fun v22 =>
    some (v22, h))
    else
    (if a2 = 5 then
    ((tm_gR h 8 0 this).bind fun r24 =>
    (tm_gR h 4 2 r24).bind fun r25 =>
    (fX5_isQuiet r25 a1 h).bind fun v26 =>
    if v26 = 0 then
    (some (0, h))
    else
    (some (1, h)))
    else
    (if a2 = 6 then
    ((fX8_readNow this h).bind fun q28 =>
    (fX3_timesRead q28.1 a1 q28.2).bind fun v29 =>
    some (v29, q28.2))
    else
    (if a2 = 7 then
    ((tm_gR h 8 0 this).bind fun r31 =>
    (fX4_occurrences r31 a1 h).bind fun v32 =>
    some (v32, h))
    else
    (if a2 = 8 then
    ((fX8_readNow this h).bind fun q34 =>
    (fX3_marksOf q34.1 a1 q34.2).bind fun v35 =>
    some (v35, q34.2))
    else
    (some ((-1), h))))))))))))
noncomputable def fX8_firstUse (this : Nat) (a1 : Int) (a2 : Int) (h : tm_H) : Option (Int × tm_H) :=
  tm_th h 8 this (
    (tm_gR h 8 0 this).bind fun r1 =>
    (tm_gR h 4 2 r1).bind fun r2 =>
    (fX5_has r2 a1 h).bind fun v3 =>
    if v3 = 0 then
    (some ((-1), h))
    else
    ((tm_gR h 8 0 this).bind fun r4 =>
    (tm_gR h 4 1 r4).bind fun r5 =>
    (fX0_has r5 a2 h).bind fun v6 =>
    if v6 = 0 then
    (some ((-1), h))
    else
    ((fX8_readNow this h).bind fun q7 =>
    (fX3_firstPlace q7.1 a1 a2 q7.2).bind fun v8 =>
    some (v8, q7.2))))
noncomputable def fX8_mark (this : Nat) (a1 : Int) (a2 : Int) (h : tm_H) : Option (Int × tm_H) :=
  tm_th h 8 this (
    if a1 < 0 then
    (some ((-1), h))
    else
    (if a2 < 0 then
    (some ((-1), h))
    else
    (if 2 < a2 then
    (some ((-1), h))
    else
    ((fX8_readNow this h).bind fun q1 =>
    (fX3_markPart q1.1 a1 a2 q1.2).bind fun v2 =>
    some (v2, q1.2)))))
noncomputable def fX8_why (this : Nat) (a1 : Int) (a2 : Int) (a3 : Int) (h : tm_H) : Option (Int × tm_H) :=
  tm_th h 8 this (
    (tm_gR h 8 0 this).bind fun r1 =>
    (tm_gR h 4 1 r1).bind fun r2 =>
    (fX0_hasPlace r2 a1 a2 h).bind fun v3 =>
    if v3 = 0 then
    (some ((-1), h))
    else
    ((tm_gR h 8 0 this).bind fun r4 =>
    (tm_gR h 4 2 r4).bind fun r5 =>
    (fX5_has r5 a3 h).bind fun v6 =>
    if v6 = 0 then
    (some ((-1), h))
    else
    ((tm_gR h 8 0 this).bind fun r7 =>
    (fX4_occursAt r7 a3 a1 a2 h).bind fun v8 =>
    if v8 = 0 then
    (some (1, h))
    else
    ((fX8_readNow this h).bind fun q9 =>
    (fX3_stepOver q9.1 a1 a2 q9.2).bind fun v10 =>
    if 0 < v10 then
    (some (3, q9.2))
    else
    ((fX3_termOver q9.1 a1 a2 q9.2).bind fun v11 =>
    if v11 = a3 then
    ((tm_gR q9.2 8 0 this).bind fun r12 =>
    (tm_gR q9.2 4 2 r12).bind fun r13 =>
    (fX5_isQuiet r13 a3 q9.2).bind fun v14 =>
    if v14 = 0 then
    ((fX3_firstPlace q9.1 a3 a1 q9.2).bind fun v15 =>
    if v15 = a2 then
    (some (0, q9.2))
    else
    (some (5, q9.2)))
    else
    (some (4, q9.2)))
    else
    (some (2, q9.2)))))))
noncomputable def fX8_nested (this : Nat) (a1 : Int) (a2 : Int) (h : tm_H) : Option (Int) :=
  tm_th h 8 this (
    (tm_gR h 8 0 this).bind fun r1 =>
    (tm_gR h 4 2 r1).bind fun r2 =>
    (fX5_has r2 a1 h).bind fun v3 =>
    if v3 = 0 then
    (some ((-1)))
    else
    ((tm_gR h 8 0 this).bind fun r4 =>
    (tm_gR h 4 2 r4).bind fun r5 =>
    (fX5_has r5 a2 h).bind fun v6 =>
    if v6 = 0 then
    (some ((-1)))
    else
    ((tm_gR h 8 0 this).bind fun r7 =>
    (fX4_timesWithin r7 a1 a2 h).bind fun v8 =>
    some v8)))
noncomputable def fX8_gain (this : Nat) (a1 : Int) (a2 : Int) (a3 : Int) (a4 : Int) (h : tm_H) : Option (Int × tm_H) :=
  tm_th h 8 this (
    (fX8_ask this a1 a2 a3 a4 h).bind fun q1 =>
    if q1.1 < 0 then
    (some (q1.1, q1.2))
    else
    ((fX8_readNow this q1.2).bind fun q2 =>
    (fX3_markCount q2.1 q2.2).bind fun v3 =>
    (tm_gR q2.2 8 1 this).bind fun r4 =>
    (tm_gR q2.2 8 0 this).bind fun r5 =>
    (fX4_copyFrom r4 r5 q2.2).bind fun h6 =>
    (tm_gR h6 8 1 this).bind fun r7 =>
    (tm_gR h6 4 2 r7).bind fun r8 =>
    (tm_gR h6 8 5 this).bind fun r9 =>
    (fX5_add r8 r9 q1.1 h6).bind fun h10 =>
    (tm_gR h10 8 4 this).bind fun r11 =>
    (tm_gR h10 8 1 this).bind fun r12 =>
    (fX3_read r11 r12 h10).bind fun h13 =>
    (tm_gR h13 8 4 this).bind fun r14 =>
    (fX3_markCount r14 h13).bind fun v15 =>
    some (tm_wr ((tm_wr (100 + v15)) - v3), h13)))
noncomputable def fX8_greediest_S0 (this : Nat) (st : (Int × Int × Int × tm_H) ⊕ (Int × Int × Int × tm_H)) : Option (((Int × Int × Int × tm_H) ⊕ (Int × Int × Int × tm_H)) ⊕ (Int × tm_H)) := match st with
  | .inl ((x1, x2, x3, h)) =>
    (tm_gR h 8 0 this).bind fun r1 =>
    (tm_gR h 4 2 r1).bind fun r2 =>
    (fX5_size r2 h).bind fun v3 =>
    if x3 < v3 then
    ((tm_gR h 8 1 this).bind fun r4 =>
    (tm_gR h 8 0 this).bind fun r5 =>
    (fX4_copyFrom r4 r5 h).bind fun h6 =>
    (tm_gR h6 8 1 this).bind fun r7 =>
    (tm_gR h6 4 2 r7).bind fun r8 =>
    (fX5_drop r8 x3 h6).bind fun h9 =>
    (tm_gR h9 8 4 this).bind fun r10 =>
    (tm_gR h9 8 1 this).bind fun r11 =>
    (fX3_read r10 r11 h9).bind fun h12 =>
    (tm_gR h12 8 4 this).bind fun r13 =>
    (fX3_markCount r13 h12).bind fun v14 =>
    if x2 < v14 then
    ((tm_gR h12 8 4 this).bind fun r15 =>
    (fX3_markCount r15 h12).bind fun v16 =>
    some (.inl (.inr ((x3, v16, x3, h12)))))
    else
    (some (.inl (.inr ((x1, x2, x3, h12))))))
    else
    (some (.inr (x1, h)))
  | .inr ((x1, x2, x3, h)) =>
    some (.inl (.inl ((x1, x2, (tm_wr (x3 + 1)), h))))
noncomputable def fX8_greediest_L7 (this : Nat) (x1 : Int) (x2 : Int) (x3 : Int) (h : tm_H) : Option (Int × tm_H) := tm_wl (fX8_greediest_S0 this) (.inl ((x1, x2, x3, h)))
noncomputable def fX8_greediest_L75 (this : Nat) (x1 : Int) (x2 : Int) (x3 : Int) (h : tm_H) : Option (Int × tm_H) := tm_wl (fX8_greediest_S0 this) (.inr ((x1, x2, x3, h)))
theorem fX8_greediest_L7_eq (this : Nat) (x1 : Int) (x2 : Int) (x3 : Int) (h : tm_H) : fX8_greediest_L7 this x1 x2 x3 h =
    (tm_gR h 8 0 this).bind fun r17 =>
    (tm_gR h 4 2 r17).bind fun r18 =>
    (fX5_size r18 h).bind fun v19 =>
    if x3 < v19 then
    ((tm_gR h 8 1 this).bind fun r20 =>
    (tm_gR h 8 0 this).bind fun r21 =>
    (fX4_copyFrom r20 r21 h).bind fun h22 =>
    (tm_gR h22 8 1 this).bind fun r23 =>
    (tm_gR h22 4 2 r23).bind fun r24 =>
    (fX5_drop r24 x3 h22).bind fun h25 =>
    (tm_gR h25 8 4 this).bind fun r26 =>
    (tm_gR h25 8 1 this).bind fun r27 =>
    (fX3_read r26 r27 h25).bind fun h28 =>
    (tm_gR h28 8 4 this).bind fun r29 =>
    (fX3_markCount r29 h28).bind fun v30 =>
    if x2 < v30 then
    ((tm_gR h28 8 4 this).bind fun r31 =>
    (fX3_markCount r31 h28).bind fun v32 =>
    fX8_greediest_L75 this x3 v32 x3 h28)
    else
    (fX8_greediest_L75 this x1 x2 x3 h28))
    else
    (some (x1, h)) := by
  unfold fX8_greediest_L7
  rw [tm_wl_eq]
  simp only [fX8_greediest_S0, tm_go_ite, tm_go_bind, tm_go_inl, tm_go_inr, tm_go_out, tm_go_th]
  try rfl
theorem fX8_greediest_L75_eq (this : Nat) (x1 : Int) (x2 : Int) (x3 : Int) (h : tm_H) : fX8_greediest_L75 this x1 x2 x3 h =
    fX8_greediest_L7 this x1 x2 (tm_wr (x3 + 1)) h := by
  unfold fX8_greediest_L75
  rw [tm_wl_eq]
  simp only [fX8_greediest_S0, tm_go_ite, tm_go_bind, tm_go_inl, tm_go_inr, tm_go_out, tm_go_th]
  try rfl
noncomputable def fX8_greediest (this : Nat) (h : tm_H) : Option (Int × tm_H) :=
  tm_th h 8 this (
    fX8_greediest_L7 this ((-99)) ((-1)) 0 h)
