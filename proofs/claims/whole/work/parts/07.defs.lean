noncomputable def fX0_has (this : Nat) (a1 : Int) (h : tm_H) : Option (Int) :=
  tm_th h 0 this (
    if a1 < 0 then
    (some 0)
    else
    (if a1 < 6 then
    (some 1)
    else
    (some 0)))
noncomputable def fX0_hasPlace (this : Nat) (a1 : Int) (a2 : Int) (h : tm_H) : Option (Int) :=
  tm_th h 0 this (
    if a1 < 0 then
    (some 0)
    else
    (if a1 < 6 then
    (if a2 < 0 then
    (some 0)
    else
    ((tm_gR h 0 1 this).bind fun r1 =>
    (tm_lI h 0 r1 a1).bind fun v2 =>
    if a2 < v2 then
    (some 1)
    else
    (some 0)))
    else
    (some 0)))
noncomputable def fX0_lengthOf (this : Nat) (a1 : Int) (h : tm_H) : Option (Int) :=
  tm_th h 0 this (
    if a1 < 0 then
    (some 0)
    else
    (if a1 < 6 then
    ((tm_gR h 0 1 this).bind fun r1 =>
    (tm_lI h 0 r1 a1).bind fun v2 =>
    some v2)
    else
    (some 0)))
noncomputable def fX0_wordAt (this : Nat) (a1 : Int) (a2 : Int) (h : tm_H) : Option (Int) :=
  tm_th h 0 this (
    if a1 < 0 then
    (some ((-99)))
    else
    (if a1 < 6 then
    (if a2 < 0 then
    (some ((-99)))
    else
    ((tm_gR h 0 1 this).bind fun r1 =>
    (tm_lI h 0 r1 a1).bind fun v2 =>
    if a2 < v2 then
    ((tm_gR h 0 0 this).bind fun r3 =>
    (tm_lR h 5 r3 a1).bind fun r4 =>
    (tm_lI h 0 r4 a2).bind fun v5 =>
    some v5)
    else
    (some ((-99)))))
    else
    (some ((-99)))))
noncomputable def fX0_put_S0 (this : Nat) (a1 : Int) (a2 : Int) (a3 : Int) (st : (Nat × Int × tm_H)) : Option (((Nat × Int × tm_H)) ⊕ (tm_H)) := match st with
  | (x4, x5, h) =>
    if a2 < x5 then
    ((tm_lI h 0 x4 (tm_wr (x5 - 1))).bind fun v10 =>
    (tm_wI h 0 x4 x5 v10).bind fun h11 =>
    some (.inl ((x4, (tm_wr (x5 + (-1))), h11))))
    else
    ((tm_wI h 0 x4 a2 a3).bind fun h12 =>
    (tm_gR h12 0 1 this).bind fun r13 =>
    (tm_lI h12 0 r13 a1).bind fun v14 =>
    (tm_wI h12 0 r13 a1 (tm_wr (v14 + 1))).bind fun h15 =>
    some (.inr h15))
noncomputable def fX0_put_L50 (this : Nat) (a1 : Int) (a2 : Int) (a3 : Int) (x4 : Nat) (x5 : Int) (h : tm_H) : Option (tm_H) := tm_wl (fX0_put_S0 this a1 a2 a3) ((x4, x5, h))
theorem fX0_put_L50_eq (this : Nat) (a1 : Int) (a2 : Int) (a3 : Int) (x4 : Nat) (x5 : Int) (h : tm_H) : fX0_put_L50 this a1 a2 a3 x4 x5 h =
    if a2 < x5 then
    ((tm_lI h 0 x4 (tm_wr (x5 - 1))).bind fun v16 =>
    (tm_wI h 0 x4 x5 v16).bind fun h17 =>
    fX0_put_L50 this a1 a2 a3 x4 (tm_wr (x5 + (-1))) h17)
    else
    ((tm_wI h 0 x4 a2 a3).bind fun h18 =>
    (tm_gR h18 0 1 this).bind fun r19 =>
    (tm_lI h18 0 r19 a1).bind fun v20 =>
    (tm_wI h18 0 r19 a1 (tm_wr (v20 + 1))).bind fun h21 =>
    some h21) := by
  unfold fX0_put_L50
  rw [tm_wl_eq]
  simp only [fX0_put_S0, tm_go_ite, tm_go_bind, tm_go_inl, tm_go_inr, tm_go_out, tm_go_th]
  try rfl
noncomputable def fX0_put (this : Nat) (a1 : Int) (a2 : Int) (a3 : Int) (h : tm_H) : Option (tm_H) :=
  tm_th h 0 this (
    (fX0_has this a1 h).bind fun v1 =>
    if v1 = 0 then
    (some h)
    else
    (if a2 < 0 then
    (some h)
    else
    ((tm_gR h 0 1 this).bind fun r2 =>
    (tm_lI h 0 r2 a1).bind fun v3 =>
    if v3 < a2 then
    (some h)
    else
    ((tm_gR h 0 1 this).bind fun r4 =>
    (tm_lI h 0 r4 a1).bind fun v5 =>
    if v5 < 40 then
    ((tm_gR h 0 0 this).bind fun r6 =>
    (tm_lR h 5 r6 a1).bind fun r7 =>
    (tm_gR h 0 1 this).bind fun r8 =>
    (tm_lI h 0 r8 a1).bind fun v9 =>
    fX0_put_L50 this a1 a2 a3 r7 v9 h)
    else
    (some h)))))
noncomputable def fX0_cut_S0 (this : Nat) (a1 : Int) (a2 : Int) (a3 : Int) (st : (Nat × Int × Int × tm_H)) : Option (((Nat × Int × Int × tm_H)) ⊕ (tm_H)) := match st with
  | (x4, x5, x6, h) =>
    (tm_gR h 0 1 this).bind fun r5 =>
    (tm_lI h 0 r5 a1).bind fun v6 =>
    if x6 < v6 then
    ((tm_lI h 0 x4 x6).bind fun v7 =>
    (tm_wI h 0 x4 (tm_wr (x6 - x5)) v7).bind fun h8 =>
    some (.inl ((x4, x5, (tm_wr (x6 + 1)), h8))))
    else
    ((tm_gR h 0 1 this).bind fun r9 =>
    (tm_lI h 0 r9 a1).bind fun v10 =>
    (tm_wI h 0 r9 a1 (tm_wr (v10 - x5))).bind fun h11 =>
    some (.inr h11))
noncomputable def fX0_cut_L44 (this : Nat) (a1 : Int) (a2 : Int) (a3 : Int) (x4 : Nat) (x5 : Int) (x6 : Int) (h : tm_H) : Option (tm_H) := tm_wl (fX0_cut_S0 this a1 a2 a3) ((x4, x5, x6, h))
theorem fX0_cut_L44_eq (this : Nat) (a1 : Int) (a2 : Int) (a3 : Int) (x4 : Nat) (x5 : Int) (x6 : Int) (h : tm_H) : fX0_cut_L44 this a1 a2 a3 x4 x5 x6 h =
    (tm_gR h 0 1 this).bind fun r12 =>
    (tm_lI h 0 r12 a1).bind fun v13 =>
    if x6 < v13 then
    ((tm_lI h 0 x4 x6).bind fun v14 =>
    (tm_wI h 0 x4 (tm_wr (x6 - x5)) v14).bind fun h15 =>
    fX0_cut_L44 this a1 a2 a3 x4 x5 (tm_wr (x6 + 1)) h15)
    else
    ((tm_gR h 0 1 this).bind fun r16 =>
    (tm_lI h 0 r16 a1).bind fun v17 =>
    (tm_wI h 0 r16 a1 (tm_wr (v17 - x5))).bind fun h18 =>
    some h18) := by
  unfold fX0_cut_L44
  rw [tm_wl_eq]
  simp only [fX0_cut_S0, tm_go_ite, tm_go_bind, tm_go_inl, tm_go_inr, tm_go_out, tm_go_th]
  try rfl
noncomputable def fX0_cut (this : Nat) (a1 : Int) (a2 : Int) (a3 : Int) (h : tm_H) : Option (tm_H) :=
  tm_th h 0 this (
    (fX0_hasPlace this a1 a2 h).bind fun v1 =>
    if v1 = 0 then
    (some h)
    else
    ((fX0_hasPlace this a1 a3 h).bind fun v2 =>
    if v2 = 0 then
    (some h)
    else
    (if a3 < a2 then
    (some h)
    else
    ((tm_gR h 0 0 this).bind fun r3 =>
    (tm_lR h 5 r3 a1).bind fun r4 =>
    fX0_cut_L44 this a1 a2 a3 r4 (tm_wr ((tm_wr (a3 - a2)) + 1)) (tm_wr (a3 + 1)) h))))
noncomputable def fX0_empty (this : Nat) (a1 : Int) (h : tm_H) : Option (tm_H) :=
  tm_th h 0 this (
    (fX0_has this a1 h).bind fun v1 =>
    if v1 = 0 then
    (some h)
    else
    ((tm_gR h 0 1 this).bind fun r2 =>
    (tm_wI h 0 r2 a1 0).bind fun h3 =>
    some h3))
noncomputable def fX0_exchange_S0 (this : Nat) (a1 : Int) (a2 : Int) (st : (Int × Int × tm_H) ⊕ (Int × Int × Int × tm_H) ⊕ (Int × Int × Int × tm_H)) : Option (((Int × Int × tm_H) ⊕ (Int × Int × Int × tm_H) ⊕ (Int × Int × Int × tm_H)) ⊕ (Int × tm_H)) := match st with
  | .inl ((x3, x4, h)) =>
    if x4 < 6 then
    (some (.inl (.inr (.inl ((x3, x4, 0, h))))))
    else
    (some (.inr (x3, h)))
  | .inr (.inl ((x3, x4, x5, h))) =>
    (tm_gR h 0 1 this).bind fun r1 =>
    (tm_lI h 0 r1 x4).bind fun v2 =>
    if x5 < v2 then
    ((tm_gR h 0 0 this).bind fun r3 =>
    (tm_lR h 5 r3 x4).bind fun r4 =>
    (tm_lI h 0 r4 x5).bind fun v5 =>
    if v5 = a1 then
    ((tm_gR h 0 0 this).bind fun r6 =>
    (tm_lR h 5 r6 x4).bind fun r7 =>
    (tm_wI h 0 r7 x5 a2).bind fun h8 =>
    some (.inl (.inr (.inr (((tm_wr (x3 + 1)), x4, x5, h8))))))
    else
    (some (.inl (.inr (.inr ((x3, x4, x5, h)))))))
    else
    (some (.inl (.inl ((x3, (tm_wr (x4 + 1)), h)))))
  | .inr (.inr ((x3, x4, x5, h))) =>
    some (.inl (.inr (.inl ((x3, x4, (tm_wr (x5 + 1)), h)))))
noncomputable def fX0_exchange_L5 (this : Nat) (a1 : Int) (a2 : Int) (x3 : Int) (x4 : Int) (h : tm_H) : Option (Int × tm_H) := tm_wl (fX0_exchange_S0 this a1 a2) (.inl ((x3, x4, h)))
noncomputable def fX0_exchange_L15 (this : Nat) (a1 : Int) (a2 : Int) (x3 : Int) (x4 : Int) (x5 : Int) (h : tm_H) : Option (Int × tm_H) := tm_wl (fX0_exchange_S0 this a1 a2) (.inr (.inl ((x3, x4, x5, h))))
noncomputable def fX0_exchange_L55 (this : Nat) (a1 : Int) (a2 : Int) (x3 : Int) (x4 : Int) (x5 : Int) (h : tm_H) : Option (Int × tm_H) := tm_wl (fX0_exchange_S0 this a1 a2) (.inr (.inr ((x3, x4, x5, h))))
theorem fX0_exchange_L5_eq (this : Nat) (a1 : Int) (a2 : Int) (x3 : Int) (x4 : Int) (h : tm_H) : fX0_exchange_L5 this a1 a2 x3 x4 h =
    if x4 < 6 then
    (fX0_exchange_L15 this a1 a2 x3 x4 0 h)
    else
    (some (x3, h)) := by
  unfold fX0_exchange_L5
  rw [tm_wl_eq]
  simp only [fX0_exchange_S0, tm_go_ite, tm_go_bind, tm_go_inl, tm_go_inr, tm_go_out, tm_go_th]
  try rfl
theorem fX0_exchange_L15_eq (this : Nat) (a1 : Int) (a2 : Int) (x3 : Int) (x4 : Int) (x5 : Int) (h : tm_H) : fX0_exchange_L15 this a1 a2 x3 x4 x5 h =
    (tm_gR h 0 1 this).bind fun r9 =>
    (tm_lI h 0 r9 x4).bind fun v10 =>
    if x5 < v10 then
    ((tm_gR h 0 0 this).bind fun r11 =>
    (tm_lR h 5 r11 x4).bind fun r12 =>
    (tm_lI h 0 r12 x5).bind fun v13 =>
    if v13 = a1 then
    ((tm_gR h 0 0 this).bind fun r14 =>
    (tm_lR h 5 r14 x4).bind fun r15 =>
    (tm_wI h 0 r15 x5 a2).bind fun h16 =>
    fX0_exchange_L55 this a1 a2 (tm_wr (x3 + 1)) x4 x5 h16)
    else
    (fX0_exchange_L55 this a1 a2 x3 x4 x5 h))
    else
    (fX0_exchange_L5 this a1 a2 x3 (tm_wr (x4 + 1)) h) := by
  unfold fX0_exchange_L15
  rw [tm_wl_eq]
  simp only [fX0_exchange_S0, tm_go_ite, tm_go_bind, tm_go_inl, tm_go_inr, tm_go_out, tm_go_th]
  try rfl
theorem fX0_exchange_L55_eq (this : Nat) (a1 : Int) (a2 : Int) (x3 : Int) (x4 : Int) (x5 : Int) (h : tm_H) : fX0_exchange_L55 this a1 a2 x3 x4 x5 h =
    fX0_exchange_L15 this a1 a2 x3 x4 (tm_wr (x5 + 1)) h := by
  unfold fX0_exchange_L55
  rw [tm_wl_eq]
  simp only [fX0_exchange_S0, tm_go_ite, tm_go_bind, tm_go_inl, tm_go_inr, tm_go_out, tm_go_th]
  try rfl
noncomputable def fX0_exchange (this : Nat) (a1 : Int) (a2 : Int) (h : tm_H) : Option (Int × tm_H) :=
  tm_th h 0 this (
    fX0_exchange_L5 this a1 a2 0 0 h)
noncomputable def fX0_trade (this : Nat) (a1 : Int) (a2 : Int) (h : tm_H) : Option (tm_H) :=
  tm_th h 0 this (
    (fX0_has this a1 h).bind fun v1 =>
    if v1 = 0 then
    (some h)
    else
    ((fX0_has this a2 h).bind fun v2 =>
    if v2 = 0 then
    (some h)
    else
    ((tm_gR h 0 0 this).bind fun r3 =>
    (tm_lR h 5 r3 a1).bind fun r4 =>
    (tm_gR h 0 0 this).bind fun r5 =>
    (tm_gR h 0 0 this).bind fun r6 =>
    (tm_lR h 5 r6 a2).bind fun r7 =>
    (tm_wR h 5 r5 a1 100 r7).bind fun h8 =>
    (tm_gR h8 0 0 this).bind fun r9 =>
    (tm_wR h8 5 r9 a2 100 r4).bind fun h10 =>
    (tm_gR h10 0 1 this).bind fun r11 =>
    (tm_lI h10 0 r11 a1).bind fun v12 =>
    (tm_gR h10 0 1 this).bind fun r13 =>
    (tm_gR h10 0 1 this).bind fun r14 =>
    (tm_lI h10 0 r14 a2).bind fun v15 =>
    (tm_wI h10 0 r13 a1 v15).bind fun h16 =>
    (tm_gR h16 0 1 this).bind fun r17 =>
    (tm_wI h16 0 r17 a2 v12).bind fun h18 =>
    some h18)))
noncomputable def fX0_total_S0 (this : Nat) (h : tm_H) (st : (Int × Int)) : Option (((Int × Int)) ⊕ (Int)) := match st with
  | (x1, x2) =>
    if x2 < 6 then
    ((tm_gR h 0 1 this).bind fun r1 =>
    (tm_lI h 0 r1 x2).bind fun v2 =>
    some (.inl (((tm_wr (x1 + v2)), (tm_wr (x2 + 1))))))
    else
    (some (.inr x1))
noncomputable def fX0_total_L4 (this : Nat) (h : tm_H) (x1 : Int) (x2 : Int) : Option (Int) := tm_wl (fX0_total_S0 this h) ((x1, x2))
theorem fX0_total_L4_eq (this : Nat) (h : tm_H) (x1 : Int) (x2 : Int) : fX0_total_L4 this h x1 x2 =
    if x2 < 6 then
    ((tm_gR h 0 1 this).bind fun r3 =>
    (tm_lI h 0 r3 x2).bind fun v4 =>
    fX0_total_L4 this h (tm_wr (x1 + v4)) (tm_wr (x2 + 1)))
    else
    (some x1) := by
  unfold fX0_total_L4
  rw [tm_wl_eq]
  simp only [fX0_total_S0, tm_go_ite, tm_go_bind, tm_go_inl, tm_go_inr, tm_go_out, tm_go_th]
  try rfl
noncomputable def fX0_total (this : Nat) (h : tm_H) : Option (Int) :=
  tm_th h 0 this (
    fX0_total_L4 this h 0 0)
