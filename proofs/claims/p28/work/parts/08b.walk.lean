def rmX6_init : Room := { frames := 1, cells := 1, slots := 140, locals := 20 }
set_option maxRecDepth 100000 in
set_option maxHeartbeats 4000000 in
theorem cX6_init_ok (l : Launch) (G : tw_G) (n : Nat) (this : Nat)  (h : tm_H) (out : tm_H × Nat) (hk : fX6_init this h n = some out) : Met l yX6_init (tw_WS yX6_init cX6_init 1 none) rmX6_init (va_Pc [.ref this] (tw_Pre G n h)) (tw_Qv G out.2 out.1) 1 140 (tw_F G) := by
  refine tw_met (by decide +kernel) (Nat.le_of_ble_eq_true rfl) ?_
  intro p e s m args below meth c H ls hC hnm hR hl
  unfold fX6_init at hk
  obtain ⟨hob, hk⟩ := tm_th_is hk
  have hl : lv_has ls 1 [(0, .ref this)] := hl
  have hL : tw_L G [] := fun q z => by cases z
  generalize hlc : ([] : List Loc) = locs at hL ⊢
  refine lv_aload_n hC.1 hC.2.1 dX6_init_0 rfl (lv_at hl 0 rfl) ?_
  refine tw_objInit hC (tw_in_TB 140 (by decide +kernel) rfl) tw_oiI tw_oiC hl.1 dX6_init_1 (by decide) (Nat.le_of_ble_eq_true rfl) ?_
  refine lv_aload_n hC.1 hC.2.1 dX6_init_4 rfl (lv_at hl 0 rfl) ?_
  refine lv_sipush (v := tw_I 140) hC.1 hC.2.1 dX6_init_5 (by decide) ?_
  refine tw_nai hC hR tw_ari 140 (by decide) hk ⟨by decide, by decide⟩ dX6_init_8 (fun h1 H hR hk => ?_)
  refine tw_putR hC hR hL hnm rfl rfl hk fpX6_9 dX6_init_10 (fun h2 H locs hR hL hk => ?_)
  refine lv_aload_n hC.1 hC.2.1 dX6_init_13 rfl (lv_at hl 0 rfl) ?_
  refine lv_iconst (v := tw_I 0) hC.1 hC.2.1 dX6_init_14 rfl ?_
  refine tw_putI hC hR hL ((tw_rgL rfl)) hk fpX6_13 dX6_init_15 (fun h3 H locs hR hL hk => ?_)
  cases hk
  exact tw_vret hC hR hL rfl dX6_init_18
set_option maxRecDepth 100000 in
theorem kX6_init {l : Launch} {p : Program} {e : Env} {R : Room} {s : State} {m : MethodId} {args : Array Value} {below : List Frame} {meth : Method} {c : Code} {H : Heap} {locs : List Loc} {cells slots : Nat} {Q : State → Prop} {cc : ByteArray} {pc nL idx : Nat} {ls : Array Slot} {rest : List Value} {G : tw_G} {h : tm_H} {own : String} {ret : Option FieldType} {α : Type} {x : α} {n : Nat} {this : Nat} (hC : tw_C G p s m args meth c own cc nL ret) (hR : tw_Rel G n h H) (hL : tw_L G locs) {F : tm_H × Nat → Option α} (hk : (fX6_init this h n).bind F = some x)  (hl : tw_mL own idx yX6_init) (hRm : rmX6_init.frames + 1 ≤ R.frames ∧ 8 + (1 + 11) + rmX6_init.locals ≤ R.locals) (hsz : ls.size = nL) (hW : (rest.map fun v => v.category).sum ≤ 8) (hf : cells + 1 ≤ R.cells ∧ slots + 140 ≤ R.slots) (hdg : decode cc pc = .ok (.invokespecial idx, 3)) (kk : ∀ (h1 : tm_H) (n1 : Nat) (H1 : Heap) (locs1 : List Loc), tw_Rel G n1 h1 H1 → tw_L G locs1 → F (h1, n1) = some x → W p l e R s m args below meth c H1 locs1 (cells + 1) (slots + 140) Q (F0 m (pc + 3) ls (rest))) : W p l e R s m args below meth c H locs cells slots Q (F0 m pc ls (.ref this :: rest)) := by
  obtain ⟨r, hr, hF⟩ := Option.bind_eq_some_iff.mp hk
  exact tw_backv (tw_runI hC hR (cX6_init_ok l G n this  h r hr) (n := 0) (As := []) ⟨tw_in_TB 139 (by decide +kernel) rfl, tw_in_TB 16 (by decide +kernel) rfl, by decide +kernel⟩ (tw_in_TB 138 (by decide +kernel) rfl) rfl hl ⟨rfl, rfl⟩ hRm rfl hsz rfl hW hdg hf) hL (fun H1 locs1 a b => kk r.1 r.2 H1 locs1 a b hF)
def rmX2_init : Room := { frames := 3, cells := 53, slots := 1135, locals := 64 }
set_option maxRecDepth 100000 in
set_option maxHeartbeats 4000000 in
theorem cX2_init_ok (l : Launch) (G : tw_G) (n : Nat) (this : Nat)  (h : tm_H) (out : tm_H × Nat) (hk : fX2_init this h n = some out) : Met l yX2_init (tw_WS yX2_init cX2_init 1 none) rmX2_init (va_Pc [.ref this] (tw_Pre G n h)) (tw_Qv G out.2 out.1) 53 1135 (tw_F G) := by
  refine tw_met (by decide +kernel) (Nat.le_of_ble_eq_true rfl) ?_
  intro p e s m args below meth c H ls hC hnm hR hl
  unfold fX2_init at hk
  obtain ⟨hob, hk⟩ := tm_th_is hk
  have hl : lv_has ls 1 [(0, .ref this)] := hl
  have hL : tw_L G [] := fun q z => by cases z
  generalize hlc : ([] : List Loc) = locs at hL ⊢
  refine lv_aload_n hC.1 hC.2.1 dX2_init_0 rfl (lv_at hl 0 rfl) ?_
  refine tw_objInit hC (tw_in_TB 134 (by decide +kernel) rfl) tw_oiI tw_oiC hl.1 dX2_init_1 (by decide) (Nat.le_of_ble_eq_true rfl) ?_
  refine lv_aload_n hC.1 hC.2.1 dX2_init_4 rfl (lv_at hl 0 rfl) ?_
  refine tw_new hC hR nwX2_9 hk ⟨by decide, by decide⟩ dX2_init_5 (fun h1 H hR hk => ?_)
  refine lv_dup hC.1 hC.2.1 dX2_init_8 rfl ?_
  refine kX6_init hC hR hL hk mlX2_11 ⟨by decide, by decide⟩ hl.1 (Nat.le_of_ble_eq_true rfl) ⟨by decide, by decide⟩ dX2_init_9 (fun h2 n2 H locs hR hL hk => ?_)
  refine tw_putR hC hR hL hnm rfl rfl hk fpX2_12 dX2_init_12 (fun h3 H locs hR hL hk => ?_)
  refine lv_aload_n hC.1 hC.2.1 dX2_init_15 rfl (lv_at hl 0 rfl) ?_
  refine tw_new hC hR nwX2_18 hk ⟨by decide, by decide⟩ dX2_init_16 (fun h4 H hR hk => ?_)
  refine lv_dup hC.1 hC.2.1 dX2_init_19 rfl ?_
  refine kX4_init hC hR hL hk mlX2_20 ⟨by decide, by decide⟩ hl.1 (Nat.le_of_ble_eq_true rfl) ⟨by decide, by decide⟩ dX2_init_20 (fun h5 n5 H locs hR hL hk => ?_)
  refine tw_putR hC hR hL hnm rfl rfl hk fpX2_21 dX2_init_23 (fun h6 H locs hR hL hk => ?_)
  refine lv_aload_n hC.1 hC.2.1 dX2_init_26 rfl (lv_at hl 0 rfl) ?_
  refine lv_iconst (v := tw_I 4) hC.1 hC.2.1 dX2_init_27 rfl ?_
  refine tw_nai hC hR tw_ari 4 (by decide) hk ⟨by decide, by decide⟩ dX2_init_28 (fun h7 H hR hk => ?_)
  refine tw_putR hC hR hL hnm rfl rfl hk fpX2_27 dX2_init_30 (fun h8 H locs hR hL hk => ?_)
  refine lv_aload_n hC.1 hC.2.1 dX2_init_33 rfl (lv_at hl 0 rfl) ?_
  refine lv_iconst (v := tw_I 0) hC.1 hC.2.1 dX2_init_34 rfl ?_
  refine tw_putI hC hR hL ((tw_rgL rfl)) hk fpX2_31 dX2_init_35 (fun h9 H locs hR hL hk => ?_)
  refine lv_aload_n hC.1 hC.2.1 dX2_init_38 rfl (lv_at hl 0 rfl) ?_
  refine lv_iconst (v := tw_I 0) hC.1 hC.2.1 dX2_init_39 rfl ?_
  refine tw_putI hC hR hL ((tw_rgL rfl)) hk fpX2_35 dX2_init_40 (fun h10 H locs hR hL hk => ?_)
  cases hk
  exact tw_vret hC hR hL rfl dX2_init_43
set_option maxRecDepth 100000 in
theorem kX2_init {l : Launch} {p : Program} {e : Env} {R : Room} {s : State} {m : MethodId} {args : Array Value} {below : List Frame} {meth : Method} {c : Code} {H : Heap} {locs : List Loc} {cells slots : Nat} {Q : State → Prop} {cc : ByteArray} {pc nL idx : Nat} {ls : Array Slot} {rest : List Value} {G : tw_G} {h : tm_H} {own : String} {ret : Option FieldType} {α : Type} {x : α} {n : Nat} {this : Nat} (hC : tw_C G p s m args meth c own cc nL ret) (hR : tw_Rel G n h H) (hL : tw_L G locs) {F : tm_H × Nat → Option α} (hk : (fX2_init this h n).bind F = some x)  (hl : tw_mL own idx yX2_init) (hRm : rmX2_init.frames + 1 ≤ R.frames ∧ 8 + (1 + 11) + rmX2_init.locals ≤ R.locals) (hsz : ls.size = nL) (hW : (rest.map fun v => v.category).sum ≤ 8) (hf : cells + 53 ≤ R.cells ∧ slots + 1135 ≤ R.slots) (hdg : decode cc pc = .ok (.invokespecial idx, 3)) (kk : ∀ (h1 : tm_H) (n1 : Nat) (H1 : Heap) (locs1 : List Loc), tw_Rel G n1 h1 H1 → tw_L G locs1 → F (h1, n1) = some x → W p l e R s m args below meth c H1 locs1 (cells + 53) (slots + 1135) Q (F0 m (pc + 3) ls (rest))) : W p l e R s m args below meth c H locs cells slots Q (F0 m pc ls (.ref this :: rest)) := by
  obtain ⟨r, hr, hF⟩ := Option.bind_eq_some_iff.mp hk
  exact tw_backv (tw_runI hC hR (cX2_init_ok l G n this  h r hr) (n := 0) (As := []) ⟨tw_in_TB 133 (by decide +kernel) rfl, tw_in_TB 15 (by decide +kernel) rfl, by decide +kernel⟩ (tw_in_TB 132 (by decide +kernel) rfl) rfl hl ⟨rfl, rfl⟩ hRm rfl hsz rfl hW hdg hf) hL (fun H1 locs1 a b => kk r.1 r.2 H1 locs1 a b hF)
def rmX3_init : Room := { frames := 1, cells := 32, slots := 830, locals := 20 }
set_option maxRecDepth 100000 in
set_option maxHeartbeats 4000000 in
theorem cX3_init_ok (l : Launch) (G : tw_G) (n : Nat) (this : Nat)  (h : tm_H) (out : tm_H × Nat) (hk : fX3_init this h n = some out) : Met l yX3_init (tw_WS yX3_init cX3_init 1 none) rmX3_init (va_Pc [.ref this] (tw_Pre G n h)) (tw_Qv G out.2 out.1) 32 830 (tw_F G) := by
  refine tw_met (by decide +kernel) (Nat.le_of_ble_eq_true rfl) ?_
  intro p e s m args below meth c H ls hC hnm hR hl
  unfold fX3_init at hk
  obtain ⟨hob, hk⟩ := tm_th_is hk
  have hl : lv_has ls 1 [(0, .ref this)] := hl
  have hL : tw_L G [] := fun q z => by cases z
  generalize hlc : ([] : List Loc) = locs at hL ⊢
  refine lv_aload_n hC.1 hC.2.1 dX3_init_0 rfl (lv_at hl 0 rfl) ?_
  refine tw_objInit hC (tw_in_TB 172 (by decide +kernel) rfl) tw_oiI tw_oiC hl.1 dX3_init_1 (by decide) (Nat.le_of_ble_eq_true rfl) ?_
  refine lv_aload_n hC.1 hC.2.1 dX3_init_4 rfl (lv_at hl 0 rfl) ?_
  refine lv_bipush (v := tw_I 6) hC.1 hC.2.1 dX3_init_5 (by decide) ?_
  refine lv_bipush (v := tw_I 40) hC.1 hC.2.1 dX3_init_7 (by decide) ?_
  refine tw_nm hC hR mnX3_13 tw_ari 6 40 (by decide) (by decide) hk ⟨by decide, by decide⟩ dX3_init_9 (fun h1 H hR hk => ?_)
  refine tw_putR hC hR hL hnm rfl rfl hk fpX3_15 dX3_init_13 (fun h2 H locs hR hL hk => ?_)
  refine lv_aload_n hC.1 hC.2.1 dX3_init_16 rfl (lv_at hl 0 rfl) ?_
  refine lv_bipush (v := tw_I 6) hC.1 hC.2.1 dX3_init_17 (by decide) ?_
  refine lv_bipush (v := tw_I 40) hC.1 hC.2.1 dX3_init_19 (by decide) ?_
  refine tw_nm hC hR mnX3_13 tw_ari 6 40 (by decide) (by decide) hk ⟨by decide, by decide⟩ dX3_init_21 (fun h3 H hR hk => ?_)
  refine tw_putR hC hR hL hnm rfl rfl hk fpX3_20 dX3_init_25 (fun h4 H locs hR hL hk => ?_)
  refine lv_aload_n hC.1 hC.2.1 dX3_init_28 rfl (lv_at hl 0 rfl) ?_
  refine lv_bipush (v := tw_I 13) hC.1 hC.2.1 dX3_init_29 (by decide) ?_
  refine lv_bipush (v := tw_I 6) hC.1 hC.2.1 dX3_init_31 (by decide) ?_
  refine tw_nm hC hR mnX3_13 tw_ari 13 6 (by decide) (by decide) hk ⟨by decide, by decide⟩ dX3_init_33 (fun h5 H hR hk => ?_)
  refine tw_putR hC hR hL hnm rfl rfl hk fpX3_23 dX3_init_37 (fun h6 H locs hR hL hk => ?_)
  refine lv_aload_n hC.1 hC.2.1 dX3_init_40 rfl (lv_at hl 0 rfl) ?_
  refine lv_bipush (v := tw_I 13) hC.1 hC.2.1 dX3_init_41 (by decide) ?_
  refine tw_nai hC hR tw_ari 13 (by decide) hk ⟨by decide, by decide⟩ dX3_init_43 (fun h7 H hR hk => ?_)
  refine tw_putR hC hR hL hnm rfl rfl hk fpX3_26 dX3_init_45 (fun h8 H locs hR hL hk => ?_)
  refine lv_aload_n hC.1 hC.2.1 dX3_init_48 rfl (lv_at hl 0 rfl) ?_
  refine lv_bipush (v := tw_I 78) hC.1 hC.2.1 dX3_init_49 (by decide) ?_
  refine tw_nai hC hR tw_ari 78 (by decide) hk ⟨by decide, by decide⟩ dX3_init_51 (fun h9 H hR hk => ?_)
  refine tw_putR hC hR hL hnm rfl rfl hk fpX3_30 dX3_init_53 (fun h10 H locs hR hL hk => ?_)
  refine lv_aload_n hC.1 hC.2.1 dX3_init_56 rfl (lv_at hl 0 rfl) ?_
  refine lv_bipush (v := tw_I 78) hC.1 hC.2.1 dX3_init_57 (by decide) ?_
  refine tw_nai hC hR tw_ari 78 (by decide) hk ⟨by decide, by decide⟩ dX3_init_59 (fun h11 H hR hk => ?_)
  refine tw_putR hC hR hL hnm rfl rfl hk fpX3_33 dX3_init_61 (fun h12 H locs hR hL hk => ?_)
  refine lv_aload_n hC.1 hC.2.1 dX3_init_64 rfl (lv_at hl 0 rfl) ?_
  refine lv_bipush (v := tw_I 78) hC.1 hC.2.1 dX3_init_65 (by decide) ?_
  refine tw_nai hC hR tw_ari 78 (by decide) hk ⟨by decide, by decide⟩ dX3_init_67 (fun h13 H hR hk => ?_)
  refine tw_putR hC hR hL hnm rfl rfl hk fpX3_36 dX3_init_69 (fun h14 H locs hR hL hk => ?_)
  refine lv_aload_n hC.1 hC.2.1 dX3_init_72 rfl (lv_at hl 0 rfl) ?_
  refine lv_iconst (v := tw_I 0) hC.1 hC.2.1 dX3_init_73 rfl ?_
  refine tw_putI hC hR hL ((tw_rgL rfl)) hk fpX3_39 dX3_init_74 (fun h15 H locs hR hL hk => ?_)
  refine lv_aload_n hC.1 hC.2.1 dX3_init_77 rfl (lv_at hl 0 rfl) ?_
  refine lv_iconst (v := tw_I 0) hC.1 hC.2.1 dX3_init_78 rfl ?_
  refine tw_putI hC hR hL ((tw_rgL rfl)) hk fpX3_43 dX3_init_79 (fun h16 H locs hR hL hk => ?_)
  cases hk
  exact tw_vret hC hR hL rfl dX3_init_82
set_option maxRecDepth 100000 in
theorem kX3_init {l : Launch} {p : Program} {e : Env} {R : Room} {s : State} {m : MethodId} {args : Array Value} {below : List Frame} {meth : Method} {c : Code} {H : Heap} {locs : List Loc} {cells slots : Nat} {Q : State → Prop} {cc : ByteArray} {pc nL idx : Nat} {ls : Array Slot} {rest : List Value} {G : tw_G} {h : tm_H} {own : String} {ret : Option FieldType} {α : Type} {x : α} {n : Nat} {this : Nat} (hC : tw_C G p s m args meth c own cc nL ret) (hR : tw_Rel G n h H) (hL : tw_L G locs) {F : tm_H × Nat → Option α} (hk : (fX3_init this h n).bind F = some x)  (hl : tw_mL own idx yX3_init) (hRm : rmX3_init.frames + 1 ≤ R.frames ∧ 8 + (1 + 11) + rmX3_init.locals ≤ R.locals) (hsz : ls.size = nL) (hW : (rest.map fun v => v.category).sum ≤ 8) (hf : cells + 32 ≤ R.cells ∧ slots + 830 ≤ R.slots) (hdg : decode cc pc = .ok (.invokespecial idx, 3)) (kk : ∀ (h1 : tm_H) (n1 : Nat) (H1 : Heap) (locs1 : List Loc), tw_Rel G n1 h1 H1 → tw_L G locs1 → F (h1, n1) = some x → W p l e R s m args below meth c H1 locs1 (cells + 32) (slots + 830) Q (F0 m (pc + 3) ls (rest))) : W p l e R s m args below meth c H locs cells slots Q (F0 m pc ls (.ref this :: rest)) := by
  obtain ⟨r, hr, hF⟩ := Option.bind_eq_some_iff.mp hk
  exact tw_backv (tw_runI hC hR (cX3_init_ok l G n this  h r hr) (n := 0) (As := []) ⟨tw_in_TB 171 (by decide +kernel) rfl, tw_in_TB 17 (by decide +kernel) rfl, by decide +kernel⟩ (tw_in_TB 170 (by decide +kernel) rfl) rfl hl ⟨rfl, rfl⟩ hRm rfl hsz rfl hW hdg hf) hL (fun H1 locs1 a b => kk r.1 r.2 H1 locs1 a b hF)
def rmX3_forget : Room := { frames := 0, cells := 0, slots := 0, locals := 0 }
set_option maxRecDepth 100000 in
set_option maxHeartbeats 4000000 in
theorem sX3_forget_S0 {l : Launch} {p : Program} {e : Env} {s : State} {m : MethodId} {args : Array Value} {below : List Frame} {meth : Method} {c : Code} (G : tw_G) (sz : Nat) (hC : tw_C G p s m args meth c RX3 cX3_forget 3 none) (this : Nat)  : ∀ (k : Nat) (st : (Int × tm_H) ⊕ (Int × Int × tm_H)) (out : tm_H), tm_wit (fX3_forget_S0 this) k st = some out → match st with
    | .inl ((x1, h)) => ∀ (H : Heap) (locs : List Loc) (ls : Array Slot), tm_rg x1 → tw_Rel G sz h H → tw_L G locs → lv_has ls 3 [(0, .ref this), (1, .int (tw_I x1))] → W p l e rmX3_forget s m args below meth c H locs 0 0 (MQ below (tw_Qv G sz out) args s 0 0 (tw_F G)) (F0 m 2 ls [])
    | .inr ((x1, x2, h)) => ∀ (H : Heap) (locs : List Loc) (ls : Array Slot), tm_rg x1 → tm_rg x2 → tw_Rel G sz h H → tw_L G locs → lv_has ls 3 [(0, .ref this), (1, .int (tw_I x1)), (2, .int (tw_I x2))] → W p l e rmX3_forget s m args below meth c H locs 0 0 (MQ below (tw_Qv G sz out) args s 0 0 (tw_F G)) (F0 m 17 ls []) := by
  intro k
  induction k with
  | zero =>
    intro st out hk
    exact absurd hk (by unfold tm_wit; exact fun z => by cases z)
  | succ k ih =>
    intro st out hk
    obtain ⟨X, hk, hf⟩ := tm_wit_succ hk
    obtain ⟨x1, h⟩ | ⟨x1, x2, h⟩ := st
    · intro H locs ls gx1 hR hL hl
      dsimp only [fX3_forget_S0] at hk
      refine lv_iload_n hC.1 hC.2.1 dX3_forget_2 rfl (lv_at hl 1 rfl) ?_
      refine lv_bipush (v := tw_I 13) hC.1 hC.2.1 dX3_forget_3 (by decide) ?_
      refine tw_cge (tgt := 45) hC hk gx1 ((tw_rgL rfl)) dX3_forget_5 (by decide) (fun _ hk => ?_) (fun _ hk => ?_)
      · refine lv_aload_n hC.1 hC.2.1 dX3_forget_8 rfl (lv_at hl 0 rfl) ?_
        refine tw_getR hC hR hk flX3_26 dX3_forget_9 (fun r1 hk => ?_)
        refine lv_iload_n hC.1 hC.2.1 dX3_forget_12 rfl (lv_at hl 1 rfl) ?_
        refine lv_iconst (v := tw_I 0) hC.1 hC.2.1 dX3_forget_13 rfl ?_
        refine tw_iast hC hR hL ((tw_rgL rfl)) hk dX3_forget_14 (fun h2 H locs hR hL hk => ?_)
        refine lv_iconst (v := tw_I 0) hC.1 hC.2.1 dX3_forget_15 rfl ?_
        refine lv_istore_n (lv' := [(2, .int (tw_I 0)), (0, .ref this), (1, .int (tw_I x1))]) hC.1 hC.2.1 dX3_forget_16 rfl hl (by decide) rfl (fun ls hl => ?_)
        cases hk
        exact ih _ out hf H locs _ gx1 ((tw_rgL rfl)) hR hL (lv_sub hl [1, 2, 0] rfl)
      · refine lv_aload_n hC.1 hC.2.1 dX3_forget_45 rfl (lv_at hl 0 rfl) ?_
        refine lv_iconst (v := tw_I 0) hC.1 hC.2.1 dX3_forget_46 rfl ?_
        refine tw_putI hC hR hL ((tw_rgL rfl)) hk fpX3_39 dX3_forget_47 (fun h3 H locs hR hL hk => ?_)
        refine lv_aload_n hC.1 hC.2.1 dX3_forget_50 rfl (lv_at hl 0 rfl) ?_
        refine lv_iconst (v := tw_I 0) hC.1 hC.2.1 dX3_forget_51 rfl ?_
        refine tw_putI hC hR hL ((tw_rgL rfl)) hk fpX3_43 dX3_forget_52 (fun h4 H locs hR hL hk => ?_)
        cases hk
        cases hf
        exact tw_vret hC hR hL rfl dX3_forget_55
    · intro H locs ls gx1 gx2 hR hL hl
      dsimp only [fX3_forget_S0] at hk
      refine lv_iload_n hC.1 hC.2.1 dX3_forget_17 rfl (lv_at hl 2 rfl) ?_
      refine lv_bipush (v := tw_I 6) hC.1 hC.2.1 dX3_forget_18 (by decide) ?_
      refine tw_cge (tgt := 39) hC hk gx2 ((tw_rgL rfl)) dX3_forget_20 (by decide) (fun _ hk => ?_) (fun _ hk => ?_)
      · refine lv_aload_n hC.1 hC.2.1 dX3_forget_23 rfl (lv_at hl 0 rfl) ?_
        refine tw_getR hC hR hk flX3_23 dX3_forget_24 (fun r5 hk => ?_)
        refine lv_iload_n hC.1 hC.2.1 dX3_forget_27 rfl (lv_at hl 1 rfl) ?_
        refine tw_aald hC hR hk dX3_forget_28 (fun r6 hk => ?_)
        refine lv_iload_n hC.1 hC.2.1 dX3_forget_29 rfl (lv_at hl 2 rfl) ?_
        refine lv_bipush (v := tw_I (-99)) hC.1 hC.2.1 dX3_forget_30 (by decide) ?_
        refine tw_iast hC hR hL ((tw_rgL rfl)) hk dX3_forget_32 (fun h7 H locs hR hL hk => ?_)
        refine tw_iinc (lv' := [(2, .int (tw_I (tm_wr (x2 + 1)))), (0, .ref this), (1, .int (tw_I x1))]) hC dX3_forget_33 hl (k := 2) rfl (by decide) rfl (fun ls hl => ?_)
        refine lv_goto (tgt := 17) hC.1 hC.2.1 dX3_forget_36 (by decide) ?_
        cases hk
        exact ih _ out hf H locs _ gx1 ((tm_wr_rg _)) hR hL (lv_sub hl [1, 2, 0] rfl)
      · refine tw_iinc (lv' := [(1, .int (tw_I (tm_wr (x1 + 1)))), (0, .ref this), (2, .int (tw_I x2))]) hC dX3_forget_39 hl (k := 1) rfl (by decide) rfl (fun ls hl => ?_)
        refine lv_goto (tgt := 2) hC.1 hC.2.1 dX3_forget_42 (by decide) ?_
        cases hk
        exact ih _ out hf H locs _ ((tm_wr_rg _)) hR hL (lv_sub hl [1, 0] rfl)
theorem sX3_forget_L2 {l : Launch} {p : Program} {e : Env} {s : State} {m : MethodId} {args : Array Value} {below : List Frame} {meth : Method} {c : Code} (G : tw_G) (sz : Nat) (hC : tw_C G p s m args meth c RX3 cX3_forget 3 none) (this : Nat)  (x1 : Int) (h : tm_H) (gx1 : tm_rg x1) (out : tm_H) (hk : fX3_forget_L2 this x1 h = some out) (H : Heap) (locs : List Loc) (ls : Array Slot) (hR : tw_Rel G sz h H) (hL : tw_L G locs) (hl : lv_has ls 3 [(0, .ref this), (1, .int (tw_I x1))]) : W p l e rmX3_forget s m args below meth c H locs 0 0 (MQ below (tw_Qv G sz out) args s 0 0 (tw_F G)) (F0 m 2 ls []) := by
  obtain ⟨k, hk⟩ := tm_wl_iff.mp hk
  exact sX3_forget_S0 G sz hC this  k (.inl ((x1, h))) out hk H locs ls gx1 hR hL hl
theorem sX3_forget_L17 {l : Launch} {p : Program} {e : Env} {s : State} {m : MethodId} {args : Array Value} {below : List Frame} {meth : Method} {c : Code} (G : tw_G) (sz : Nat) (hC : tw_C G p s m args meth c RX3 cX3_forget 3 none) (this : Nat)  (x1 : Int) (x2 : Int) (h : tm_H) (gx1 : tm_rg x1) (gx2 : tm_rg x2) (out : tm_H) (hk : fX3_forget_L17 this x1 x2 h = some out) (H : Heap) (locs : List Loc) (ls : Array Slot) (hR : tw_Rel G sz h H) (hL : tw_L G locs) (hl : lv_has ls 3 [(0, .ref this), (1, .int (tw_I x1)), (2, .int (tw_I x2))]) : W p l e rmX3_forget s m args below meth c H locs 0 0 (MQ below (tw_Qv G sz out) args s 0 0 (tw_F G)) (F0 m 17 ls []) := by
  obtain ⟨k, hk⟩ := tm_wl_iff.mp hk
  exact sX3_forget_S0 G sz hC this  k (.inr ((x1, x2, h))) out hk H locs ls gx1 gx2 hR hL hl
set_option maxRecDepth 100000 in
set_option maxHeartbeats 4000000 in
theorem cX3_forget_ok (l : Launch) (G : tw_G) (sz : Nat) (this : Nat)  (h : tm_H) (out : tm_H) (hk : fX3_forget this h = some out) : Met l yX3_forget (tw_WS yX3_forget cX3_forget 3 none) rmX3_forget (va_Pc [.ref this] (tw_Pre G sz h)) (tw_Qv G sz out) 0 0 (tw_F G) := by
  refine tw_met (by decide +kernel) (Nat.le_of_ble_eq_true rfl) ?_
  intro p e s m args below meth c H ls hC hnm hR hl
  unfold fX3_forget at hk
  obtain ⟨hob, hk⟩ := tm_th_is hk
  have hl : lv_has ls 3 [(0, .ref this)] := hl
  have hL : tw_L G [] := fun q z => by cases z
  generalize hlc : ([] : List Loc) = locs at hL ⊢
  refine lv_iconst (v := tw_I 0) hC.1 hC.2.1 dX3_forget_0 rfl ?_
  refine lv_istore_n (lv' := [(1, .int (tw_I 0)), (0, .ref this)]) hC.1 hC.2.1 dX3_forget_1 rfl hl (by decide) rfl (fun ls hl => ?_)
  exact sX3_forget_L2 G sz hC this 0 h ((tw_rgL rfl)) out hk H locs _ hR hL (lv_sub hl [1, 0] rfl)
set_option maxRecDepth 100000 in
theorem kX3_forget {l : Launch} {p : Program} {e : Env} {R : Room} {s : State} {m : MethodId} {args : Array Value} {below : List Frame} {meth : Method} {c : Code} {H : Heap} {locs : List Loc} {cells slots : Nat} {Q : State → Prop} {cc : ByteArray} {pc nL idx : Nat} {ls : Array Slot} {rest : List Value} {G : tw_G} {h : tm_H} {own : String} {ret : Option FieldType} {α : Type} {x : α} {sz : Nat} {this : Nat} (hC : tw_C G p s m args meth c own cc nL ret) (hR : tw_Rel G sz h H) (hL : tw_L G locs) {F : tm_H → Option α} (hk : (fX3_forget this h).bind F = some x)  (hl : tw_mL own idx yX3_forget) (hRm : rmX3_forget.frames + 1 ≤ R.frames ∧ 8 + (3 + 11) + rmX3_forget.locals ≤ R.locals) (hsz : ls.size = nL) (hW : (rest.map fun v => v.category).sum ≤ 8) (hf : cells + 0 ≤ R.cells ∧ slots + 0 ≤ R.slots) (hdg : decode cc pc = .ok (.invokevirtual idx, 3)) (kk : ∀ (h1 : tm_H) (H1 : Heap) (locs1 : List Loc), tw_Rel G sz h1 H1 → tw_L G locs1 → F h1 = some x → W p l e R s m args below meth c H1 locs1 (cells + 0) (slots + 0) Q (F0 m (pc + 3) ls (rest))) : W p l e R s m args below meth c H locs cells slots Q (F0 m pc ls (.ref this :: rest)) := by
  obtain ⟨r, hr, hF⟩ := Option.bind_eq_some_iff.mp hk
  have ob : ∀ r, fX3_forget this h = some r → tm_is h 3 this := fun r hr => by
    unfold fX3_forget at hr
    exact (tm_th_is hr).1
  exact tw_backv (tw_runV hC hR (cX3_forget_ok l G sz this  h r hr) (n := 0) (As := []) ⟨tw_in_TB 285 (by decide +kernel) rfl, tw_in_TB 17 (by decide +kernel) rfl, by decide +kernel⟩ (tw_in_TB 284 (by decide +kernel) rfl) (tw_in_TB 1 (by decide +kernel) rfl) hl ⟨rfl, rfl⟩ hRm (ob r hr) (T := TX3) (N := 9) rfl rfl hsz rfl hW hdg hf) hL (fun H1 locs1 a b => kk r H1 locs1 a b hF)
def rmX5_size : Room := { frames := 0, cells := 0, slots := 0, locals := 0 }
set_option maxRecDepth 100000 in
set_option maxHeartbeats 4000000 in
theorem cX5_size_ok (l : Launch) (G : tw_G) (sz : Nat) (this : Nat)  (h : tm_H) (out : Int) (hk : fX5_size this h = some out) : Met l yX5_size (tw_WS yX5_size cX5_size 1 (some .int)) rmX5_size (va_Pc [.ref this] (tw_Pre G sz h)) (tw_Qi G sz out h) 0 0 (tw_F G) := by
  refine tw_met (by decide +kernel) (Nat.le_of_ble_eq_true rfl) ?_
  intro p e s m args below meth c H ls hC hnm hR hl
  unfold fX5_size at hk
  obtain ⟨hob, hk⟩ := tm_th_is hk
  have hl : lv_has ls 1 [(0, .ref this)] := hl
  have hL : tw_L G [] := fun q z => by cases z
  generalize hlc : ([] : List Loc) = locs at hL ⊢
  refine lv_aload_n hC.1 hC.2.1 dX5_size_0 rfl (lv_at hl 0 rfl) ?_
  refine tw_getI hC hR hk flX5_24 dX5_size_1 (fun v1 gv1 hk => ?_)
  cases hk
  exact tw_iret hC hR hL gv1 rfl rfl dX5_size_4
set_option maxRecDepth 100000 in
theorem kX5_size {l : Launch} {p : Program} {e : Env} {R : Room} {s : State} {m : MethodId} {args : Array Value} {below : List Frame} {meth : Method} {c : Code} {H : Heap} {locs : List Loc} {cells slots : Nat} {Q : State → Prop} {cc : ByteArray} {pc nL idx : Nat} {ls : Array Slot} {rest : List Value} {G : tw_G} {h : tm_H} {own : String} {ret : Option FieldType} {α : Type} {x : α} {sz : Nat} {this : Nat} (hC : tw_C G p s m args meth c own cc nL ret) (hR : tw_Rel G sz h H) (hL : tw_L G locs) {F : Int → Option α} (hk : (fX5_size this h).bind F = some x)  (hl : tw_mL own idx yX5_size) (hRm : rmX5_size.frames + 1 ≤ R.frames ∧ 8 + (1 + 11) + rmX5_size.locals ≤ R.locals) (hsz : ls.size = nL) (hW : (rest.map fun v => v.category).sum ≤ 8) (hf : cells + 0 ≤ R.cells ∧ slots + 0 ≤ R.slots) (hdg : decode cc pc = .ok (.invokevirtual idx, 3)) (kk : ∀ (r : Int) (H1 : Heap) (locs1 : List Loc), tw_Rel G sz h H1 → tw_L G locs1 → tm_rg r → F r = some x → W p l e R s m args below meth c H1 locs1 (cells + 0) (slots + 0) Q (F0 m (pc + 3) ls (.int (tw_I r) :: rest))) : W p l e R s m args below meth c H locs cells slots Q (F0 m pc ls (.ref this :: rest)) := by
  obtain ⟨r, hr, hF⟩ := Option.bind_eq_some_iff.mp hk
  have ob : ∀ r, fX5_size this h = some r → tm_is h 5 this := fun r hr => by
    unfold fX5_size at hr
    exact (tm_th_is hr).1
  exact tw_backi (tw_runV hC hR (cX5_size_ok l G sz this  h r hr) (n := 0) (As := []) ⟨tw_in_TB 269 (by decide +kernel) rfl, tw_in_TB 13 (by decide +kernel) rfl, by decide +kernel⟩ (tw_in_TB 267 (by decide +kernel) rfl) (tw_in_TB 268 (by decide +kernel) rfl) hl ⟨rfl, rfl⟩ hRm (ob r hr) (T := TX5) (N := 4) rfl rfl hsz rfl hW hdg hf) hL (fun H1 locs1 a b g => kk r H1 locs1 a b g hF)
def rmX5_lengthOf : Room := { frames := 0, cells := 0, slots := 0, locals := 0 }
set_option maxRecDepth 100000 in
set_option maxHeartbeats 4000000 in
theorem cX5_lengthOf_ok (l : Launch) (G : tw_G) (sz : Nat) (this : Nat) (a1 : Int) (ga1 : tm_rg a1) (h : tm_H) (out : Int) (hk : fX5_lengthOf this a1 h = some out) : Met l yX5_lengthOf (tw_WS yX5_lengthOf cX5_lengthOf 2 (some .int)) rmX5_lengthOf (va_Pc [.ref this, .int (tw_I a1)] (tw_Pre G sz h)) (tw_Qi G sz out h) 0 0 (tw_F G) := by
  refine tw_met (by decide +kernel) (Nat.le_of_ble_eq_true rfl) ?_
  intro p e s m args below meth c H ls hC hnm hR hl
  unfold fX5_lengthOf at hk
  obtain ⟨hob, hk⟩ := tm_th_is hk
  have hl : lv_has ls 2 [(0, .ref this), (1, .int (tw_I a1))] := hl
  have hL : tw_L G [] := fun q z => by cases z
  generalize hlc : ([] : List Loc) = locs at hL ⊢
  refine lv_iload_n hC.1 hC.2.1 dX5_lengthOf_0 rfl (lv_at hl 1 rfl) ?_
  refine tw_zlt (tgt := 21) hC hk ga1 dX5_lengthOf_1 (by decide) (fun _ hk => ?_) (fun _ hk => ?_)
  · refine lv_iconst (v := tw_I 0) hC.1 hC.2.1 dX5_lengthOf_21 rfl ?_
    cases hk
    exact tw_iret hC hR hL ((tw_rgL rfl)) rfl rfl dX5_lengthOf_22
  · refine lv_iload_n hC.1 hC.2.1 dX5_lengthOf_4 rfl (lv_at hl 1 rfl) ?_
    refine lv_aload_n hC.1 hC.2.1 dX5_lengthOf_5 rfl (lv_at hl 0 rfl) ?_
    refine tw_getI hC hR hk flX5_24 dX5_lengthOf_6 (fun v1 gv1 hk => ?_)
    refine tw_cge (tgt := 21) hC hk ga1 gv1 dX5_lengthOf_9 (by decide) (fun _ hk => ?_) (fun _ hk => ?_)
    · refine lv_aload_n hC.1 hC.2.1 dX5_lengthOf_12 rfl (lv_at hl 0 rfl) ?_
      refine tw_getR hC hR hk flX5_16 dX5_lengthOf_13 (fun r2 hk => ?_)
      refine lv_iload_n hC.1 hC.2.1 dX5_lengthOf_16 rfl (lv_at hl 1 rfl) ?_
      refine tw_iald hC hR hk dX5_lengthOf_17 (fun v3 gv3 hk => ?_)
      refine lv_goto (tgt := 22) hC.1 hC.2.1 dX5_lengthOf_18 (by decide) ?_
      cases hk
      exact tw_iret hC hR hL gv3 rfl rfl dX5_lengthOf_22
    · refine lv_iconst (v := tw_I 0) hC.1 hC.2.1 dX5_lengthOf_21 rfl ?_
      cases hk
      exact tw_iret hC hR hL ((tw_rgL rfl)) rfl rfl dX5_lengthOf_22
set_option maxRecDepth 100000 in
theorem kX5_lengthOf {l : Launch} {p : Program} {e : Env} {R : Room} {s : State} {m : MethodId} {args : Array Value} {below : List Frame} {meth : Method} {c : Code} {H : Heap} {locs : List Loc} {cells slots : Nat} {Q : State → Prop} {cc : ByteArray} {pc nL idx : Nat} {ls : Array Slot} {rest : List Value} {G : tw_G} {h : tm_H} {own : String} {ret : Option FieldType} {α : Type} {x : α} {sz : Nat} {this : Nat} {a1 : Int} (hC : tw_C G p s m args meth c own cc nL ret) (hR : tw_Rel G sz h H) (hL : tw_L G locs) {F : Int → Option α} (hk : (fX5_lengthOf this a1 h).bind F = some x) (ga1 : tm_rg a1) (hl : tw_mL own idx yX5_lengthOf) (hRm : rmX5_lengthOf.frames + 1 ≤ R.frames ∧ 8 + (2 + 11) + rmX5_lengthOf.locals ≤ R.locals) (hsz : ls.size = nL) (hW : (rest.map fun v => v.category).sum ≤ 8) (hf : cells + 0 ≤ R.cells ∧ slots + 0 ≤ R.slots) (hdg : decode cc pc = .ok (.invokevirtual idx, 3)) (kk : ∀ (r : Int) (H1 : Heap) (locs1 : List Loc), tw_Rel G sz h H1 → tw_L G locs1 → tm_rg r → F r = some x → W p l e R s m args below meth c H1 locs1 (cells + 0) (slots + 0) Q (F0 m (pc + 3) ls (.int (tw_I r) :: rest))) : W p l e R s m args below meth c H locs cells slots Q (F0 m pc ls (.int (tw_I a1) :: .ref this :: rest)) := by
  obtain ⟨r, hr, hF⟩ := Option.bind_eq_some_iff.mp hk
  have ob : ∀ r, fX5_lengthOf this a1 h = some r → tm_is h 5 this := fun r hr => by
    unfold fX5_lengthOf at hr
    exact (tm_th_is hr).1
  exact tw_backi (tw_runV hC hR (cX5_lengthOf_ok l G sz this a1 ga1 h r hr) (n := 1) (As := [.int (tw_I a1)]) ⟨tw_in_TB 302 (by decide +kernel) rfl, tw_in_TB 13 (by decide +kernel) rfl, by decide +kernel⟩ (tw_in_TB 300 (by decide +kernel) rfl) (tw_in_TB 301 (by decide +kernel) rfl) hl ⟨rfl, rfl⟩ hRm (ob r hr) (T := TX5) (N := 4) rfl rfl hsz rfl hW hdg hf) hL (fun H1 locs1 a b g => kk r H1 locs1 a b g hF)
def rmX5_wordAt : Room := { frames := 0, cells := 0, slots := 0, locals := 0 }
set_option maxRecDepth 100000 in
set_option maxHeartbeats 4000000 in
theorem cX5_wordAt_ok (l : Launch) (G : tw_G) (sz : Nat) (this : Nat) (a1 : Int) (a2 : Int) (ga1 : tm_rg a1) (ga2 : tm_rg a2) (h : tm_H) (out : Int) (hk : fX5_wordAt this a1 a2 h = some out) : Met l yX5_wordAt (tw_WS yX5_wordAt cX5_wordAt 3 (some .int)) rmX5_wordAt (va_Pc [.ref this, .int (tw_I a1), .int (tw_I a2)] (tw_Pre G sz h)) (tw_Qi G sz out h) 0 0 (tw_F G) := by
  refine tw_met (by decide +kernel) (Nat.le_of_ble_eq_true rfl) ?_
  intro p e s m args below meth c H ls hC hnm hR hl
  unfold fX5_wordAt at hk
  obtain ⟨hob, hk⟩ := tm_th_is hk
  have hl : lv_has ls 3 [(0, .ref this), (1, .int (tw_I a1)), (2, .int (tw_I a2))] := hl
  have hL : tw_L G [] := fun q z => by cases z
  generalize hlc : ([] : List Loc) = locs at hL ⊢
  refine lv_iload_n hC.1 hC.2.1 dX5_wordAt_0 rfl (lv_at hl 1 rfl) ?_
  refine tw_zlt (tgt := 26) hC hk ga1 dX5_wordAt_1 (by decide) (fun _ hk => ?_) (fun _ hk => ?_)
  · refine lv_bipush (v := tw_I (-99)) hC.1 hC.2.1 dX5_wordAt_26 (by decide) ?_
    cases hk
    exact tw_iret hC hR hL ((tw_rgL rfl)) rfl rfl dX5_wordAt_28
  · refine lv_iload_n hC.1 hC.2.1 dX5_wordAt_4 rfl (lv_at hl 1 rfl) ?_
    refine lv_aload_n hC.1 hC.2.1 dX5_wordAt_5 rfl (lv_at hl 0 rfl) ?_
    refine tw_getI hC hR hk flX5_24 dX5_wordAt_6 (fun v1 gv1 hk => ?_)
    refine tw_cge (tgt := 26) hC hk ga1 gv1 dX5_wordAt_9 (by decide) (fun _ hk => ?_) (fun _ hk => ?_)
    · refine lv_iload_n hC.1 hC.2.1 dX5_wordAt_12 rfl (lv_at hl 2 rfl) ?_
      refine tw_zlt (tgt := 26) hC hk ga2 dX5_wordAt_13 (by decide) (fun _ hk => ?_) (fun _ hk => ?_)
      · refine lv_bipush (v := tw_I (-99)) hC.1 hC.2.1 dX5_wordAt_26 (by decide) ?_
        cases hk
        exact tw_iret hC hR hL ((tw_rgL rfl)) rfl rfl dX5_wordAt_28
      · refine lv_iload_n hC.1 hC.2.1 dX5_wordAt_16 rfl (lv_at hl 2 rfl) ?_
        refine lv_aload_n hC.1 hC.2.1 dX5_wordAt_17 rfl (lv_at hl 0 rfl) ?_
        refine tw_getR hC hR hk flX5_16 dX5_wordAt_18 (fun r2 hk => ?_)
        refine lv_iload_n hC.1 hC.2.1 dX5_wordAt_21 rfl (lv_at hl 1 rfl) ?_
        refine tw_iald hC hR hk dX5_wordAt_22 (fun v3 gv3 hk => ?_)
        refine tw_clt (tgt := 29) hC hk ga2 gv3 dX5_wordAt_23 (by decide) (fun _ hk => ?_) (fun _ hk => ?_)
        · refine lv_aload_n hC.1 hC.2.1 dX5_wordAt_29 rfl (lv_at hl 0 rfl) ?_
          refine tw_getR hC hR hk flX5_13 dX5_wordAt_30 (fun r4 hk => ?_)
          refine lv_iload_n hC.1 hC.2.1 dX5_wordAt_33 rfl (lv_at hl 1 rfl) ?_
          refine tw_aald hC hR hk dX5_wordAt_34 (fun r5 hk => ?_)
          refine lv_iload_n hC.1 hC.2.1 dX5_wordAt_35 rfl (lv_at hl 2 rfl) ?_
          refine tw_iald hC hR hk dX5_wordAt_36 (fun v6 gv6 hk => ?_)
          cases hk
          exact tw_iret hC hR hL gv6 rfl rfl dX5_wordAt_37
        · refine lv_bipush (v := tw_I (-99)) hC.1 hC.2.1 dX5_wordAt_26 (by decide) ?_
          cases hk
          exact tw_iret hC hR hL ((tw_rgL rfl)) rfl rfl dX5_wordAt_28
    · refine lv_bipush (v := tw_I (-99)) hC.1 hC.2.1 dX5_wordAt_26 (by decide) ?_
      cases hk
      exact tw_iret hC hR hL ((tw_rgL rfl)) rfl rfl dX5_wordAt_28
set_option maxRecDepth 100000 in
theorem kX5_wordAt {l : Launch} {p : Program} {e : Env} {R : Room} {s : State} {m : MethodId} {args : Array Value} {below : List Frame} {meth : Method} {c : Code} {H : Heap} {locs : List Loc} {cells slots : Nat} {Q : State → Prop} {cc : ByteArray} {pc nL idx : Nat} {ls : Array Slot} {rest : List Value} {G : tw_G} {h : tm_H} {own : String} {ret : Option FieldType} {α : Type} {x : α} {sz : Nat} {this : Nat} {a1 : Int} {a2 : Int} (hC : tw_C G p s m args meth c own cc nL ret) (hR : tw_Rel G sz h H) (hL : tw_L G locs) {F : Int → Option α} (hk : (fX5_wordAt this a1 a2 h).bind F = some x) (ga1 : tm_rg a1) (ga2 : tm_rg a2) (hl : tw_mL own idx yX5_wordAt) (hRm : rmX5_wordAt.frames + 1 ≤ R.frames ∧ 8 + (3 + 11) + rmX5_wordAt.locals ≤ R.locals) (hsz : ls.size = nL) (hW : (rest.map fun v => v.category).sum ≤ 8) (hf : cells + 0 ≤ R.cells ∧ slots + 0 ≤ R.slots) (hdg : decode cc pc = .ok (.invokevirtual idx, 3)) (kk : ∀ (r : Int) (H1 : Heap) (locs1 : List Loc), tw_Rel G sz h H1 → tw_L G locs1 → tm_rg r → F r = some x → W p l e R s m args below meth c H1 locs1 (cells + 0) (slots + 0) Q (F0 m (pc + 3) ls (.int (tw_I r) :: rest))) : W p l e R s m args below meth c H locs cells slots Q (F0 m pc ls (.int (tw_I a2) :: .int (tw_I a1) :: .ref this :: rest)) := by
  obtain ⟨r, hr, hF⟩ := Option.bind_eq_some_iff.mp hk
  have ob : ∀ r, fX5_wordAt this a1 a2 h = some r → tm_is h 5 this := fun r hr => by
    unfold fX5_wordAt at hr
    exact (tm_th_is hr).1
  exact tw_backi (tw_runV hC hR (cX5_wordAt_ok l G sz this a1 a2 ga1 ga2 h r hr) (n := 2) (As := [.int (tw_I a1), .int (tw_I a2)]) ⟨tw_in_TB 311 (by decide +kernel) rfl, tw_in_TB 13 (by decide +kernel) rfl, by decide +kernel⟩ (tw_in_TB 309 (by decide +kernel) rfl) (tw_in_TB 310 (by decide +kernel) rfl) hl ⟨rfl, rfl⟩ hRm (ob r hr) (T := TX5) (N := 4) rfl rfl hsz rfl hW hdg hf) hL (fun H1 locs1 a b g => kk r H1 locs1 a b g hF)
def rmX7_baseOf : Room := { frames := 0, cells := 0, slots := 0, locals := 0 }
set_option maxRecDepth 100000 in
set_option maxHeartbeats 4000000 in
theorem cX7_baseOf_ok (l : Launch) (G : tw_G) (sz : Nat) (this : Nat) (a1 : Int) (ga1 : tm_rg a1) (h : tm_H) (out : Int) (hk : fX7_baseOf this a1 h = some out) : Met l yX7_baseOf (tw_WS yX7_baseOf cX7_baseOf 2 (some .int)) rmX7_baseOf (va_Pc [.ref this, .int (tw_I a1)] (tw_Pre G sz h)) (tw_Qi G sz out h) 0 0 (tw_F G) := by
  refine tw_met (by decide +kernel) (Nat.le_of_ble_eq_true rfl) ?_
  intro p e s m args below meth c H ls hC hnm hR hl
  unfold fX7_baseOf at hk
  obtain ⟨hob, hk⟩ := tm_th_is hk
  have hl : lv_has ls 2 [(0, .ref this), (1, .int (tw_I a1))] := hl
  have hL : tw_L G [] := fun q z => by cases z
  generalize hlc : ([] : List Loc) = locs at hL ⊢
  refine lv_iload_n hC.1 hC.2.1 dX7_baseOf_0 rfl (lv_at hl 1 rfl) ?_
  refine tw_zlt (tgt := 21) hC hk ga1 dX7_baseOf_1 (by decide) (fun _ hk => ?_) (fun _ hk => ?_)
  · refine lv_bipush (v := tw_I (-99)) hC.1 hC.2.1 dX7_baseOf_21 (by decide) ?_
    cases hk
    exact tw_iret hC hR hL ((tw_rgL rfl)) rfl rfl dX7_baseOf_23
  · refine lv_iload_n hC.1 hC.2.1 dX7_baseOf_4 rfl (lv_at hl 1 rfl) ?_
    refine lv_aload_n hC.1 hC.2.1 dX7_baseOf_5 rfl (lv_at hl 0 rfl) ?_
    refine tw_getI hC hR hk flX7_19 dX7_baseOf_6 (fun v1 gv1 hk => ?_)
    refine tw_cge (tgt := 21) hC hk ga1 gv1 dX7_baseOf_9 (by decide) (fun _ hk => ?_) (fun _ hk => ?_)
    · refine lv_aload_n hC.1 hC.2.1 dX7_baseOf_12 rfl (lv_at hl 0 rfl) ?_
      refine tw_getR hC hR hk flX7_15 dX7_baseOf_13 (fun r2 hk => ?_)
      refine lv_iload_n hC.1 hC.2.1 dX7_baseOf_16 rfl (lv_at hl 1 rfl) ?_
      refine tw_iald hC hR hk dX7_baseOf_17 (fun v3 gv3 hk => ?_)
      refine lv_goto (tgt := 23) hC.1 hC.2.1 dX7_baseOf_18 (by decide) ?_
      cases hk
      exact tw_iret hC hR hL gv3 rfl rfl dX7_baseOf_23
    · refine lv_bipush (v := tw_I (-99)) hC.1 hC.2.1 dX7_baseOf_21 (by decide) ?_
      cases hk
      exact tw_iret hC hR hL ((tw_rgL rfl)) rfl rfl dX7_baseOf_23
set_option maxRecDepth 100000 in
theorem kX7_baseOf {l : Launch} {p : Program} {e : Env} {R : Room} {s : State} {m : MethodId} {args : Array Value} {below : List Frame} {meth : Method} {c : Code} {H : Heap} {locs : List Loc} {cells slots : Nat} {Q : State → Prop} {cc : ByteArray} {pc nL idx : Nat} {ls : Array Slot} {rest : List Value} {G : tw_G} {h : tm_H} {own : String} {ret : Option FieldType} {α : Type} {x : α} {sz : Nat} {this : Nat} {a1 : Int} (hC : tw_C G p s m args meth c own cc nL ret) (hR : tw_Rel G sz h H) (hL : tw_L G locs) {F : Int → Option α} (hk : (fX7_baseOf this a1 h).bind F = some x) (ga1 : tm_rg a1) (hl : tw_mL own idx yX7_baseOf) (hRm : rmX7_baseOf.frames + 1 ≤ R.frames ∧ 8 + (2 + 11) + rmX7_baseOf.locals ≤ R.locals) (hsz : ls.size = nL) (hW : (rest.map fun v => v.category).sum ≤ 8) (hf : cells + 0 ≤ R.cells ∧ slots + 0 ≤ R.slots) (hdg : decode cc pc = .ok (.invokevirtual idx, 3)) (kk : ∀ (r : Int) (H1 : Heap) (locs1 : List Loc), tw_Rel G sz h H1 → tw_L G locs1 → tm_rg r → F r = some x → W p l e R s m args below meth c H1 locs1 (cells + 0) (slots + 0) Q (F0 m (pc + 3) ls (.int (tw_I r) :: rest))) : W p l e R s m args below meth c H locs cells slots Q (F0 m pc ls (.int (tw_I a1) :: .ref this :: rest)) := by
  obtain ⟨r, hr, hF⟩ := Option.bind_eq_some_iff.mp hk
  have ob : ∀ r, fX7_baseOf this a1 h = some r → tm_is h 7 this := fun r hr => by
    unfold fX7_baseOf at hr
    exact (tm_th_is hr).1
  exact tw_backi (tw_runV hC hR (cX7_baseOf_ok l G sz this a1 ga1 h r hr) (n := 1) (As := [.int (tw_I a1)]) ⟨tw_in_TB 315 (by decide +kernel) rfl, tw_in_TB 11 (by decide +kernel) rfl, by decide +kernel⟩ (tw_in_TB 313 (by decide +kernel) rfl) (tw_in_TB 314 (by decide +kernel) rfl) hl ⟨rfl, rfl⟩ hRm (ob r hr) (T := TX7) (N := 3) rfl rfl hsz rfl hW hdg hf) hL (fun H1 locs1 a b g => kk r H1 locs1 a b g hF)
def rmX4_occursAt : Room := { frames := 1, cells := 0, slots := 0, locals := 22 }
set_option maxRecDepth 100000 in
set_option maxHeartbeats 4000000 in
theorem sX4_occursAt_S0 {l : Launch} {p : Program} {e : Env} {s : State} {m : MethodId} {args : Array Value} {below : List Frame} {meth : Method} {c : Code} (G : tw_G) (sz : Nat) (hC : tw_C G p s m args meth c RX4 cX4_occursAt 6 (some .boolean)) (this : Nat) (a1 : Int) (a2 : Int) (a3 : Int) (ga1 : tm_rg a1) (ga2 : tm_rg a2) (ga3 : tm_rg a3) (h : tm_H) : ∀ (k : Nat) (st : (Int × Int)) (out : Int), tm_wit (fX4_occursAt_S0 this a1 a2 a3 h) k st = some out → match st with
    | (x4, x5) => ∀ (H : Heap) (locs : List Loc) (ls : Array Slot), tm_rg x4 → tm_rg x5 → tw_Rel G sz h H → tw_L G locs → lv_has ls 6 [(0, .ref this), (1, .int (tw_I a1)), (2, .int (tw_I a2)), (3, .int (tw_I a3)), (4, .int (tw_I x4)), (5, .int (tw_I x5))] → W p l e rmX4_occursAt s m args below meth c H locs 0 0 (MQ below (tw_Qi G sz out h) args s 0 0 (tw_F G)) (F0 m 39 ls []) := by
  intro k
  induction k with
  | zero =>
    intro st out hk
    exact absurd hk (by unfold tm_wit; exact fun z => by cases z)
  | succ k ih =>
    intro st out hk
    obtain ⟨X, hk, hf⟩ := tm_wit_succ hk
    obtain ⟨x4, x5⟩ := st
    intro H locs ls gx4 gx5 hR hL hl
    dsimp only [fX4_occursAt_S0] at hk
    refine lv_iload hC.1 hC.2.1 dX4_occursAt_39 (lv_at hl 5 rfl) ?_
    refine lv_iload hC.1 hC.2.1 dX4_occursAt_41 (lv_at hl 4 rfl) ?_
    refine tw_cge (tgt := 93) hC hk gx5 gx4 dX4_occursAt_43 (by decide) (fun _ hk => ?_) (fun _ hk => ?_)
    · refine lv_aload_n hC.1 hC.2.1 dX4_occursAt_46 rfl (lv_at hl 0 rfl) ?_
      refine tw_getR hC hR hk flX4_12 dX4_occursAt_47 (fun r5 hk => ?_)
      refine lv_aload_n hC.1 hC.2.1 dX4_occursAt_50 rfl (lv_at hl 0 rfl) ?_
      refine tw_getR hC hR hk flX4_28 dX4_occursAt_51 (fun r6 hk => ?_)
      refine lv_iload_n hC.1 hC.2.1 dX4_occursAt_54 rfl (lv_at hl 1 rfl) ?_
      refine lv_iload hC.1 hC.2.1 dX4_occursAt_55 (lv_at hl 5 rfl) ?_
      refine kX5_wordAt hC hR hL hk ga1 gx5 mlX4_73 ⟨by decide, by decide⟩ hl.1 (Nat.le_of_ble_eq_true rfl) ⟨Nat.zero_le _, Nat.zero_le _⟩ dX4_occursAt_57 (fun v7 H locs hR hL gv7 hk => ?_)
      refine kX7_baseOf hC hR hL hk gv7 mlX4_57 ⟨by decide, by decide⟩ hl.1 (Nat.le_of_ble_eq_true rfl) ⟨Nat.zero_le _, Nat.zero_le _⟩ dX4_occursAt_60 (fun v8 H locs hR hL gv8 hk => ?_)
      refine lv_aload_n hC.1 hC.2.1 dX4_occursAt_63 rfl (lv_at hl 0 rfl) ?_
      refine tw_getR hC hR hk flX4_12 dX4_occursAt_64 (fun r9 hk => ?_)
      refine lv_aload_n hC.1 hC.2.1 dX4_occursAt_67 rfl (lv_at hl 0 rfl) ?_
      refine tw_getR hC hR hk flX4_21 dX4_occursAt_68 (fun r10 hk => ?_)
      refine lv_iload_n hC.1 hC.2.1 dX4_occursAt_71 rfl (lv_at hl 2 rfl) ?_
      refine lv_iload_n hC.1 hC.2.1 dX4_occursAt_72 rfl (lv_at hl 3 rfl) ?_
      refine lv_iload hC.1 hC.2.1 dX4_occursAt_73 (lv_at hl 5 rfl) ?_
      refine tw_iadd hC dX4_occursAt_75 ?_
      refine kX0_wordAt hC hR hL hk ga2 ((tm_wr_rg _)) mlX4_77 ⟨by decide, by decide⟩ hl.1 (Nat.le_of_ble_eq_true rfl) ⟨Nat.zero_le _, Nat.zero_le _⟩ dX4_occursAt_76 (fun v11 H locs hR hL gv11 hk => ?_)
      refine kX7_baseOf hC hR hL hk gv11 mlX4_57 ⟨by decide, by decide⟩ hl.1 (Nat.le_of_ble_eq_true rfl) ⟨Nat.zero_le _, Nat.zero_le _⟩ dX4_occursAt_79 (fun v12 H locs hR hL gv12 hk => ?_)
      refine tw_ceq (tgt := 87) hC hk gv8 gv12 dX4_occursAt_82 (by decide) (fun _ hk => ?_) (fun _ hk => ?_)
      · refine tw_iinc (lv' := [(5, .int (tw_I (tm_wr (x5 + 1)))), (0, .ref this), (1, .int (tw_I a1)), (2, .int (tw_I a2)), (3, .int (tw_I a3)), (4, .int (tw_I x4))]) hC dX4_occursAt_87 hl (k := 5) rfl (by decide) rfl (fun ls hl => ?_)
        refine lv_goto (tgt := 39) hC.1 hC.2.1 dX4_occursAt_90 (by decide) ?_
        cases hk
        exact ih _ out hf H locs _ gx4 ((tm_wr_rg _)) hR hL (lv_sub hl [1, 2, 3, 4, 5, 0] rfl)
      · refine lv_iconst (v := tw_I 0) hC.1 hC.2.1 dX4_occursAt_85 rfl ?_
        cases hk
        cases hf
        exact tw_zret hC hR hL rfl rfl dX4_occursAt_86
    · refine lv_iconst (v := tw_I 1) hC.1 hC.2.1 dX4_occursAt_93 rfl ?_
      cases hk
      cases hf
      exact tw_zret hC hR hL rfl rfl dX4_occursAt_94
theorem sX4_occursAt_L39 {l : Launch} {p : Program} {e : Env} {s : State} {m : MethodId} {args : Array Value} {below : List Frame} {meth : Method} {c : Code} (G : tw_G) (sz : Nat) (hC : tw_C G p s m args meth c RX4 cX4_occursAt 6 (some .boolean)) (this : Nat) (a1 : Int) (a2 : Int) (a3 : Int) (ga1 : tm_rg a1) (ga2 : tm_rg a2) (ga3 : tm_rg a3) (h : tm_H) (x4 : Int) (x5 : Int) (gx4 : tm_rg x4) (gx5 : tm_rg x5) (out : Int) (hk : fX4_occursAt_L39 this a1 a2 a3 h x4 x5 = some out) (H : Heap) (locs : List Loc) (ls : Array Slot) (hR : tw_Rel G sz h H) (hL : tw_L G locs) (hl : lv_has ls 6 [(0, .ref this), (1, .int (tw_I a1)), (2, .int (tw_I a2)), (3, .int (tw_I a3)), (4, .int (tw_I x4)), (5, .int (tw_I x5))]) : W p l e rmX4_occursAt s m args below meth c H locs 0 0 (MQ below (tw_Qi G sz out h) args s 0 0 (tw_F G)) (F0 m 39 ls []) := by
  obtain ⟨k, hk⟩ := tm_wl_iff.mp hk
  exact sX4_occursAt_S0 G sz hC this a1 a2 a3 ga1 ga2 ga3 h k ((x4, x5)) out hk H locs ls gx4 gx5 hR hL hl
set_option maxRecDepth 100000 in
set_option maxHeartbeats 4000000 in
theorem cX4_occursAt_ok (l : Launch) (G : tw_G) (sz : Nat) (this : Nat) (a1 : Int) (a2 : Int) (a3 : Int) (ga1 : tm_rg a1) (ga2 : tm_rg a2) (ga3 : tm_rg a3) (h : tm_H) (out : Int) (hk : fX4_occursAt this a1 a2 a3 h = some out) : Met l yX4_occursAt (tw_WS yX4_occursAt cX4_occursAt 6 (some .boolean)) rmX4_occursAt (va_Pc [.ref this, .int (tw_I a1), .int (tw_I a2), .int (tw_I a3)] (tw_Pre G sz h)) (tw_Qi G sz out h) 0 0 (tw_F G) := by
  refine tw_met (by decide +kernel) (Nat.le_of_ble_eq_true rfl) ?_
  intro p e s m args below meth c H ls hC hnm hR hl
  unfold fX4_occursAt at hk
  obtain ⟨hob, hk⟩ := tm_th_is hk
  have hl : lv_has ls 6 [(0, .ref this), (1, .int (tw_I a1)), (2, .int (tw_I a2)), (3, .int (tw_I a3))] := hl
  have hL : tw_L G [] := fun q z => by cases z
  generalize hlc : ([] : List Loc) = locs at hL ⊢
  refine lv_aload_n hC.1 hC.2.1 dX4_occursAt_0 rfl (lv_at hl 0 rfl) ?_
  refine tw_getR hC hR hk flX4_28 dX4_occursAt_1 (fun r1 hk => ?_)
  refine lv_iload_n hC.1 hC.2.1 dX4_occursAt_4 rfl (lv_at hl 1 rfl) ?_
  refine kX5_lengthOf hC hR hL hk ga1 mlX4_69 ⟨by decide, by decide⟩ hl.1 (Nat.le_of_ble_eq_true rfl) ⟨Nat.zero_le _, Nat.zero_le _⟩ dX4_occursAt_5 (fun v2 H locs hR hL gv2 hk => ?_)
  refine lv_istore (lv' := [(4, .int (tw_I v2)), (0, .ref this), (1, .int (tw_I a1)), (2, .int (tw_I a2)), (3, .int (tw_I a3))]) hC.1 hC.2.1 dX4_occursAt_8 hl (by decide) rfl (fun ls hl => ?_)
  refine lv_iload hC.1 hC.2.1 dX4_occursAt_10 (lv_at hl 0 rfl) ?_
  refine tw_zeq (tgt := 34) hC hk gv2 dX4_occursAt_12 (by decide) (fun _ hk => ?_) (fun _ hk => ?_)
  · refine lv_iconst (v := tw_I 0) hC.1 hC.2.1 dX4_occursAt_34 rfl ?_
    cases hk
    exact tw_zret hC hR hL rfl rfl dX4_occursAt_35
  · refine lv_iload_n hC.1 hC.2.1 dX4_occursAt_15 rfl (lv_at hl 4 rfl) ?_
    refine tw_zlt (tgt := 34) hC hk ga3 dX4_occursAt_16 (by decide) (fun _ hk => ?_) (fun _ hk => ?_)
    · refine lv_iconst (v := tw_I 0) hC.1 hC.2.1 dX4_occursAt_34 rfl ?_
      cases hk
      exact tw_zret hC hR hL rfl rfl dX4_occursAt_35
    · refine lv_iload_n hC.1 hC.2.1 dX4_occursAt_19 rfl (lv_at hl 4 rfl) ?_
      refine lv_aload_n hC.1 hC.2.1 dX4_occursAt_20 rfl (lv_at hl 1 rfl) ?_
      refine tw_getR hC hR hk flX4_21 dX4_occursAt_21 (fun r3 hk => ?_)
      refine lv_iload_n hC.1 hC.2.1 dX4_occursAt_24 rfl (lv_at hl 3 rfl) ?_
      refine kX0_lengthOf hC hR hL hk ga2 mlX4_72 ⟨by decide, by decide⟩ hl.1 (Nat.le_of_ble_eq_true rfl) ⟨Nat.zero_le _, Nat.zero_le _⟩ dX4_occursAt_25 (fun v4 H locs hR hL gv4 hk => ?_)
      refine lv_iload hC.1 hC.2.1 dX4_occursAt_28 (lv_at hl 0 rfl) ?_
      refine tw_isub hC dX4_occursAt_30 ?_
      refine tw_cle (tgt := 36) hC hk ga3 ((tm_wr_rg _)) dX4_occursAt_31 (by decide) (fun _ hk => ?_) (fun _ hk => ?_)
      · refine lv_iconst (v := tw_I 0) hC.1 hC.2.1 dX4_occursAt_34 rfl ?_
        cases hk
        exact tw_zret hC hR hL rfl rfl dX4_occursAt_35
      · refine lv_iconst (v := tw_I 0) hC.1 hC.2.1 dX4_occursAt_36 rfl ?_
        refine lv_istore (lv' := [(5, .int (tw_I 0)), (4, .int (tw_I v2)), (0, .ref this), (1, .int (tw_I a1)), (2, .int (tw_I a2)), (3, .int (tw_I a3))]) hC.1 hC.2.1 dX4_occursAt_37 hl (by decide) rfl (fun ls hl => ?_)
        exact sX4_occursAt_L39 G sz hC this a1 a2 a3 ga1 ga2 ga3 h v2 0 gv2 ((tw_rgL rfl)) out hk H locs _ hR hL (lv_sub hl [2, 3, 4, 5, 1, 0] rfl)
set_option maxRecDepth 100000 in
theorem kX4_occursAt {l : Launch} {p : Program} {e : Env} {R : Room} {s : State} {m : MethodId} {args : Array Value} {below : List Frame} {meth : Method} {c : Code} {H : Heap} {locs : List Loc} {cells slots : Nat} {Q : State → Prop} {cc : ByteArray} {pc nL idx : Nat} {ls : Array Slot} {rest : List Value} {G : tw_G} {h : tm_H} {own : String} {ret : Option FieldType} {α : Type} {x : α} {sz : Nat} {this : Nat} {a1 : Int} {a2 : Int} {a3 : Int} (hC : tw_C G p s m args meth c own cc nL ret) (hR : tw_Rel G sz h H) (hL : tw_L G locs) {F : Int → Option α} (hk : (fX4_occursAt this a1 a2 a3 h).bind F = some x) (ga1 : tm_rg a1) (ga2 : tm_rg a2) (ga3 : tm_rg a3) (hl : tw_mL own idx yX4_occursAt) (hRm : rmX4_occursAt.frames + 1 ≤ R.frames ∧ 8 + (6 + 11) + rmX4_occursAt.locals ≤ R.locals) (hsz : ls.size = nL) (hW : (rest.map fun v => v.category).sum ≤ 8) (hf : cells + 0 ≤ R.cells ∧ slots + 0 ≤ R.slots) (hdg : decode cc pc = .ok (.invokevirtual idx, 3)) (kk : ∀ (r : Int) (H1 : Heap) (locs1 : List Loc), tw_Rel G sz h H1 → tw_L G locs1 → tm_rg r → F r = some x → W p l e R s m args below meth c H1 locs1 (cells + 0) (slots + 0) Q (F0 m (pc + 3) ls (.int (tw_I r) :: rest))) : W p l e R s m args below meth c H locs cells slots Q (F0 m pc ls (.int (tw_I a3) :: .int (tw_I a2) :: .int (tw_I a1) :: .ref this :: rest)) := by
  obtain ⟨r, hr, hF⟩ := Option.bind_eq_some_iff.mp hk
  have ob : ∀ r, fX4_occursAt this a1 a2 a3 h = some r → tm_is h 4 this := fun r hr => by
    unfold fX4_occursAt at hr
    exact (tm_th_is hr).1
  exact tw_backi (tw_runV hC hR (cX4_occursAt_ok l G sz this a1 a2 a3 ga1 ga2 ga3 h r hr) (n := 3) (As := [.int (tw_I a1), .int (tw_I a2), .int (tw_I a3)]) ⟨tw_in_TB 306 (by decide +kernel) rfl, tw_in_TB 10 (by decide +kernel) rfl, by decide +kernel⟩ (tw_in_TB 304 (by decide +kernel) rfl) (tw_in_TB 305 (by decide +kernel) rfl) hl ⟨rfl, rfl⟩ hRm (ob r hr) (T := TX4) (N := 5) rfl rfl hsz rfl hW hdg hf) hL (fun H1 locs1 a b g => kk r H1 locs1 a b g hF)
def rmX4_longestAt : Room := { frames := 2, cells := 0, slots := 0, locals := 47 }
set_option maxRecDepth 100000 in
set_option maxHeartbeats 4000000 in
theorem sX4_longestAt_S0 {l : Launch} {p : Program} {e : Env} {s : State} {m : MethodId} {args : Array Value} {below : List Frame} {meth : Method} {c : Code} (G : tw_G) (sz : Nat) (hC : tw_C G p s m args meth c RX4 cX4_longestAt 5 (some .int)) (this : Nat) (a1 : Int) (a2 : Int) (ga1 : tm_rg a1) (ga2 : tm_rg a2) (h : tm_H) : ∀ (k : Nat) (st : (Int × Int) ⊕ (Int × Int)) (out : Int), tm_wit (fX4_longestAt_S0 this a1 a2 h) k st = some out → match st with
    | .inl ((x3, x4)) => ∀ (H : Heap) (locs : List Loc) (ls : Array Slot), tm_rg x3 → tm_rg x4 → tw_Rel G sz h H → tw_L G locs → lv_has ls 5 [(0, .ref this), (1, .int (tw_I a1)), (2, .int (tw_I a2)), (3, .int (tw_I x3)), (4, .int (tw_I x4))] → W p l e rmX4_longestAt s m args below meth c H locs 0 0 (MQ below (tw_Qi G sz out h) args s 0 0 (tw_F G)) (F0 m 6 ls [])
    | .inr ((x3, x4)) => ∀ (H : Heap) (locs : List Loc) (ls : Array Slot), tm_rg x3 → tm_rg x4 → tw_Rel G sz h H → tw_L G locs → lv_has ls 5 [(0, .ref this), (1, .int (tw_I a1)), (2, .int (tw_I a2)), (3, .int (tw_I x3)), (4, .int (tw_I x4))] → W p l e rmX4_longestAt s m args below meth c H locs 0 0 (MQ below (tw_Qi G sz out h) args s 0 0 (tw_F G)) (F0 m 52 ls []) := by
  intro k
  induction k with
  | zero =>
    intro st out hk
    exact absurd hk (by unfold tm_wit; exact fun z => by cases z)
  | succ k ih =>
    intro st out hk
    obtain ⟨X, hk, hf⟩ := tm_wit_succ hk
    obtain ⟨x3, x4⟩ | ⟨x3, x4⟩ := st
    · intro H locs ls gx3 gx4 hR hL hl
      dsimp only [fX4_longestAt_S0] at hk
      refine lv_iload hC.1 hC.2.1 dX4_longestAt_6 (lv_at hl 4 rfl) ?_
      refine lv_aload_n hC.1 hC.2.1 dX4_longestAt_8 rfl (lv_at hl 0 rfl) ?_
      refine tw_getR hC hR hk flX4_28 dX4_longestAt_9 (fun r1 hk => ?_)
      refine kX5_size hC hR hL hk mlX4_82 ⟨by decide, by decide⟩ hl.1 (Nat.le_of_ble_eq_true rfl) ⟨Nat.zero_le _, Nat.zero_le _⟩ dX4_longestAt_12 (fun v2 H locs hR hL gv2 hk => ?_)
      refine tw_cge (tgt := 58) hC hk gx4 gv2 dX4_longestAt_15 (by decide) (fun _ hk => ?_) (fun _ hk => ?_)
      · refine lv_aload_n hC.1 hC.2.1 dX4_longestAt_18 rfl (lv_at hl 0 rfl) ?_
        refine tw_getR hC hR hk flX4_28 dX4_longestAt_19 (fun r3 hk => ?_)
        refine lv_iload hC.1 hC.2.1 dX4_longestAt_22 (lv_at hl 4 rfl) ?_
        refine kX5_lengthOf hC hR hL hk gx4 mlX4_69 ⟨by decide, by decide⟩ hl.1 (Nat.le_of_ble_eq_true rfl) ⟨Nat.zero_le _, Nat.zero_le _⟩ dX4_longestAt_24 (fun v4 H locs hR hL gv4 hk => ?_)
        refine lv_aload_n hC.1 hC.2.1 dX4_longestAt_27 rfl (lv_at hl 0 rfl) ?_
        refine tw_getR hC hR hk flX4_28 dX4_longestAt_28 (fun r5 hk => ?_)
        refine lv_iload_n hC.1 hC.2.1 dX4_longestAt_31 rfl (lv_at hl 3 rfl) ?_
        refine kX5_lengthOf hC hR hL hk gx3 mlX4_69 ⟨by decide, by decide⟩ hl.1 (Nat.le_of_ble_eq_true rfl) ⟨Nat.zero_le _, Nat.zero_le _⟩ dX4_longestAt_32 (fun v6 H locs hR hL gv6 hk => ?_)
        refine tw_cle (tgt := 52) hC hk gv4 gv6 dX4_longestAt_35 (by decide) (fun _ hk => ?_) (fun _ hk => ?_)
        · refine lv_aload_n hC.1 hC.2.1 dX4_longestAt_38 rfl (lv_at hl 0 rfl) ?_
          refine lv_iload hC.1 hC.2.1 dX4_longestAt_39 (lv_at hl 4 rfl) ?_
          refine lv_iload_n hC.1 hC.2.1 dX4_longestAt_41 rfl (lv_at hl 1 rfl) ?_
          refine lv_iload_n hC.1 hC.2.1 dX4_longestAt_42 rfl (lv_at hl 2 rfl) ?_
          refine kX4_occursAt hC hR hL hk gx4 ga1 ga2 mlX4_78 ⟨by decide, by decide⟩ hl.1 (Nat.le_of_ble_eq_true rfl) ⟨Nat.zero_le _, Nat.zero_le _⟩ dX4_longestAt_43 (fun v7 H locs hR hL gv7 hk => ?_)
          refine tw_zeq (tgt := 52) hC hk gv7 dX4_longestAt_46 (by decide) (fun _ hk => ?_) (fun _ hk => ?_)
          · cases hk
            exact ih _ out hf H locs _ gx3 gx4 hR hL (lv_sub hl [0, 1, 2, 3, 4] rfl)
          · refine lv_iload hC.1 hC.2.1 dX4_longestAt_49 (lv_at hl 4 rfl) ?_
            refine lv_istore_n (lv' := [(3, .int (tw_I x4)), (0, .ref this), (1, .int (tw_I a1)), (2, .int (tw_I a2)), (4, .int (tw_I x4))]) hC.1 hC.2.1 dX4_longestAt_51 rfl hl (by decide) rfl (fun ls hl => ?_)
            cases hk
            exact ih _ out hf H locs _ gx4 gx4 hR hL (lv_sub hl [1, 2, 3, 0, 4] rfl)
        · cases hk
          exact ih _ out hf H locs _ gx3 gx4 hR hL (lv_sub hl [0, 1, 2, 3, 4] rfl)
      · refine lv_iload_n hC.1 hC.2.1 dX4_longestAt_58 rfl (lv_at hl 3 rfl) ?_
        cases hk
        cases hf
        exact tw_iret hC hR hL gx3 rfl rfl dX4_longestAt_59
    · intro H locs ls gx3 gx4 hR hL hl
      dsimp only [fX4_longestAt_S0] at hk
      refine tw_iinc (lv' := [(4, .int (tw_I (tm_wr (x4 + 1)))), (0, .ref this), (1, .int (tw_I a1)), (2, .int (tw_I a2)), (3, .int (tw_I x3))]) hC dX4_longestAt_52 hl (k := 4) rfl (by decide) rfl (fun ls hl => ?_)
      refine lv_goto (tgt := 6) hC.1 hC.2.1 dX4_longestAt_55 (by decide) ?_
      cases hk
      exact ih _ out hf H locs _ gx3 ((tm_wr_rg _)) hR hL (lv_sub hl [1, 2, 3, 4, 0] rfl)
theorem sX4_longestAt_L6 {l : Launch} {p : Program} {e : Env} {s : State} {m : MethodId} {args : Array Value} {below : List Frame} {meth : Method} {c : Code} (G : tw_G) (sz : Nat) (hC : tw_C G p s m args meth c RX4 cX4_longestAt 5 (some .int)) (this : Nat) (a1 : Int) (a2 : Int) (ga1 : tm_rg a1) (ga2 : tm_rg a2) (h : tm_H) (x3 : Int) (x4 : Int) (gx3 : tm_rg x3) (gx4 : tm_rg x4) (out : Int) (hk : fX4_longestAt_L6 this a1 a2 h x3 x4 = some out) (H : Heap) (locs : List Loc) (ls : Array Slot) (hR : tw_Rel G sz h H) (hL : tw_L G locs) (hl : lv_has ls 5 [(0, .ref this), (1, .int (tw_I a1)), (2, .int (tw_I a2)), (3, .int (tw_I x3)), (4, .int (tw_I x4))]) : W p l e rmX4_longestAt s m args below meth c H locs 0 0 (MQ below (tw_Qi G sz out h) args s 0 0 (tw_F G)) (F0 m 6 ls []) := by
  obtain ⟨k, hk⟩ := tm_wl_iff.mp hk
  exact sX4_longestAt_S0 G sz hC this a1 a2 ga1 ga2 h k (.inl ((x3, x4))) out hk H locs ls gx3 gx4 hR hL hl
theorem sX4_longestAt_L52 {l : Launch} {p : Program} {e : Env} {s : State} {m : MethodId} {args : Array Value} {below : List Frame} {meth : Method} {c : Code} (G : tw_G) (sz : Nat) (hC : tw_C G p s m args meth c RX4 cX4_longestAt 5 (some .int)) (this : Nat) (a1 : Int) (a2 : Int) (ga1 : tm_rg a1) (ga2 : tm_rg a2) (h : tm_H) (x3 : Int) (x4 : Int) (gx3 : tm_rg x3) (gx4 : tm_rg x4) (out : Int) (hk : fX4_longestAt_L52 this a1 a2 h x3 x4 = some out) (H : Heap) (locs : List Loc) (ls : Array Slot) (hR : tw_Rel G sz h H) (hL : tw_L G locs) (hl : lv_has ls 5 [(0, .ref this), (1, .int (tw_I a1)), (2, .int (tw_I a2)), (3, .int (tw_I x3)), (4, .int (tw_I x4))]) : W p l e rmX4_longestAt s m args below meth c H locs 0 0 (MQ below (tw_Qi G sz out h) args s 0 0 (tw_F G)) (F0 m 52 ls []) := by
  obtain ⟨k, hk⟩ := tm_wl_iff.mp hk
  exact sX4_longestAt_S0 G sz hC this a1 a2 ga1 ga2 h k (.inr ((x3, x4))) out hk H locs ls gx3 gx4 hR hL hl
set_option maxRecDepth 100000 in
set_option maxHeartbeats 4000000 in
theorem cX4_longestAt_ok (l : Launch) (G : tw_G) (sz : Nat) (this : Nat) (a1 : Int) (a2 : Int) (ga1 : tm_rg a1) (ga2 : tm_rg a2) (h : tm_H) (out : Int) (hk : fX4_longestAt this a1 a2 h = some out) : Met l yX4_longestAt (tw_WS yX4_longestAt cX4_longestAt 5 (some .int)) rmX4_longestAt (va_Pc [.ref this, .int (tw_I a1), .int (tw_I a2)] (tw_Pre G sz h)) (tw_Qi G sz out h) 0 0 (tw_F G) := by
  refine tw_met (by decide +kernel) (Nat.le_of_ble_eq_true rfl) ?_
  intro p e s m args below meth c H ls hC hnm hR hl
  unfold fX4_longestAt at hk
  obtain ⟨hob, hk⟩ := tm_th_is hk
  have hl : lv_has ls 5 [(0, .ref this), (1, .int (tw_I a1)), (2, .int (tw_I a2))] := hl
  have hL : tw_L G [] := fun q z => by cases z
  generalize hlc : ([] : List Loc) = locs at hL ⊢
  refine lv_bipush (v := tw_I (-99)) hC.1 hC.2.1 dX4_longestAt_0 (by decide) ?_
  refine lv_istore_n (lv' := [(3, .int (tw_I ((-99)))), (0, .ref this), (1, .int (tw_I a1)), (2, .int (tw_I a2))]) hC.1 hC.2.1 dX4_longestAt_2 rfl hl (by decide) rfl (fun ls hl => ?_)
  refine lv_iconst (v := tw_I 0) hC.1 hC.2.1 dX4_longestAt_3 rfl ?_
  refine lv_istore (lv' := [(4, .int (tw_I 0)), (3, .int (tw_I ((-99)))), (0, .ref this), (1, .int (tw_I a1)), (2, .int (tw_I a2))]) hC.1 hC.2.1 dX4_longestAt_4 hl (by decide) rfl (fun ls hl => ?_)
  exact sX4_longestAt_L6 G sz hC this a1 a2 ga1 ga2 h ((-99)) 0 ((tw_rgL rfl)) ((tw_rgL rfl)) out hk H locs _ hR hL (lv_sub hl [2, 3, 4, 1, 0] rfl)
set_option maxRecDepth 100000 in
theorem kX4_longestAt {l : Launch} {p : Program} {e : Env} {R : Room} {s : State} {m : MethodId} {args : Array Value} {below : List Frame} {meth : Method} {c : Code} {H : Heap} {locs : List Loc} {cells slots : Nat} {Q : State → Prop} {cc : ByteArray} {pc nL idx : Nat} {ls : Array Slot} {rest : List Value} {G : tw_G} {h : tm_H} {own : String} {ret : Option FieldType} {α : Type} {x : α} {sz : Nat} {this : Nat} {a1 : Int} {a2 : Int} (hC : tw_C G p s m args meth c own cc nL ret) (hR : tw_Rel G sz h H) (hL : tw_L G locs) {F : Int → Option α} (hk : (fX4_longestAt this a1 a2 h).bind F = some x) (ga1 : tm_rg a1) (ga2 : tm_rg a2) (hl : tw_mL own idx yX4_longestAt) (hRm : rmX4_longestAt.frames + 1 ≤ R.frames ∧ 8 + (5 + 11) + rmX4_longestAt.locals ≤ R.locals) (hsz : ls.size = nL) (hW : (rest.map fun v => v.category).sum ≤ 8) (hf : cells + 0 ≤ R.cells ∧ slots + 0 ≤ R.slots) (hdg : decode cc pc = .ok (.invokevirtual idx, 3)) (kk : ∀ (r : Int) (H1 : Heap) (locs1 : List Loc), tw_Rel G sz h H1 → tw_L G locs1 → tm_rg r → F r = some x → W p l e R s m args below meth c H1 locs1 (cells + 0) (slots + 0) Q (F0 m (pc + 3) ls (.int (tw_I r) :: rest))) : W p l e R s m args below meth c H locs cells slots Q (F0 m pc ls (.int (tw_I a2) :: .int (tw_I a1) :: .ref this :: rest)) := by
  obtain ⟨r, hr, hF⟩ := Option.bind_eq_some_iff.mp hk
  have ob : ∀ r, fX4_longestAt this a1 a2 h = some r → tm_is h 4 this := fun r hr => by
    unfold fX4_longestAt at hr
    exact (tm_th_is hr).1
  exact tw_backi (tw_runV hC hR (cX4_longestAt_ok l G sz this a1 a2 ga1 ga2 h r hr) (n := 2) (As := [.int (tw_I a1), .int (tw_I a2)]) ⟨tw_in_TB 297 (by decide +kernel) rfl, tw_in_TB 10 (by decide +kernel) rfl, by decide +kernel⟩ (tw_in_TB 295 (by decide +kernel) rfl) (tw_in_TB 296 (by decide +kernel) rfl) hl ⟨rfl, rfl⟩ hRm (ob r hr) (T := TX4) (N := 5) rfl rfl hsz rfl hW hdg hf) hL (fun H1 locs1 a b g => kk r H1 locs1 a b g hF)
def rmX5_has : Room := { frames := 0, cells := 0, slots := 0, locals := 0 }
set_option maxRecDepth 100000 in
set_option maxHeartbeats 4000000 in
theorem cX5_has_ok (l : Launch) (G : tw_G) (sz : Nat) (this : Nat) (a1 : Int) (ga1 : tm_rg a1) (h : tm_H) (out : Int) (hk : fX5_has this a1 h = some out) : Met l yX5_has (tw_WS yX5_has cX5_has 2 (some .boolean)) rmX5_has (va_Pc [.ref this, .int (tw_I a1)] (tw_Pre G sz h)) (tw_Qi G sz out h) 0 0 (tw_F G) := by
  refine tw_met (by decide +kernel) (Nat.le_of_ble_eq_true rfl) ?_
  intro p e s m args below meth c H ls hC hnm hR hl
  unfold fX5_has at hk
  obtain ⟨hob, hk⟩ := tm_th_is hk
  have hl : lv_has ls 2 [(0, .ref this), (1, .int (tw_I a1))] := hl
  have hL : tw_L G [] := fun q z => by cases z
  generalize hlc : ([] : List Loc) = locs at hL ⊢
  refine lv_iload_n hC.1 hC.2.1 dX5_has_0 rfl (lv_at hl 1 rfl) ?_
  refine tw_zlt (tgt := 16) hC hk ga1 dX5_has_1 (by decide) (fun _ hk => ?_) (fun _ hk => ?_)
  · refine lv_iconst (v := tw_I 0) hC.1 hC.2.1 dX5_has_16 rfl ?_
    cases hk
    exact tw_zret hC hR hL rfl rfl dX5_has_17
  · refine lv_iload_n hC.1 hC.2.1 dX5_has_4 rfl (lv_at hl 1 rfl) ?_
    refine lv_aload_n hC.1 hC.2.1 dX5_has_5 rfl (lv_at hl 0 rfl) ?_
    refine tw_getI hC hR hk flX5_24 dX5_has_6 (fun v1 gv1 hk => ?_)
    refine tw_cge (tgt := 16) hC hk ga1 gv1 dX5_has_9 (by decide) (fun _ hk => ?_) (fun _ hk => ?_)
    · refine lv_iconst (v := tw_I 1) hC.1 hC.2.1 dX5_has_12 rfl ?_
      refine lv_goto (tgt := 17) hC.1 hC.2.1 dX5_has_13 (by decide) ?_
      cases hk
      exact tw_zret hC hR hL rfl rfl dX5_has_17
    · refine lv_iconst (v := tw_I 0) hC.1 hC.2.1 dX5_has_16 rfl ?_
      cases hk
      exact tw_zret hC hR hL rfl rfl dX5_has_17
set_option maxRecDepth 100000 in
theorem kX5_has {l : Launch} {p : Program} {e : Env} {R : Room} {s : State} {m : MethodId} {args : Array Value} {below : List Frame} {meth : Method} {c : Code} {H : Heap} {locs : List Loc} {cells slots : Nat} {Q : State → Prop} {cc : ByteArray} {pc nL idx : Nat} {ls : Array Slot} {rest : List Value} {G : tw_G} {h : tm_H} {own : String} {ret : Option FieldType} {α : Type} {x : α} {sz : Nat} {this : Nat} {a1 : Int} (hC : tw_C G p s m args meth c own cc nL ret) (hR : tw_Rel G sz h H) (hL : tw_L G locs) {F : Int → Option α} (hk : (fX5_has this a1 h).bind F = some x) (ga1 : tm_rg a1) (hl : tw_mL own idx yX5_has) (hRm : rmX5_has.frames + 1 ≤ R.frames ∧ 8 + (2 + 11) + rmX5_has.locals ≤ R.locals) (hsz : ls.size = nL) (hW : (rest.map fun v => v.category).sum ≤ 8) (hf : cells + 0 ≤ R.cells ∧ slots + 0 ≤ R.slots) (hdg : decode cc pc = .ok (.invokevirtual idx, 3)) (kk : ∀ (r : Int) (H1 : Heap) (locs1 : List Loc), tw_Rel G sz h H1 → tw_L G locs1 → tm_rg r → F r = some x → W p l e R s m args below meth c H1 locs1 (cells + 0) (slots + 0) Q (F0 m (pc + 3) ls (.int (tw_I r) :: rest))) : W p l e R s m args below meth c H locs cells slots Q (F0 m pc ls (.int (tw_I a1) :: .ref this :: rest)) := by
  obtain ⟨r, hr, hF⟩ := Option.bind_eq_some_iff.mp hk
  have ob : ∀ r, fX5_has this a1 h = some r → tm_is h 5 this := fun r hr => by
    unfold fX5_has at hr
    exact (tm_th_is hr).1
  exact tw_backi (tw_runV hC hR (cX5_has_ok l G sz this a1 ga1 h r hr) (n := 1) (As := [.int (tw_I a1)]) ⟨tw_in_TB 328 (by decide +kernel) rfl, tw_in_TB 13 (by decide +kernel) rfl, by decide +kernel⟩ (tw_in_TB 326 (by decide +kernel) rfl) (tw_in_TB 327 (by decide +kernel) rfl) hl ⟨rfl, rfl⟩ hRm (ob r hr) (T := TX5) (N := 4) rfl rfl hsz rfl hW hdg hf) hL (fun H1 locs1 a b g => kk r H1 locs1 a b g hF)
def rmX5_isQuiet : Room := { frames := 1, cells := 0, slots := 0, locals := 21 }
set_option maxRecDepth 100000 in
set_option maxHeartbeats 4000000 in
theorem cX5_isQuiet_ok (l : Launch) (G : tw_G) (sz : Nat) (this : Nat) (a1 : Int) (ga1 : tm_rg a1) (h : tm_H) (out : Int) (hk : fX5_isQuiet this a1 h = some out) : Met l yX5_isQuiet (tw_WS yX5_isQuiet cX5_isQuiet 2 (some .boolean)) rmX5_isQuiet (va_Pc [.ref this, .int (tw_I a1)] (tw_Pre G sz h)) (tw_Qi G sz out h) 0 0 (tw_F G) := by
  refine tw_met (by decide +kernel) (Nat.le_of_ble_eq_true rfl) ?_
  intro p e s m args below meth c H ls hC hnm hR hl
  unfold fX5_isQuiet at hk
  obtain ⟨hob, hk⟩ := tm_th_is hk
  have hl : lv_has ls 2 [(0, .ref this), (1, .int (tw_I a1))] := hl
  have hL : tw_L G [] := fun q z => by cases z
  generalize hlc : ([] : List Loc) = locs at hL ⊢
  refine lv_aload_n hC.1 hC.2.1 dX5_isQuiet_0 rfl (lv_at hl 0 rfl) ?_
  refine lv_iload_n hC.1 hC.2.1 dX5_isQuiet_1 rfl (lv_at hl 1 rfl) ?_
  refine kX5_has hC hR hL hk ga1 mlX5_28 ⟨by decide, by decide⟩ hl.1 (Nat.le_of_ble_eq_true rfl) ⟨Nat.zero_le _, Nat.zero_le _⟩ dX5_isQuiet_2 (fun v1 H locs hR hL gv1 hk => ?_)
  refine tw_zeq (tgt := 21) hC hk gv1 dX5_isQuiet_5 (by decide) (fun _ hk => ?_) (fun _ hk => ?_)
  · refine lv_iconst (v := tw_I 0) hC.1 hC.2.1 dX5_isQuiet_21 rfl ?_
    cases hk
    exact tw_zret hC hR hL rfl rfl dX5_isQuiet_22
  · refine lv_aload_n hC.1 hC.2.1 dX5_isQuiet_8 rfl (lv_at hl 0 rfl) ?_
    refine tw_getR hC hR hk flX5_20 dX5_isQuiet_9 (fun r2 hk => ?_)
    refine lv_iload_n hC.1 hC.2.1 dX5_isQuiet_12 rfl (lv_at hl 1 rfl) ?_
    refine tw_zald hC hR hk dX5_isQuiet_13 (fun v3 gv3 hk => ?_)
    refine tw_zeq (tgt := 21) hC hk gv3 dX5_isQuiet_14 (by decide) (fun _ hk => ?_) (fun _ hk => ?_)
    · refine lv_iconst (v := tw_I 0) hC.1 hC.2.1 dX5_isQuiet_21 rfl ?_
      cases hk
      exact tw_zret hC hR hL rfl rfl dX5_isQuiet_22
    · refine lv_iconst (v := tw_I 1) hC.1 hC.2.1 dX5_isQuiet_17 rfl ?_
      refine lv_goto (tgt := 22) hC.1 hC.2.1 dX5_isQuiet_18 (by decide) ?_
      cases hk
      exact tw_zret hC hR hL rfl rfl dX5_isQuiet_22
set_option maxRecDepth 100000 in
theorem kX5_isQuiet {l : Launch} {p : Program} {e : Env} {R : Room} {s : State} {m : MethodId} {args : Array Value} {below : List Frame} {meth : Method} {c : Code} {H : Heap} {locs : List Loc} {cells slots : Nat} {Q : State → Prop} {cc : ByteArray} {pc nL idx : Nat} {ls : Array Slot} {rest : List Value} {G : tw_G} {h : tm_H} {own : String} {ret : Option FieldType} {α : Type} {x : α} {sz : Nat} {this : Nat} {a1 : Int} (hC : tw_C G p s m args meth c own cc nL ret) (hR : tw_Rel G sz h H) (hL : tw_L G locs) {F : Int → Option α} (hk : (fX5_isQuiet this a1 h).bind F = some x) (ga1 : tm_rg a1) (hl : tw_mL own idx yX5_isQuiet) (hRm : rmX5_isQuiet.frames + 1 ≤ R.frames ∧ 8 + (2 + 11) + rmX5_isQuiet.locals ≤ R.locals) (hsz : ls.size = nL) (hW : (rest.map fun v => v.category).sum ≤ 8) (hf : cells + 0 ≤ R.cells ∧ slots + 0 ≤ R.slots) (hdg : decode cc pc = .ok (.invokevirtual idx, 3)) (kk : ∀ (r : Int) (H1 : Heap) (locs1 : List Loc), tw_Rel G sz h H1 → tw_L G locs1 → tm_rg r → F r = some x → W p l e R s m args below meth c H1 locs1 (cells + 0) (slots + 0) Q (F0 m (pc + 3) ls (.int (tw_I r) :: rest))) : W p l e R s m args below meth c H locs cells slots Q (F0 m pc ls (.int (tw_I a1) :: .ref this :: rest)) := by
  obtain ⟨r, hr, hF⟩ := Option.bind_eq_some_iff.mp hk
  have ob : ∀ r, fX5_isQuiet this a1 h = some r → tm_is h 5 this := fun r hr => by
    unfold fX5_isQuiet at hr
    exact (tm_th_is hr).1
  exact tw_backi (tw_runV hC hR (cX5_isQuiet_ok l G sz this a1 ga1 h r hr) (n := 1) (As := [.int (tw_I a1)]) ⟨tw_in_TB 332 (by decide +kernel) rfl, tw_in_TB 13 (by decide +kernel) rfl, by decide +kernel⟩ (tw_in_TB 330 (by decide +kernel) rfl) (tw_in_TB 331 (by decide +kernel) rfl) hl ⟨rfl, rfl⟩ hRm (ob r hr) (T := TX5) (N := 4) rfl rfl hsz rfl hW hdg hf) hL (fun H1 locs1 a b g => kk r H1 locs1 a b g hF)
def rmX3_note : Room := { frames := 2, cells := 0, slots := 0, locals := 42 }
set_option maxRecDepth 100000 in
set_option maxHeartbeats 4000000 in
theorem cX3_note_ok (l : Launch) (G : tw_G) (sz : Nat) (this : Nat) (a1 : Nat) (a2 : Int) (a3 : Int) (a4 : Int) (ga2 : tm_rg a2) (ga3 : tm_rg a3) (ga4 : tm_rg a4) (h : tm_H) (out : tm_H) (hk : fX3_note this a1 a2 a3 a4 h = some out) : Met l yX3_note (tw_WS yX3_note cX3_note 5 none) rmX3_note (va_Pc [.ref this, .ref a1, .int (tw_I a2), .int (tw_I a3), .int (tw_I a4)] (tw_Pre G sz h)) (tw_Qv G sz out) 0 0 (tw_F G) := by
  refine tw_met (by decide +kernel) (Nat.le_of_ble_eq_true rfl) ?_
  intro p e s m args below meth c H ls hC hnm hR hl
  unfold fX3_note at hk
  obtain ⟨hob, hk⟩ := tm_th_is hk
  have hl : lv_has ls 5 [(0, .ref this), (1, .ref a1), (2, .int (tw_I a2)), (3, .int (tw_I a3)), (4, .int (tw_I a4))] := hl
  have hL : tw_L G [] := fun q z => by cases z
  generalize hlc : ([] : List Loc) = locs at hL ⊢
  refine lv_aload_n hC.1 hC.2.1 dX3_note_0 rfl (lv_at hl 1 rfl) ?_
  refine tw_getR hC hR hk flX3_67 dX3_note_1 (fun r1 hk => ?_)
  refine lv_iload_n hC.1 hC.2.1 dX3_note_4 rfl (lv_at hl 2 rfl) ?_
  refine kX5_has hC hR hL hk ga2 mlX3_75 ⟨by decide, by decide⟩ hl.1 (Nat.le_of_ble_eq_true rfl) ⟨Nat.zero_le _, Nat.zero_le _⟩ dX3_note_5 (fun v2 H locs hR hL gv2 hk => ?_)
  refine tw_zne (tgt := 12) hC hk gv2 dX3_note_8 (by decide) (fun _ hk => ?_) (fun _ hk => ?_)
  · cases hk
    exact tw_vret hC hR hL rfl dX3_note_11
  · refine lv_aload_n hC.1 hC.2.1 dX3_note_12 rfl (lv_at hl 0 rfl) ?_
    refine tw_getR hC hR hk flX3_26 dX3_note_13 (fun r3 hk => ?_)
    refine lv_iload_n hC.1 hC.2.1 dX3_note_16 rfl (lv_at hl 2 rfl) ?_
    refine lv_dup2_11 hC.1 hC.2.1 dX3_note_17 rfl rfl ?_
    refine tw_iald hC hR hk dX3_note_18 (fun v4 gv4 hk => ?_)
    refine lv_iconst (v := tw_I 1) hC.1 hC.2.1 dX3_note_19 rfl ?_
    refine tw_iadd hC dX3_note_20 ?_
    refine tw_iast hC hR hL ((tm_wr_rg _)) hk dX3_note_21 (fun h5 H locs hR hL hk => ?_)
    refine lv_aload_n hC.1 hC.2.1 dX3_note_22 rfl (lv_at hl 0 rfl) ?_
    refine lv_dup hC.1 hC.2.1 dX3_note_23 rfl ?_
    refine tw_getI hC hR hk flX3_43 dX3_note_24 (fun v6 gv6 hk => ?_)
    refine lv_iconst (v := tw_I 1) hC.1 hC.2.1 dX3_note_27 rfl ?_
    refine tw_iadd hC dX3_note_28 ?_
    refine tw_putI hC hR hL ((tm_wr_rg _)) hk fpX3_43 dX3_note_29 (fun h7 H locs hR hL hk => ?_)
    refine lv_aload_n hC.1 hC.2.1 dX3_note_32 rfl (lv_at hl 0 rfl) ?_
    refine tw_getR hC hR hk flX3_23 dX3_note_33 (fun r8 hk => ?_)
    refine lv_iload_n hC.1 hC.2.1 dX3_note_36 rfl (lv_at hl 2 rfl) ?_
    refine tw_aald hC hR hk dX3_note_37 (fun r9 hk => ?_)
    refine lv_iload_n hC.1 hC.2.1 dX3_note_38 rfl (lv_at hl 3 rfl) ?_
    refine tw_iald hC hR hk dX3_note_39 (fun v10 gv10 hk => ?_)
    refine lv_bipush (v := tw_I (-99)) hC.1 hC.2.1 dX3_note_40 (by decide) ?_
    refine tw_ceq (tgt := 46) hC hk gv10 ((tw_rgL rfl)) dX3_note_42 (by decide) (fun _ hk => ?_) (fun _ hk => ?_)
    · refine lv_aload_n hC.1 hC.2.1 dX3_note_46 rfl (lv_at hl 0 rfl) ?_
      refine tw_getR hC hR hk flX3_23 dX3_note_47 (fun r11 hk => ?_)
      refine lv_iload_n hC.1 hC.2.1 dX3_note_50 rfl (lv_at hl 2 rfl) ?_
      refine tw_aald hC hR hk dX3_note_51 (fun r12 hk => ?_)
      refine lv_iload_n hC.1 hC.2.1 dX3_note_52 rfl (lv_at hl 3 rfl) ?_
      refine lv_iload hC.1 hC.2.1 dX3_note_53 (lv_at hl 4 rfl) ?_
      refine tw_iast hC hR hL ga4 hk dX3_note_55 (fun h13 H locs hR hL hk => ?_)
      refine lv_aload_n hC.1 hC.2.1 dX3_note_56 rfl (lv_at hl 1 rfl) ?_
      refine tw_getR hC hR hk flX3_67 dX3_note_57 (fun r14 hk => ?_)
      refine lv_iload_n hC.1 hC.2.1 dX3_note_60 rfl (lv_at hl 2 rfl) ?_
      refine kX5_isQuiet hC hR hL hk ga2 mlX3_79 ⟨by decide, by decide⟩ hl.1 (Nat.le_of_ble_eq_true rfl) ⟨Nat.zero_le _, Nat.zero_le _⟩ dX3_note_61 (fun v15 H locs hR hL gv15 hk => ?_)
      refine tw_zne (tgt := 117) hC hk gv15 dX3_note_64 (by decide) (fun _ hk => ?_) (fun _ hk => ?_)
      · refine lv_aload_n hC.1 hC.2.1 dX3_note_67 rfl (lv_at hl 0 rfl) ?_
        refine tw_getI hC hR hk flX3_39 dX3_note_68 (fun v16 gv16 hk => ?_)
        refine lv_bipush (v := tw_I 78) hC.1 hC.2.1 dX3_note_71 (by decide) ?_
        refine tw_cge (tgt := 117) hC hk gv16 ((tw_rgL rfl)) dX3_note_73 (by decide) (fun _ hk => ?_) (fun _ hk => ?_)
        · refine lv_aload_n hC.1 hC.2.1 dX3_note_76 rfl (lv_at hl 0 rfl) ?_
          refine tw_getR hC hR hk flX3_30 dX3_note_77 (fun r17 hk => ?_)
          refine lv_aload_n hC.1 hC.2.1 dX3_note_80 rfl (lv_at hl 0 rfl) ?_
          refine tw_getI hC hR hk flX3_39 dX3_note_81 (fun v18 gv18 hk => ?_)
          refine lv_iload_n hC.1 hC.2.1 dX3_note_84 rfl (lv_at hl 3 rfl) ?_
          refine tw_iast hC hR hL ga3 hk dX3_note_85 (fun h19 H locs hR hL hk => ?_)
          refine lv_aload_n hC.1 hC.2.1 dX3_note_86 rfl (lv_at hl 0 rfl) ?_
          refine tw_getR hC hR hk flX3_33 dX3_note_87 (fun r20 hk => ?_)
          refine lv_aload_n hC.1 hC.2.1 dX3_note_90 rfl (lv_at hl 0 rfl) ?_
          refine tw_getI hC hR hk flX3_39 dX3_note_91 (fun v21 gv21 hk => ?_)
          refine lv_iload hC.1 hC.2.1 dX3_note_94 (lv_at hl 4 rfl) ?_
          refine tw_iast hC hR hL ga4 hk dX3_note_96 (fun h22 H locs hR hL hk => ?_)
          refine lv_aload_n hC.1 hC.2.1 dX3_note_97 rfl (lv_at hl 0 rfl) ?_
          refine tw_getR hC hR hk flX3_36 dX3_note_98 (fun r23 hk => ?_)
          refine lv_aload_n hC.1 hC.2.1 dX3_note_101 rfl (lv_at hl 0 rfl) ?_
          refine tw_getI hC hR hk flX3_39 dX3_note_102 (fun v24 gv24 hk => ?_)
          refine lv_iload_n hC.1 hC.2.1 dX3_note_105 rfl (lv_at hl 2 rfl) ?_
          refine tw_iast hC hR hL ga2 hk dX3_note_106 (fun h25 H locs hR hL hk => ?_)
          refine lv_aload_n hC.1 hC.2.1 dX3_note_107 rfl (lv_at hl 0 rfl) ?_
          refine lv_dup hC.1 hC.2.1 dX3_note_108 rfl ?_
          refine tw_getI hC hR hk flX3_39 dX3_note_109 (fun v26 gv26 hk => ?_)
          refine lv_iconst (v := tw_I 1) hC.1 hC.2.1 dX3_note_112 rfl ?_
          refine tw_iadd hC dX3_note_113 ?_
          refine tw_putI hC hR hL ((tm_wr_rg _)) hk fpX3_39 dX3_note_114 (fun h27 H locs hR hL hk => ?_)
          cases hk
          exact tw_vret hC hR hL rfl dX3_note_117
        · cases hk
          exact tw_vret hC hR hL rfl dX3_note_117
      · cases hk
        exact tw_vret hC hR hL rfl dX3_note_117
    · cases hk
      exact tw_vret hC hR hL rfl dX3_note_45
set_option maxRecDepth 100000 in
theorem kX3_note {l : Launch} {p : Program} {e : Env} {R : Room} {s : State} {m : MethodId} {args : Array Value} {below : List Frame} {meth : Method} {c : Code} {H : Heap} {locs : List Loc} {cells slots : Nat} {Q : State → Prop} {cc : ByteArray} {pc nL idx : Nat} {ls : Array Slot} {rest : List Value} {G : tw_G} {h : tm_H} {own : String} {ret : Option FieldType} {α : Type} {x : α} {sz : Nat} {this : Nat} {a1 : Nat} {a2 : Int} {a3 : Int} {a4 : Int} (hC : tw_C G p s m args meth c own cc nL ret) (hR : tw_Rel G sz h H) (hL : tw_L G locs) {F : tm_H → Option α} (hk : (fX3_note this a1 a2 a3 a4 h).bind F = some x) (ga2 : tm_rg a2) (ga3 : tm_rg a3) (ga4 : tm_rg a4) (hl : tw_mL own idx yX3_note) (hRm : rmX3_note.frames + 1 ≤ R.frames ∧ 8 + (5 + 11) + rmX3_note.locals ≤ R.locals) (hsz : ls.size = nL) (hW : (rest.map fun v => v.category).sum ≤ 8) (hf : cells + 0 ≤ R.cells ∧ slots + 0 ≤ R.slots) (hdg : decode cc pc = .ok (.invokevirtual idx, 3)) (kk : ∀ (h1 : tm_H) (H1 : Heap) (locs1 : List Loc), tw_Rel G sz h1 H1 → tw_L G locs1 → F h1 = some x → W p l e R s m args below meth c H1 locs1 (cells + 0) (slots + 0) Q (F0 m (pc + 3) ls (rest))) : W p l e R s m args below meth c H locs cells slots Q (F0 m pc ls (.int (tw_I a4) :: .int (tw_I a3) :: .int (tw_I a2) :: .ref a1 :: .ref this :: rest)) := by
  obtain ⟨r, hr, hF⟩ := Option.bind_eq_some_iff.mp hk
  have ob : ∀ r, fX3_note this a1 a2 a3 a4 h = some r → tm_is h 3 this := fun r hr => by
    unfold fX3_note at hr
    exact (tm_th_is hr).1
  exact tw_backv (tw_runV hC hR (cX3_note_ok l G sz this a1 a2 a3 a4 ga2 ga3 ga4 h r hr) (n := 4) (As := [.ref a1, .int (tw_I a2), .int (tw_I a3), .int (tw_I a4)]) ⟨tw_in_TB 324 (by decide +kernel) rfl, tw_in_TB 17 (by decide +kernel) rfl, by decide +kernel⟩ (tw_in_TB 323 (by decide +kernel) rfl) (tw_in_TB 3 (by decide +kernel) rfl) hl ⟨rfl, rfl⟩ hRm (ob r hr) (T := TX3) (N := 9) rfl rfl hsz rfl hW hdg hf) hL (fun H1 locs1 a b => kk r H1 locs1 a b hF)
def rmX3_readChapter : Room := { frames := 3, cells := 0, slots := 0, locals := 71 }
set_option maxRecDepth 100000 in
set_option maxHeartbeats 4000000 in
theorem sX3_readChapter_S0 {l : Launch} {p : Program} {e : Env} {s : State} {m : MethodId} {args : Array Value} {below : List Frame} {meth : Method} {c : Code} (G : tw_G) (sz : Nat) (hC : tw_C G p s m args meth c RX3 cX3_readChapter 7 none) (this : Nat) (a1 : Nat) (a2 : Int) (ga2 : tm_rg a2) : ∀ (k : Nat) (st : (Int × Int × Int × Int × tm_H) ⊕ (Int × Int × Int × Int × tm_H) ⊕ (Int × Int × Int × Int × Nat × Int × Int × tm_H)) (out : tm_H), tm_wit (fX3_readChapter_S0 this a1 a2) k st = some out → match st with
    | .inl ((x3, x4, x5, x6, h)) => ∀ (H : Heap) (locs : List Loc) (ls : Array Slot), tm_rg x3 → tm_rg x4 → tm_rg x5 → tm_rg x6 → tw_Rel G sz h H → tw_L G locs → lv_has ls 7 [(0, .ref this), (1, .ref a1), (2, .int (tw_I a2)), (3, .int (tw_I x3)), (4, .int (tw_I x4)), (5, .int (tw_I x5)), (6, .int (tw_I x6))] → W p l e rmX3_readChapter s m args below meth c H locs 0 0 (MQ below (tw_Qv G sz out) args s 0 0 (tw_F G)) (F0 m 12 ls [])
    | .inr (.inl ((x3, x4, x5, x6, h))) => ∀ (H : Heap) (locs : List Loc) (ls : Array Slot), tm_rg x3 → tm_rg x4 → tm_rg x5 → tm_rg x6 → tw_Rel G sz h H → tw_L G locs → lv_has ls 7 [(0, .ref this), (1, .ref a1), (2, .int (tw_I a2)), (3, .int (tw_I x3)), (4, .int (tw_I x4)), (5, .int (tw_I x5)), (6, .int (tw_I x6))] → W p l e rmX3_readChapter s m args below meth c H locs 0 0 (MQ below (tw_Qv G sz out) args s 0 0 (tw_F G)) (F0 m 66 ls [])
    | .inr (.inr ((x3, x4, x5, x6, s0, s1, s2, h))) => ∀ (H : Heap) (locs : List Loc) (ls : Array Slot), tm_rg x3 → tm_rg x4 → tm_rg x5 → tm_rg x6 → tm_rg s1 → tm_rg s2 → tw_Rel G sz h H → tw_L G locs → lv_has ls 7 [(0, .ref this), (1, .ref a1), (2, .int (tw_I a2)), (3, .int (tw_I x3)), (4, .int (tw_I x4)), (5, .int (tw_I x5)), (6, .int (tw_I x6))] → W p l e rmX3_readChapter s m args below meth c H locs 0 0 (MQ below (tw_Qv G sz out) args s 0 0 (tw_F G)) (F0 m 100 ls [.int (tw_I s2), .int (tw_I s1), .ref s0]) := by
  intro k
  induction k with
  | zero =>
    intro st out hk
    exact absurd hk (by unfold tm_wit; exact fun z => by cases z)
  | succ k ih =>
    intro st out hk
    obtain ⟨X, hk, hf⟩ := tm_wit_succ hk
    obtain ⟨x3, x4, x5, x6, h⟩ | ⟨x3, x4, x5, x6, h⟩ | ⟨x3, x4, x5, x6, s0, s1, s2, h⟩ := st
    · intro H locs ls gx3 gx4 gx5 gx6 hR hL hl
      dsimp only [fX3_readChapter_S0] at hk
      refine lv_iload hC.1 hC.2.1 dX3_readChapter_12 (lv_at hl 6 rfl) ?_
      refine lv_aload_n hC.1 hC.2.1 dX3_readChapter_14 rfl (lv_at hl 1 rfl) ?_
      refine tw_getR hC hR hk flX3_53 dX3_readChapter_15 (fun r1 hk => ?_)
      refine lv_iload_n hC.1 hC.2.1 dX3_readChapter_18 rfl (lv_at hl 2 rfl) ?_
      refine kX0_lengthOf hC hR hL hk ga2 mlX3_59 ⟨by decide, by decide⟩ hl.1 (Nat.le_of_ble_eq_true rfl) ⟨Nat.zero_le _, Nat.zero_le _⟩ dX3_readChapter_19 (fun v2 H locs hR hL gv2 hk => ?_)
      refine tw_cge (tgt := 107) hC hk gx6 gv2 dX3_readChapter_22 (by decide) (fun _ hk => ?_) (fun _ hk => ?_)
      · refine lv_iload hC.1 hC.2.1 dX3_readChapter_25 (lv_at hl 6 rfl) ?_
        refine lv_iload hC.1 hC.2.1 dX3_readChapter_27 (lv_at hl 5 rfl) ?_
        refine tw_clt (tgt := 66) hC hk gx6 gx5 dX3_readChapter_29 (by decide) (fun _ hk => ?_) (fun _ hk => ?_)
        · cases hk
          exact ih _ out hf H locs _ gx3 gx4 gx5 gx6 hR hL (lv_sub hl [0, 1, 2, 3, 4, 5, 6] rfl)
        · refine lv_aload_n hC.1 hC.2.1 dX3_readChapter_32 rfl (lv_at hl 1 rfl) ?_
          refine lv_iload_n hC.1 hC.2.1 dX3_readChapter_33 rfl (lv_at hl 2 rfl) ?_
          refine lv_iload hC.1 hC.2.1 dX3_readChapter_34 (lv_at hl 6 rfl) ?_
          refine kX4_longestAt hC hR hL hk ga2 gx6 mlX3_63 ⟨by decide, by decide⟩ hl.1 (Nat.le_of_ble_eq_true rfl) ⟨Nat.zero_le _, Nat.zero_le _⟩ dX3_readChapter_36 (fun v3 H locs hR hL gv3 hk => ?_)
          refine lv_istore_n (lv' := [(3, .int (tw_I v3)), (0, .ref this), (1, .ref a1), (2, .int (tw_I a2)), (4, .int (tw_I x4)), (5, .int (tw_I x5)), (6, .int (tw_I x6))]) hC.1 hC.2.1 dX3_readChapter_39 rfl hl (by decide) rfl (fun ls hl => ?_)
          refine lv_iload hC.1 hC.2.1 dX3_readChapter_40 (lv_at hl 6 rfl) ?_
          refine lv_istore (lv' := [(4, .int (tw_I x6)), (3, .int (tw_I v3)), (0, .ref this), (1, .ref a1), (2, .int (tw_I a2)), (5, .int (tw_I x5)), (6, .int (tw_I x6))]) hC.1 hC.2.1 dX3_readChapter_42 hl (by decide) rfl (fun ls hl => ?_)
          refine lv_iload hC.1 hC.2.1 dX3_readChapter_44 (lv_at hl 6 rfl) ?_
          refine lv_aload_n hC.1 hC.2.1 dX3_readChapter_46 rfl (lv_at hl 3 rfl) ?_
          refine tw_getR hC hR hk flX3_67 dX3_readChapter_47 (fun r4 hk => ?_)
          refine lv_iload_n hC.1 hC.2.1 dX3_readChapter_50 rfl (lv_at hl 1 rfl) ?_
          refine kX5_lengthOf hC hR hL hk gv3 mlX3_70 ⟨by decide, by decide⟩ hl.1 (Nat.le_of_ble_eq_true rfl) ⟨Nat.zero_le _, Nat.zero_le _⟩ dX3_readChapter_51 (fun v5 H locs hR hL gv5 hk => ?_)
          refine tw_iadd hC dX3_readChapter_54 ?_
          refine lv_istore (lv' := [(5, .int (tw_I (tm_wr (x6 + v5)))), (4, .int (tw_I x6)), (3, .int (tw_I v3)), (0, .ref this), (1, .ref a1), (2, .int (tw_I a2)), (6, .int (tw_I x6))]) hC.1 hC.2.1 dX3_readChapter_55 hl (by decide) rfl (fun ls hl => ?_)
          refine lv_aload_n hC.1 hC.2.1 dX3_readChapter_57 rfl (lv_at hl 3 rfl) ?_
          refine lv_aload_n hC.1 hC.2.1 dX3_readChapter_58 rfl (lv_at hl 4 rfl) ?_
          refine lv_iload_n hC.1 hC.2.1 dX3_readChapter_59 rfl (lv_at hl 2 rfl) ?_
          refine lv_iload_n hC.1 hC.2.1 dX3_readChapter_60 rfl (lv_at hl 5 rfl) ?_
          refine lv_iload hC.1 hC.2.1 dX3_readChapter_61 (lv_at hl 6 rfl) ?_
          refine kX3_note hC hR hL hk gv3 ga2 gx6 mlX3_71 ⟨by decide, by decide⟩ hl.1 (Nat.le_of_ble_eq_true rfl) ⟨Nat.zero_le _, Nat.zero_le _⟩ dX3_readChapter_63 (fun h6 H locs hR hL hk => ?_)
          cases hk
          exact ih _ out hf H locs _ gv3 gx6 ((tm_wr_rg _)) gx6 hR hL (lv_sub hl [3, 4, 5, 2, 1, 0, 6] rfl)
      · cases hk
        cases hf
        exact tw_vret hC hR hL rfl dX3_readChapter_107
    · intro H locs ls gx3 gx4 gx5 gx6 hR hL hl
      dsimp only [fX3_readChapter_S0] at hk
      refine lv_aload_n hC.1 hC.2.1 dX3_readChapter_66 rfl (lv_at hl 0 rfl) ?_
      refine tw_getR hC hR hk flX3_15 dX3_readChapter_67 (fun r7 hk => ?_)
      refine lv_iload_n hC.1 hC.2.1 dX3_readChapter_70 rfl (lv_at hl 2 rfl) ?_
      refine tw_aald hC hR hk dX3_readChapter_71 (fun r8 hk => ?_)
      refine lv_iload hC.1 hC.2.1 dX3_readChapter_72 (lv_at hl 6 rfl) ?_
      refine lv_iload_n hC.1 hC.2.1 dX3_readChapter_74 rfl (lv_at hl 3 rfl) ?_
      refine tw_iast hC hR hL gx3 hk dX3_readChapter_75 (fun h9 H locs hR hL hk => ?_)
      refine lv_aload_n hC.1 hC.2.1 dX3_readChapter_76 rfl (lv_at hl 0 rfl) ?_
      refine tw_getR hC hR hk flX3_20 dX3_readChapter_77 (fun r10 hk => ?_)
      refine lv_iload_n hC.1 hC.2.1 dX3_readChapter_80 rfl (lv_at hl 2 rfl) ?_
      refine tw_aald hC hR hk dX3_readChapter_81 (fun r11 hk => ?_)
      refine lv_iload hC.1 hC.2.1 dX3_readChapter_82 (lv_at hl 6 rfl) ?_
      refine lv_iload_n hC.1 hC.2.1 dX3_readChapter_84 rfl (lv_at hl 3 rfl) ?_
      refine lv_bipush (v := tw_I (-99)) hC.1 hC.2.1 dX3_readChapter_85 (by decide) ?_
      refine tw_cne (tgt := 95) hC hk gx3 ((tw_rgL rfl)) dX3_readChapter_87 (by decide) (fun _ hk => ?_) (fun _ hk => ?_)
      · refine lv_bipush (v := tw_I (-99)) hC.1 hC.2.1 dX3_readChapter_90 (by decide) ?_
        refine lv_goto (tgt := 100) hC.1 hC.2.1 dX3_readChapter_92 (by decide) ?_
        cases hk
        exact ih _ out hf H locs _ gx3 gx4 gx5 gx6 gx6 ((tw_rgL rfl)) hR hL (lv_sub hl [0, 1, 2, 3, 4, 5, 6] rfl)
      · refine lv_iload hC.1 hC.2.1 dX3_readChapter_95 (lv_at hl 6 rfl) ?_
        refine lv_iload hC.1 hC.2.1 dX3_readChapter_97 (lv_at hl 4 rfl) ?_
        refine tw_isub hC dX3_readChapter_99 ?_
        cases hk
        exact ih _ out hf H locs _ gx3 gx4 gx5 gx6 gx6 ((tm_wr_rg _)) hR hL (lv_sub hl [0, 1, 2, 3, 4, 5, 6] rfl)
    · intro H locs ls gx3 gx4 gx5 gx6 gs1 gs2 hR hL hl
      dsimp only [fX3_readChapter_S0] at hk
      refine tw_iast hC hR hL gs2 hk dX3_readChapter_100 (fun h12 H locs hR hL hk => ?_)
      refine tw_iinc (lv' := [(6, .int (tw_I (tm_wr (x6 + 1)))), (0, .ref this), (1, .ref a1), (2, .int (tw_I a2)), (3, .int (tw_I x3)), (4, .int (tw_I x4)), (5, .int (tw_I x5))]) hC dX3_readChapter_101 hl (k := 6) rfl (by decide) rfl (fun ls hl => ?_)
      refine lv_goto (tgt := 12) hC.1 hC.2.1 dX3_readChapter_104 (by decide) ?_
      cases hk
      exact ih _ out hf H locs _ gx3 gx4 gx5 ((tm_wr_rg _)) hR hL (lv_sub hl [1, 2, 3, 4, 5, 6, 0] rfl)
theorem sX3_readChapter_L12 {l : Launch} {p : Program} {e : Env} {s : State} {m : MethodId} {args : Array Value} {below : List Frame} {meth : Method} {c : Code} (G : tw_G) (sz : Nat) (hC : tw_C G p s m args meth c RX3 cX3_readChapter 7 none) (this : Nat) (a1 : Nat) (a2 : Int) (ga2 : tm_rg a2) (x3 : Int) (x4 : Int) (x5 : Int) (x6 : Int) (h : tm_H) (gx3 : tm_rg x3) (gx4 : tm_rg x4) (gx5 : tm_rg x5) (gx6 : tm_rg x6) (out : tm_H) (hk : fX3_readChapter_L12 this a1 a2 x3 x4 x5 x6 h = some out) (H : Heap) (locs : List Loc) (ls : Array Slot) (hR : tw_Rel G sz h H) (hL : tw_L G locs) (hl : lv_has ls 7 [(0, .ref this), (1, .ref a1), (2, .int (tw_I a2)), (3, .int (tw_I x3)), (4, .int (tw_I x4)), (5, .int (tw_I x5)), (6, .int (tw_I x6))]) : W p l e rmX3_readChapter s m args below meth c H locs 0 0 (MQ below (tw_Qv G sz out) args s 0 0 (tw_F G)) (F0 m 12 ls []) := by
  obtain ⟨k, hk⟩ := tm_wl_iff.mp hk
  exact sX3_readChapter_S0 G sz hC this a1 a2 ga2 k (.inl ((x3, x4, x5, x6, h))) out hk H locs ls gx3 gx4 gx5 gx6 hR hL hl
theorem sX3_readChapter_L66 {l : Launch} {p : Program} {e : Env} {s : State} {m : MethodId} {args : Array Value} {below : List Frame} {meth : Method} {c : Code} (G : tw_G) (sz : Nat) (hC : tw_C G p s m args meth c RX3 cX3_readChapter 7 none) (this : Nat) (a1 : Nat) (a2 : Int) (ga2 : tm_rg a2) (x3 : Int) (x4 : Int) (x5 : Int) (x6 : Int) (h : tm_H) (gx3 : tm_rg x3) (gx4 : tm_rg x4) (gx5 : tm_rg x5) (gx6 : tm_rg x6) (out : tm_H) (hk : fX3_readChapter_L66 this a1 a2 x3 x4 x5 x6 h = some out) (H : Heap) (locs : List Loc) (ls : Array Slot) (hR : tw_Rel G sz h H) (hL : tw_L G locs) (hl : lv_has ls 7 [(0, .ref this), (1, .ref a1), (2, .int (tw_I a2)), (3, .int (tw_I x3)), (4, .int (tw_I x4)), (5, .int (tw_I x5)), (6, .int (tw_I x6))]) : W p l e rmX3_readChapter s m args below meth c H locs 0 0 (MQ below (tw_Qv G sz out) args s 0 0 (tw_F G)) (F0 m 66 ls []) := by
  obtain ⟨k, hk⟩ := tm_wl_iff.mp hk
  exact sX3_readChapter_S0 G sz hC this a1 a2 ga2 k (.inr (.inl ((x3, x4, x5, x6, h)))) out hk H locs ls gx3 gx4 gx5 gx6 hR hL hl
theorem sX3_readChapter_L100 {l : Launch} {p : Program} {e : Env} {s : State} {m : MethodId} {args : Array Value} {below : List Frame} {meth : Method} {c : Code} (G : tw_G) (sz : Nat) (hC : tw_C G p s m args meth c RX3 cX3_readChapter 7 none) (this : Nat) (a1 : Nat) (a2 : Int) (ga2 : tm_rg a2) (x3 : Int) (x4 : Int) (x5 : Int) (x6 : Int) (s0 : Nat) (s1 : Int) (s2 : Int) (h : tm_H) (gx3 : tm_rg x3) (gx4 : tm_rg x4) (gx5 : tm_rg x5) (gx6 : tm_rg x6) (gs1 : tm_rg s1) (gs2 : tm_rg s2) (out : tm_H) (hk : fX3_readChapter_L100 this a1 a2 x3 x4 x5 x6 s0 s1 s2 h = some out) (H : Heap) (locs : List Loc) (ls : Array Slot) (hR : tw_Rel G sz h H) (hL : tw_L G locs) (hl : lv_has ls 7 [(0, .ref this), (1, .ref a1), (2, .int (tw_I a2)), (3, .int (tw_I x3)), (4, .int (tw_I x4)), (5, .int (tw_I x5)), (6, .int (tw_I x6))]) : W p l e rmX3_readChapter s m args below meth c H locs 0 0 (MQ below (tw_Qv G sz out) args s 0 0 (tw_F G)) (F0 m 100 ls [.int (tw_I s2), .int (tw_I s1), .ref s0]) := by
  obtain ⟨k, hk⟩ := tm_wl_iff.mp hk
  exact sX3_readChapter_S0 G sz hC this a1 a2 ga2 k (.inr (.inr ((x3, x4, x5, x6, s0, s1, s2, h)))) out hk H locs ls gx3 gx4 gx5 gx6 gs1 gs2 hR hL hl
set_option maxRecDepth 100000 in
set_option maxHeartbeats 4000000 in
theorem cX3_readChapter_ok (l : Launch) (G : tw_G) (sz : Nat) (this : Nat) (a1 : Nat) (a2 : Int) (ga2 : tm_rg a2) (h : tm_H) (out : tm_H) (hk : fX3_readChapter this a1 a2 h = some out) : Met l yX3_readChapter (tw_WS yX3_readChapter cX3_readChapter 7 none) rmX3_readChapter (va_Pc [.ref this, .ref a1, .int (tw_I a2)] (tw_Pre G sz h)) (tw_Qv G sz out) 0 0 (tw_F G) := by
  refine tw_met (by decide +kernel) (Nat.le_of_ble_eq_true rfl) ?_
  intro p e s m args below meth c H ls hC hnm hR hl
  unfold fX3_readChapter at hk
  obtain ⟨hob, hk⟩ := tm_th_is hk
  have hl : lv_has ls 7 [(0, .ref this), (1, .ref a1), (2, .int (tw_I a2))] := hl
  have hL : tw_L G [] := fun q z => by cases z
  generalize hlc : ([] : List Loc) = locs at hL ⊢
  refine lv_bipush (v := tw_I (-99)) hC.1 hC.2.1 dX3_readChapter_0 (by decide) ?_
  refine lv_istore_n (lv' := [(3, .int (tw_I ((-99)))), (0, .ref this), (1, .ref a1), (2, .int (tw_I a2))]) hC.1 hC.2.1 dX3_readChapter_2 rfl hl (by decide) rfl (fun ls hl => ?_)
  refine lv_iconst (v := tw_I 0) hC.1 hC.2.1 dX3_readChapter_3 rfl ?_
  refine lv_istore (lv' := [(4, .int (tw_I 0)), (3, .int (tw_I ((-99)))), (0, .ref this), (1, .ref a1), (2, .int (tw_I a2))]) hC.1 hC.2.1 dX3_readChapter_4 hl (by decide) rfl (fun ls hl => ?_)
  refine lv_iconst (v := tw_I 0) hC.1 hC.2.1 dX3_readChapter_6 rfl ?_
  refine lv_istore (lv' := [(5, .int (tw_I 0)), (4, .int (tw_I 0)), (3, .int (tw_I ((-99)))), (0, .ref this), (1, .ref a1), (2, .int (tw_I a2))]) hC.1 hC.2.1 dX3_readChapter_7 hl (by decide) rfl (fun ls hl => ?_)
  refine lv_iconst (v := tw_I 0) hC.1 hC.2.1 dX3_readChapter_9 rfl ?_
  refine lv_istore (lv' := [(6, .int (tw_I 0)), (5, .int (tw_I 0)), (4, .int (tw_I 0)), (3, .int (tw_I ((-99)))), (0, .ref this), (1, .ref a1), (2, .int (tw_I a2))]) hC.1 hC.2.1 dX3_readChapter_10 hl (by decide) rfl (fun ls hl => ?_)
  exact sX3_readChapter_L12 G sz hC this a1 a2 ga2 ((-99)) 0 0 0 h ((tw_rgL rfl)) ((tw_rgL rfl)) ((tw_rgL rfl)) ((tw_rgL rfl)) out hk H locs _ hR hL (lv_sub hl [4, 5, 6, 3, 2, 1, 0] rfl)
set_option maxRecDepth 100000 in
theorem kX3_readChapter {l : Launch} {p : Program} {e : Env} {R : Room} {s : State} {m : MethodId} {args : Array Value} {below : List Frame} {meth : Method} {c : Code} {H : Heap} {locs : List Loc} {cells slots : Nat} {Q : State → Prop} {cc : ByteArray} {pc nL idx : Nat} {ls : Array Slot} {rest : List Value} {G : tw_G} {h : tm_H} {own : String} {ret : Option FieldType} {α : Type} {x : α} {sz : Nat} {this : Nat} {a1 : Nat} {a2 : Int} (hC : tw_C G p s m args meth c own cc nL ret) (hR : tw_Rel G sz h H) (hL : tw_L G locs) {F : tm_H → Option α} (hk : (fX3_readChapter this a1 a2 h).bind F = some x) (ga2 : tm_rg a2) (hl : tw_mL own idx yX3_readChapter) (hRm : rmX3_readChapter.frames + 1 ≤ R.frames ∧ 8 + (7 + 11) + rmX3_readChapter.locals ≤ R.locals) (hsz : ls.size = nL) (hW : (rest.map fun v => v.category).sum ≤ 8) (hf : cells + 0 ≤ R.cells ∧ slots + 0 ≤ R.slots) (hdg : decode cc pc = .ok (.invokevirtual idx, 3)) (kk : ∀ (h1 : tm_H) (H1 : Heap) (locs1 : List Loc), tw_Rel G sz h1 H1 → tw_L G locs1 → F h1 = some x → W p l e R s m args below meth c H1 locs1 (cells + 0) (slots + 0) Q (F0 m (pc + 3) ls (rest))) : W p l e R s m args below meth c H locs cells slots Q (F0 m pc ls (.int (tw_I a2) :: .ref a1 :: .ref this :: rest)) := by
  obtain ⟨r, hr, hF⟩ := Option.bind_eq_some_iff.mp hk
  have ob : ∀ r, fX3_readChapter this a1 a2 h = some r → tm_is h 3 this := fun r hr => by
    unfold fX3_readChapter at hr
    exact (tm_th_is hr).1
  exact tw_backv (tw_runV hC hR (cX3_readChapter_ok l G sz this a1 a2 ga2 h r hr) (n := 2) (As := [.ref a1, .int (tw_I a2)]) ⟨tw_in_TB 289 (by decide +kernel) rfl, tw_in_TB 17 (by decide +kernel) rfl, by decide +kernel⟩ (tw_in_TB 288 (by decide +kernel) rfl) (tw_in_TB 2 (by decide +kernel) rfl) hl ⟨rfl, rfl⟩ hRm (ob r hr) (T := TX3) (N := 9) rfl rfl hsz rfl hW hdg hf) hL (fun H1 locs1 a b => kk r H1 locs1 a b hF)
def rmX3_read : Room := { frames := 4, cells := 0, slots := 0, locals := 97 }
set_option maxRecDepth 100000 in
set_option maxHeartbeats 4000000 in
theorem sX3_read_S0 {l : Launch} {p : Program} {e : Env} {s : State} {m : MethodId} {args : Array Value} {below : List Frame} {meth : Method} {c : Code} (G : tw_G) (sz : Nat) (hC : tw_C G p s m args meth c RX3 cX3_read 3 none) (this : Nat) (a1 : Nat)  : ∀ (k : Nat) (st : (Int × tm_H)) (out : tm_H), tm_wit (fX3_read_S0 this a1) k st = some out → match st with
    | (x2, h) => ∀ (H : Heap) (locs : List Loc) (ls : Array Slot), tm_rg x2 → tw_Rel G sz h H → tw_L G locs → lv_has ls 3 [(0, .ref this), (1, .ref a1), (2, .int (tw_I x2))] → W p l e rmX3_read s m args below meth c H locs 0 0 (MQ below (tw_Qv G sz out) args s 0 0 (tw_F G)) (F0 m 6 ls []) := by
  intro k
  induction k with
  | zero =>
    intro st out hk
    exact absurd hk (by unfold tm_wit; exact fun z => by cases z)
  | succ k ih =>
    intro st out hk
    obtain ⟨X, hk, hf⟩ := tm_wit_succ hk
    obtain ⟨x2, h⟩ := st
    intro H locs ls gx2 hR hL hl
    dsimp only [fX3_read_S0] at hk
    refine lv_iload_n hC.1 hC.2.1 dX3_read_6 rfl (lv_at hl 2 rfl) ?_
    refine lv_bipush (v := tw_I 6) hC.1 hC.2.1 dX3_read_7 (by decide) ?_
    refine tw_cge (tgt := 24) hC hk gx2 ((tw_rgL rfl)) dX3_read_9 (by decide) (fun _ hk => ?_) (fun _ hk => ?_)
    · refine lv_aload_n hC.1 hC.2.1 dX3_read_12 rfl (lv_at hl 0 rfl) ?_
      refine lv_aload_n hC.1 hC.2.1 dX3_read_13 rfl (lv_at hl 1 rfl) ?_
      refine lv_iload_n hC.1 hC.2.1 dX3_read_14 rfl (lv_at hl 2 rfl) ?_
      refine kX3_readChapter hC hR hL hk gx2 mlX3_49 ⟨by decide, by decide⟩ hl.1 (Nat.le_of_ble_eq_true rfl) ⟨Nat.zero_le _, Nat.zero_le _⟩ dX3_read_15 (fun h2 H locs hR hL hk => ?_)
      refine tw_iinc (lv' := [(2, .int (tw_I (tm_wr (x2 + 1)))), (0, .ref this), (1, .ref a1)]) hC dX3_read_18 hl (k := 2) rfl (by decide) rfl (fun ls hl => ?_)
      refine lv_goto (tgt := 6) hC.1 hC.2.1 dX3_read_21 (by decide) ?_
      cases hk
      exact ih _ out hf H locs _ ((tm_wr_rg _)) hR hL (lv_sub hl [1, 2, 0] rfl)
    · cases hk
      cases hf
      exact tw_vret hC hR hL rfl dX3_read_24
theorem sX3_read_L6 {l : Launch} {p : Program} {e : Env} {s : State} {m : MethodId} {args : Array Value} {below : List Frame} {meth : Method} {c : Code} (G : tw_G) (sz : Nat) (hC : tw_C G p s m args meth c RX3 cX3_read 3 none) (this : Nat) (a1 : Nat)  (x2 : Int) (h : tm_H) (gx2 : tm_rg x2) (out : tm_H) (hk : fX3_read_L6 this a1 x2 h = some out) (H : Heap) (locs : List Loc) (ls : Array Slot) (hR : tw_Rel G sz h H) (hL : tw_L G locs) (hl : lv_has ls 3 [(0, .ref this), (1, .ref a1), (2, .int (tw_I x2))]) : W p l e rmX3_read s m args below meth c H locs 0 0 (MQ below (tw_Qv G sz out) args s 0 0 (tw_F G)) (F0 m 6 ls []) := by
  obtain ⟨k, hk⟩ := tm_wl_iff.mp hk
  exact sX3_read_S0 G sz hC this a1  k ((x2, h)) out hk H locs ls gx2 hR hL hl
set_option maxRecDepth 100000 in
set_option maxHeartbeats 4000000 in
theorem cX3_read_ok (l : Launch) (G : tw_G) (sz : Nat) (this : Nat) (a1 : Nat)  (h : tm_H) (out : tm_H) (hk : fX3_read this a1 h = some out) : Met l yX3_read (tw_WS yX3_read cX3_read 3 none) rmX3_read (va_Pc [.ref this, .ref a1] (tw_Pre G sz h)) (tw_Qv G sz out) 0 0 (tw_F G) := by
  refine tw_met (by decide +kernel) (Nat.le_of_ble_eq_true rfl) ?_
  intro p e s m args below meth c H ls hC hnm hR hl
  unfold fX3_read at hk
  obtain ⟨hob, hk⟩ := tm_th_is hk
  have hl : lv_has ls 3 [(0, .ref this), (1, .ref a1)] := hl
  have hL : tw_L G [] := fun q z => by cases z
  generalize hlc : ([] : List Loc) = locs at hL ⊢
  refine lv_aload_n hC.1 hC.2.1 dX3_read_0 rfl (lv_at hl 0 rfl) ?_
  refine kX3_forget hC hR hL hk mlX3_46 ⟨by decide, by decide⟩ hl.1 (Nat.le_of_ble_eq_true rfl) ⟨Nat.zero_le _, Nat.zero_le _⟩ dX3_read_1 (fun h1 H locs hR hL hk => ?_)
  refine lv_iconst (v := tw_I 0) hC.1 hC.2.1 dX3_read_4 rfl ?_
  refine lv_istore_n (lv' := [(2, .int (tw_I 0)), (0, .ref this), (1, .ref a1)]) hC.1 hC.2.1 dX3_read_5 rfl hl (by decide) rfl (fun ls hl => ?_)
  exact sX3_read_L6 G sz hC this a1 0 h1 ((tw_rgL rfl)) out hk H locs _ hR hL (lv_sub hl [1, 2, 0] rfl)
set_option maxRecDepth 100000 in
theorem kX3_read {l : Launch} {p : Program} {e : Env} {R : Room} {s : State} {m : MethodId} {args : Array Value} {below : List Frame} {meth : Method} {c : Code} {H : Heap} {locs : List Loc} {cells slots : Nat} {Q : State → Prop} {cc : ByteArray} {pc nL idx : Nat} {ls : Array Slot} {rest : List Value} {G : tw_G} {h : tm_H} {own : String} {ret : Option FieldType} {α : Type} {x : α} {sz : Nat} {this : Nat} {a1 : Nat} (hC : tw_C G p s m args meth c own cc nL ret) (hR : tw_Rel G sz h H) (hL : tw_L G locs) {F : tm_H → Option α} (hk : (fX3_read this a1 h).bind F = some x)  (hl : tw_mL own idx yX3_read) (hRm : rmX3_read.frames + 1 ≤ R.frames ∧ 8 + (3 + 11) + rmX3_read.locals ≤ R.locals) (hsz : ls.size = nL) (hW : (rest.map fun v => v.category).sum ≤ 8) (hf : cells + 0 ≤ R.cells ∧ slots + 0 ≤ R.slots) (hdg : decode cc pc = .ok (.invokevirtual idx, 3)) (kk : ∀ (h1 : tm_H) (H1 : Heap) (locs1 : List Loc), tw_Rel G sz h1 H1 → tw_L G locs1 → F h1 = some x → W p l e R s m args below meth c H1 locs1 (cells + 0) (slots + 0) Q (F0 m (pc + 3) ls (rest))) : W p l e R s m args below meth c H locs cells slots Q (F0 m pc ls (.ref a1 :: .ref this :: rest)) := by
  obtain ⟨r, hr, hF⟩ := Option.bind_eq_some_iff.mp hk
  have ob : ∀ r, fX3_read this a1 h = some r → tm_is h 3 this := fun r hr => by
    unfold fX3_read at hr
    exact (tm_th_is hr).1
  exact tw_backv (tw_runV hC hR (cX3_read_ok l G sz this a1  h r hr) (n := 1) (As := [.ref a1]) ⟨tw_in_TB 281 (by decide +kernel) rfl, tw_in_TB 17 (by decide +kernel) rfl, by decide +kernel⟩ (tw_in_TB 279 (by decide +kernel) rfl) (tw_in_TB 280 (by decide +kernel) rfl) hl ⟨rfl, rfl⟩ hRm (ob r hr) (T := TX3) (N := 9) rfl rfl hsz rfl hW hdg hf) hL (fun H1 locs1 a b => kk r H1 locs1 a b hF)
def rmX3_markCount : Room := { frames := 0, cells := 0, slots := 0, locals := 0 }
set_option maxRecDepth 100000 in
set_option maxHeartbeats 4000000 in
theorem cX3_markCount_ok (l : Launch) (G : tw_G) (sz : Nat) (this : Nat)  (h : tm_H) (out : Int) (hk : fX3_markCount this h = some out) : Met l yX3_markCount (tw_WS yX3_markCount cX3_markCount 1 (some .int)) rmX3_markCount (va_Pc [.ref this] (tw_Pre G sz h)) (tw_Qi G sz out h) 0 0 (tw_F G) := by
  refine tw_met (by decide +kernel) (Nat.le_of_ble_eq_true rfl) ?_
  intro p e s m args below meth c H ls hC hnm hR hl
  unfold fX3_markCount at hk
  obtain ⟨hob, hk⟩ := tm_th_is hk
  have hl : lv_has ls 1 [(0, .ref this)] := hl
  have hL : tw_L G [] := fun q z => by cases z
  generalize hlc : ([] : List Loc) = locs at hL ⊢
  refine lv_aload_n hC.1 hC.2.1 dX3_markCount_0 rfl (lv_at hl 0 rfl) ?_
  refine tw_getI hC hR hk flX3_39 dX3_markCount_1 (fun v1 gv1 hk => ?_)
  cases hk
  exact tw_iret hC hR hL gv1 rfl rfl dX3_markCount_4
set_option maxRecDepth 100000 in
theorem kX3_markCount {l : Launch} {p : Program} {e : Env} {R : Room} {s : State} {m : MethodId} {args : Array Value} {below : List Frame} {meth : Method} {c : Code} {H : Heap} {locs : List Loc} {cells slots : Nat} {Q : State → Prop} {cc : ByteArray} {pc nL idx : Nat} {ls : Array Slot} {rest : List Value} {G : tw_G} {h : tm_H} {own : String} {ret : Option FieldType} {α : Type} {x : α} {sz : Nat} {this : Nat} (hC : tw_C G p s m args meth c own cc nL ret) (hR : tw_Rel G sz h H) (hL : tw_L G locs) {F : Int → Option α} (hk : (fX3_markCount this h).bind F = some x)  (hl : tw_mL own idx yX3_markCount) (hRm : rmX3_markCount.frames + 1 ≤ R.frames ∧ 8 + (1 + 11) + rmX3_markCount.locals ≤ R.locals) (hsz : ls.size = nL) (hW : (rest.map fun v => v.category).sum ≤ 8) (hf : cells + 0 ≤ R.cells ∧ slots + 0 ≤ R.slots) (hdg : decode cc pc = .ok (.invokevirtual idx, 3)) (kk : ∀ (r : Int) (H1 : Heap) (locs1 : List Loc), tw_Rel G sz h H1 → tw_L G locs1 → tm_rg r → F r = some x → W p l e R s m args below meth c H1 locs1 (cells + 0) (slots + 0) Q (F0 m (pc + 3) ls (.int (tw_I r) :: rest))) : W p l e R s m args below meth c H locs cells slots Q (F0 m pc ls (.ref this :: rest)) := by
  obtain ⟨r, hr, hF⟩ := Option.bind_eq_some_iff.mp hk
  have ob : ∀ r, fX3_markCount this h = some r → tm_is h 3 this := fun r hr => by
    unfold fX3_markCount at hr
    exact (tm_th_is hr).1
  exact tw_backi (tw_runV hC hR (cX3_markCount_ok l G sz this  h r hr) (n := 0) (As := []) ⟨tw_in_TB 337 (by decide +kernel) rfl, tw_in_TB 17 (by decide +kernel) rfl, by decide +kernel⟩ (tw_in_TB 335 (by decide +kernel) rfl) (tw_in_TB 336 (by decide +kernel) rfl) hl ⟨rfl, rfl⟩ hRm (ob r hr) (T := TX3) (N := 9) rfl rfl hsz rfl hW hdg hf) hL (fun H1 locs1 a b g => kk r H1 locs1 a b g hF)
def rmX3_readingCount : Room := { frames := 0, cells := 0, slots := 0, locals := 0 }
set_option maxRecDepth 100000 in
set_option maxHeartbeats 4000000 in
theorem cX3_readingCount_ok (l : Launch) (G : tw_G) (sz : Nat) (this : Nat)  (h : tm_H) (out : Int) (hk : fX3_readingCount this h = some out) : Met l yX3_readingCount (tw_WS yX3_readingCount cX3_readingCount 1 (some .int)) rmX3_readingCount (va_Pc [.ref this] (tw_Pre G sz h)) (tw_Qi G sz out h) 0 0 (tw_F G) := by
  refine tw_met (by decide +kernel) (Nat.le_of_ble_eq_true rfl) ?_
  intro p e s m args below meth c H ls hC hnm hR hl
  unfold fX3_readingCount at hk
  obtain ⟨hob, hk⟩ := tm_th_is hk
  have hl : lv_has ls 1 [(0, .ref this)] := hl
  have hL : tw_L G [] := fun q z => by cases z
  generalize hlc : ([] : List Loc) = locs at hL ⊢
  refine lv_aload_n hC.1 hC.2.1 dX3_readingCount_0 rfl (lv_at hl 0 rfl) ?_
  refine tw_getI hC hR hk flX3_43 dX3_readingCount_1 (fun v1 gv1 hk => ?_)
  cases hk
  exact tw_iret hC hR hL gv1 rfl rfl dX3_readingCount_4
set_option maxRecDepth 100000 in
theorem kX3_readingCount {l : Launch} {p : Program} {e : Env} {R : Room} {s : State} {m : MethodId} {args : Array Value} {below : List Frame} {meth : Method} {c : Code} {H : Heap} {locs : List Loc} {cells slots : Nat} {Q : State → Prop} {cc : ByteArray} {pc nL idx : Nat} {ls : Array Slot} {rest : List Value} {G : tw_G} {h : tm_H} {own : String} {ret : Option FieldType} {α : Type} {x : α} {sz : Nat} {this : Nat} (hC : tw_C G p s m args meth c own cc nL ret) (hR : tw_Rel G sz h H) (hL : tw_L G locs) {F : Int → Option α} (hk : (fX3_readingCount this h).bind F = some x)  (hl : tw_mL own idx yX3_readingCount) (hRm : rmX3_readingCount.frames + 1 ≤ R.frames ∧ 8 + (1 + 11) + rmX3_readingCount.locals ≤ R.locals) (hsz : ls.size = nL) (hW : (rest.map fun v => v.category).sum ≤ 8) (hf : cells + 0 ≤ R.cells ∧ slots + 0 ≤ R.slots) (hdg : decode cc pc = .ok (.invokevirtual idx, 3)) (kk : ∀ (r : Int) (H1 : Heap) (locs1 : List Loc), tw_Rel G sz h H1 → tw_L G locs1 → tm_rg r → F r = some x → W p l e R s m args below meth c H1 locs1 (cells + 0) (slots + 0) Q (F0 m (pc + 3) ls (.int (tw_I r) :: rest))) : W p l e R s m args below meth c H locs cells slots Q (F0 m pc ls (.ref this :: rest)) := by
  obtain ⟨r, hr, hF⟩ := Option.bind_eq_some_iff.mp hk
  have ob : ∀ r, fX3_readingCount this h = some r → tm_is h 3 this := fun r hr => by
    unfold fX3_readingCount at hr
    exact (tm_th_is hr).1
  exact tw_backi (tw_runV hC hR (cX3_readingCount_ok l G sz this  h r hr) (n := 0) (As := []) ⟨tw_in_TB 341 (by decide +kernel) rfl, tw_in_TB 17 (by decide +kernel) rfl, by decide +kernel⟩ (tw_in_TB 339 (by decide +kernel) rfl) (tw_in_TB 340 (by decide +kernel) rfl) hl ⟨rfl, rfl⟩ hRm (ob r hr) (T := TX3) (N := 9) rfl rfl hsz rfl hW hdg hf) hL (fun H1 locs1 a b g => kk r H1 locs1 a b g hF)
def rmX3_isInside : Room := { frames := 0, cells := 0, slots := 0, locals := 0 }
set_option maxRecDepth 100000 in
set_option maxHeartbeats 4000000 in
theorem cX3_isInside_ok (l : Launch) (G : tw_G) (sz : Nat) (a1 : Int) (a2 : Int) (ga1 : tm_rg a1) (ga2 : tm_rg a2) (h : tm_H) (out : Int) (hk : fX3_isInside a1 a2 h = some out) : Met l yX3_isInside (tw_WS yX3_isInside cX3_isInside 2 (some .boolean)) rmX3_isInside (va_Pc [.int (tw_I a1), .int (tw_I a2)] (tw_Pre G sz h)) (tw_Qi G sz out h) 0 0 (tw_F G) := by
  refine tw_met (by decide +kernel) (Nat.le_of_ble_eq_true rfl) ?_
  intro p e s m args below meth c H ls hC hnm hR hl
  unfold fX3_isInside at hk
  have hl : lv_has ls 2 [(0, .int (tw_I a1)), (1, .int (tw_I a2))] := hl
  have hL : tw_L G [] := fun q z => by cases z
  generalize hlc : ([] : List Loc) = locs at hL ⊢
  refine lv_iload_n hC.1 hC.2.1 dX3_isInside_0 rfl (lv_at hl 0 rfl) ?_
  refine tw_zlt (tgt := 24) hC hk ga1 dX3_isInside_1 (by decide) (fun _ hk => ?_) (fun _ hk => ?_)
  · refine lv_iconst (v := tw_I 0) hC.1 hC.2.1 dX3_isInside_24 rfl ?_
    cases hk
    exact tw_zret hC hR hL rfl rfl dX3_isInside_25
  · refine lv_iload_n hC.1 hC.2.1 dX3_isInside_4 rfl (lv_at hl 0 rfl) ?_
    refine lv_bipush (v := tw_I 6) hC.1 hC.2.1 dX3_isInside_5 (by decide) ?_
    refine tw_cge (tgt := 24) hC hk ga1 ((tw_rgL rfl)) dX3_isInside_7 (by decide) (fun _ hk => ?_) (fun _ hk => ?_)
    · refine lv_iload_n hC.1 hC.2.1 dX3_isInside_10 rfl (lv_at hl 1 rfl) ?_
      refine tw_zlt (tgt := 24) hC hk ga2 dX3_isInside_11 (by decide) (fun _ hk => ?_) (fun _ hk => ?_)
      · refine lv_iconst (v := tw_I 0) hC.1 hC.2.1 dX3_isInside_24 rfl ?_
        cases hk
        exact tw_zret hC hR hL rfl rfl dX3_isInside_25
      · refine lv_iload_n hC.1 hC.2.1 dX3_isInside_14 rfl (lv_at hl 1 rfl) ?_
        refine lv_bipush (v := tw_I 40) hC.1 hC.2.1 dX3_isInside_15 (by decide) ?_
        refine tw_cge (tgt := 24) hC hk ga2 ((tw_rgL rfl)) dX3_isInside_17 (by decide) (fun _ hk => ?_) (fun _ hk => ?_)
        · refine lv_iconst (v := tw_I 1) hC.1 hC.2.1 dX3_isInside_20 rfl ?_
          refine lv_goto (tgt := 25) hC.1 hC.2.1 dX3_isInside_21 (by decide) ?_
          cases hk
          exact tw_zret hC hR hL rfl rfl dX3_isInside_25
        · refine lv_iconst (v := tw_I 0) hC.1 hC.2.1 dX3_isInside_24 rfl ?_
          cases hk
          exact tw_zret hC hR hL rfl rfl dX3_isInside_25
    · refine lv_iconst (v := tw_I 0) hC.1 hC.2.1 dX3_isInside_24 rfl ?_
      cases hk
      exact tw_zret hC hR hL rfl rfl dX3_isInside_25
set_option maxRecDepth 100000 in
theorem kX3_isInside {l : Launch} {p : Program} {e : Env} {R : Room} {s : State} {m : MethodId} {args : Array Value} {below : List Frame} {meth : Method} {c : Code} {H : Heap} {locs : List Loc} {cells slots : Nat} {Q : State → Prop} {cc : ByteArray} {pc nL idx : Nat} {ls : Array Slot} {rest : List Value} {G : tw_G} {h : tm_H} {own : String} {ret : Option FieldType} {α : Type} {x : α} {sz : Nat} {a1 : Int} {a2 : Int} (hC : tw_C G p s m args meth c own cc nL ret) (hR : tw_Rel G sz h H) (hL : tw_L G locs) {F : Int → Option α} (hk : (fX3_isInside a1 a2 h).bind F = some x) (ga1 : tm_rg a1) (ga2 : tm_rg a2) (hl : tw_mL own idx yX3_isInside) (hRm : rmX3_isInside.frames + 1 ≤ R.frames ∧ 8 + (2 + 11) + rmX3_isInside.locals ≤ R.locals) (hsz : ls.size = nL) (hW : (rest.map fun v => v.category).sum ≤ 8) (hf : cells + 0 ≤ R.cells ∧ slots + 0 ≤ R.slots) (hdg : decode cc pc = .ok (.invokestatic idx, 3)) (kk : ∀ (r : Int) (H1 : Heap) (locs1 : List Loc), tw_Rel G sz h H1 → tw_L G locs1 → tm_rg r → F r = some x → W p l e R s m args below meth c H1 locs1 (cells + 0) (slots + 0) Q (F0 m (pc + 3) ls (.int (tw_I r) :: rest))) : W p l e R s m args below meth c H locs cells slots Q (F0 m pc ls (.int (tw_I a2) :: .int (tw_I a1) :: rest)) := by
  obtain ⟨r, hr, hF⟩ := Option.bind_eq_some_iff.mp hk
  exact tw_backi (tw_runS hC hR (cX3_isInside_ok l G sz a1 a2 ga1 ga2 h r hr) (n := 2) ⟨tw_in_TB 386 (by decide +kernel) rfl, tw_in_TB 17 (by decide +kernel) rfl, by decide +kernel⟩ (tw_in_TB 385 (by decide +kernel) rfl) hl ⟨rfl, rfl⟩ hRm rfl hsz rfl hW hdg hf) hL (fun H1 locs1 a b g => kk r H1 locs1 a b g hF)
def rmX3_termOver : Room := { frames := 1, cells := 0, slots := 0, locals := 21 }
set_option maxRecDepth 100000 in
set_option maxHeartbeats 4000000 in
theorem cX3_termOver_ok (l : Launch) (G : tw_G) (sz : Nat) (this : Nat) (a1 : Int) (a2 : Int) (ga1 : tm_rg a1) (ga2 : tm_rg a2) (h : tm_H) (out : Int) (hk : fX3_termOver this a1 a2 h = some out) : Met l yX3_termOver (tw_WS yX3_termOver cX3_termOver 3 (some .int)) rmX3_termOver (va_Pc [.ref this, .int (tw_I a1), .int (tw_I a2)] (tw_Pre G sz h)) (tw_Qi G sz out h) 0 0 (tw_F G) := by
  refine tw_met (by decide +kernel) (Nat.le_of_ble_eq_true rfl) ?_
  intro p e s m args below meth c H ls hC hnm hR hl
  unfold fX3_termOver at hk
  obtain ⟨hob, hk⟩ := tm_th_is hk
  have hl : lv_has ls 3 [(0, .ref this), (1, .int (tw_I a1)), (2, .int (tw_I a2))] := hl
  have hL : tw_L G [] := fun q z => by cases z
  generalize hlc : ([] : List Loc) = locs at hL ⊢
  refine lv_iload_n hC.1 hC.2.1 dX3_termOver_0 rfl (lv_at hl 1 rfl) ?_
  refine lv_iload_n hC.1 hC.2.1 dX3_termOver_1 rfl (lv_at hl 2 rfl) ?_
  refine kX3_isInside hC hR hL hk ga1 ga2 mlX3_82 ⟨by decide, by decide⟩ hl.1 (Nat.le_of_ble_eq_true rfl) ⟨Nat.zero_le _, Nat.zero_le _⟩ dX3_termOver_2 (fun v1 H locs hR hL gv1 hk => ?_)
  refine tw_zeq (tgt := 19) hC hk gv1 dX3_termOver_5 (by decide) (fun _ hk => ?_) (fun _ hk => ?_)
  · refine lv_bipush (v := tw_I (-99)) hC.1 hC.2.1 dX3_termOver_19 (by decide) ?_
    cases hk
    exact tw_iret hC hR hL ((tw_rgL rfl)) rfl rfl dX3_termOver_21
  · refine lv_aload_n hC.1 hC.2.1 dX3_termOver_8 rfl (lv_at hl 0 rfl) ?_
    refine tw_getR hC hR hk flX3_15 dX3_termOver_9 (fun r2 hk => ?_)
    refine lv_iload_n hC.1 hC.2.1 dX3_termOver_12 rfl (lv_at hl 1 rfl) ?_
    refine tw_aald hC hR hk dX3_termOver_13 (fun r3 hk => ?_)
    refine lv_iload_n hC.1 hC.2.1 dX3_termOver_14 rfl (lv_at hl 2 rfl) ?_
    refine tw_iald hC hR hk dX3_termOver_15 (fun v4 gv4 hk => ?_)
    refine lv_goto (tgt := 21) hC.1 hC.2.1 dX3_termOver_16 (by decide) ?_
    cases hk
    exact tw_iret hC hR hL gv4 rfl rfl dX3_termOver_21
set_option maxRecDepth 100000 in
theorem kX3_termOver {l : Launch} {p : Program} {e : Env} {R : Room} {s : State} {m : MethodId} {args : Array Value} {below : List Frame} {meth : Method} {c : Code} {H : Heap} {locs : List Loc} {cells slots : Nat} {Q : State → Prop} {cc : ByteArray} {pc nL idx : Nat} {ls : Array Slot} {rest : List Value} {G : tw_G} {h : tm_H} {own : String} {ret : Option FieldType} {α : Type} {x : α} {sz : Nat} {this : Nat} {a1 : Int} {a2 : Int} (hC : tw_C G p s m args meth c own cc nL ret) (hR : tw_Rel G sz h H) (hL : tw_L G locs) {F : Int → Option α} (hk : (fX3_termOver this a1 a2 h).bind F = some x) (ga1 : tm_rg a1) (ga2 : tm_rg a2) (hl : tw_mL own idx yX3_termOver) (hRm : rmX3_termOver.frames + 1 ≤ R.frames ∧ 8 + (3 + 11) + rmX3_termOver.locals ≤ R.locals) (hsz : ls.size = nL) (hW : (rest.map fun v => v.category).sum ≤ 8) (hf : cells + 0 ≤ R.cells ∧ slots + 0 ≤ R.slots) (hdg : decode cc pc = .ok (.invokevirtual idx, 3)) (kk : ∀ (r : Int) (H1 : Heap) (locs1 : List Loc), tw_Rel G sz h H1 → tw_L G locs1 → tm_rg r → F r = some x → W p l e R s m args below meth c H1 locs1 (cells + 0) (slots + 0) Q (F0 m (pc + 3) ls (.int (tw_I r) :: rest))) : W p l e R s m args below meth c H locs cells slots Q (F0 m pc ls (.int (tw_I a2) :: .int (tw_I a1) :: .ref this :: rest)) := by
  obtain ⟨r, hr, hF⟩ := Option.bind_eq_some_iff.mp hk
  have ob : ∀ r, fX3_termOver this a1 a2 h = some r → tm_is h 3 this := fun r hr => by
    unfold fX3_termOver at hr
    exact (tm_th_is hr).1
  exact tw_backi (tw_runV hC hR (cX3_termOver_ok l G sz this a1 a2 ga1 ga2 h r hr) (n := 2) (As := [.int (tw_I a1), .int (tw_I a2)]) ⟨tw_in_TB 383 (by decide +kernel) rfl, tw_in_TB 17 (by decide +kernel) rfl, by decide +kernel⟩ (tw_in_TB 381 (by decide +kernel) rfl) (tw_in_TB 382 (by decide +kernel) rfl) hl ⟨rfl, rfl⟩ hRm (ob r hr) (T := TX3) (N := 9) rfl rfl hsz rfl hW hdg hf) hL (fun H1 locs1 a b g => kk r H1 locs1 a b g hF)
def rmX3_stepOver : Room := { frames := 1, cells := 0, slots := 0, locals := 21 }
set_option maxRecDepth 100000 in
set_option maxHeartbeats 4000000 in
theorem cX3_stepOver_ok (l : Launch) (G : tw_G) (sz : Nat) (this : Nat) (a1 : Int) (a2 : Int) (ga1 : tm_rg a1) (ga2 : tm_rg a2) (h : tm_H) (out : Int) (hk : fX3_stepOver this a1 a2 h = some out) : Met l yX3_stepOver (tw_WS yX3_stepOver cX3_stepOver 3 (some .int)) rmX3_stepOver (va_Pc [.ref this, .int (tw_I a1), .int (tw_I a2)] (tw_Pre G sz h)) (tw_Qi G sz out h) 0 0 (tw_F G) := by
  refine tw_met (by decide +kernel) (Nat.le_of_ble_eq_true rfl) ?_
  intro p e s m args below meth c H ls hC hnm hR hl
  unfold fX3_stepOver at hk
  obtain ⟨hob, hk⟩ := tm_th_is hk
  have hl : lv_has ls 3 [(0, .ref this), (1, .int (tw_I a1)), (2, .int (tw_I a2))] := hl
  have hL : tw_L G [] := fun q z => by cases z
  generalize hlc : ([] : List Loc) = locs at hL ⊢
  refine lv_iload_n hC.1 hC.2.1 dX3_stepOver_0 rfl (lv_at hl 1 rfl) ?_
  refine lv_iload_n hC.1 hC.2.1 dX3_stepOver_1 rfl (lv_at hl 2 rfl) ?_
  refine kX3_isInside hC hR hL hk ga1 ga2 mlX3_82 ⟨by decide, by decide⟩ hl.1 (Nat.le_of_ble_eq_true rfl) ⟨Nat.zero_le _, Nat.zero_le _⟩ dX3_stepOver_2 (fun v1 H locs hR hL gv1 hk => ?_)
  refine tw_zeq (tgt := 19) hC hk gv1 dX3_stepOver_5 (by decide) (fun _ hk => ?_) (fun _ hk => ?_)
  · refine lv_bipush (v := tw_I (-99)) hC.1 hC.2.1 dX3_stepOver_19 (by decide) ?_
    cases hk
    exact tw_iret hC hR hL ((tw_rgL rfl)) rfl rfl dX3_stepOver_21
  · refine lv_aload_n hC.1 hC.2.1 dX3_stepOver_8 rfl (lv_at hl 0 rfl) ?_
    refine tw_getR hC hR hk flX3_20 dX3_stepOver_9 (fun r2 hk => ?_)
    refine lv_iload_n hC.1 hC.2.1 dX3_stepOver_12 rfl (lv_at hl 1 rfl) ?_
    refine tw_aald hC hR hk dX3_stepOver_13 (fun r3 hk => ?_)
    refine lv_iload_n hC.1 hC.2.1 dX3_stepOver_14 rfl (lv_at hl 2 rfl) ?_
    refine tw_iald hC hR hk dX3_stepOver_15 (fun v4 gv4 hk => ?_)
    refine lv_goto (tgt := 21) hC.1 hC.2.1 dX3_stepOver_16 (by decide) ?_
    cases hk
    exact tw_iret hC hR hL gv4 rfl rfl dX3_stepOver_21
set_option maxRecDepth 100000 in
theorem kX3_stepOver {l : Launch} {p : Program} {e : Env} {R : Room} {s : State} {m : MethodId} {args : Array Value} {below : List Frame} {meth : Method} {c : Code} {H : Heap} {locs : List Loc} {cells slots : Nat} {Q : State → Prop} {cc : ByteArray} {pc nL idx : Nat} {ls : Array Slot} {rest : List Value} {G : tw_G} {h : tm_H} {own : String} {ret : Option FieldType} {α : Type} {x : α} {sz : Nat} {this : Nat} {a1 : Int} {a2 : Int} (hC : tw_C G p s m args meth c own cc nL ret) (hR : tw_Rel G sz h H) (hL : tw_L G locs) {F : Int → Option α} (hk : (fX3_stepOver this a1 a2 h).bind F = some x) (ga1 : tm_rg a1) (ga2 : tm_rg a2) (hl : tw_mL own idx yX3_stepOver) (hRm : rmX3_stepOver.frames + 1 ≤ R.frames ∧ 8 + (3 + 11) + rmX3_stepOver.locals ≤ R.locals) (hsz : ls.size = nL) (hW : (rest.map fun v => v.category).sum ≤ 8) (hf : cells + 0 ≤ R.cells ∧ slots + 0 ≤ R.slots) (hdg : decode cc pc = .ok (.invokevirtual idx, 3)) (kk : ∀ (r : Int) (H1 : Heap) (locs1 : List Loc), tw_Rel G sz h H1 → tw_L G locs1 → tm_rg r → F r = some x → W p l e R s m args below meth c H1 locs1 (cells + 0) (slots + 0) Q (F0 m (pc + 3) ls (.int (tw_I r) :: rest))) : W p l e R s m args below meth c H locs cells slots Q (F0 m pc ls (.int (tw_I a2) :: .int (tw_I a1) :: .ref this :: rest)) := by
  obtain ⟨r, hr, hF⟩ := Option.bind_eq_some_iff.mp hk
  have ob : ∀ r, fX3_stepOver this a1 a2 h = some r → tm_is h 3 this := fun r hr => by
    unfold fX3_stepOver at hr
    exact (tm_th_is hr).1
  exact tw_backi (tw_runV hC hR (cX3_stepOver_ok l G sz this a1 a2 ga1 ga2 h r hr) (n := 2) (As := [.int (tw_I a1), .int (tw_I a2)]) ⟨tw_in_TB 390 (by decide +kernel) rfl, tw_in_TB 17 (by decide +kernel) rfl, by decide +kernel⟩ (tw_in_TB 388 (by decide +kernel) rfl) (tw_in_TB 389 (by decide +kernel) rfl) hl ⟨rfl, rfl⟩ hRm (ob r hr) (T := TX3) (N := 9) rfl rfl hsz rfl hW hdg hf) hL (fun H1 locs1 a b g => kk r H1 locs1 a b g hF)
def rmX3_hasMark : Room := { frames := 0, cells := 0, slots := 0, locals := 0 }
set_option maxRecDepth 100000 in
set_option maxHeartbeats 4000000 in
theorem sX3_hasMark_S0 {l : Launch} {p : Program} {e : Env} {s : State} {m : MethodId} {args : Array Value} {below : List Frame} {meth : Method} {c : Code} (G : tw_G) (sz : Nat) (hC : tw_C G p s m args meth c RX3 cX3_hasMark 4 (some .boolean)) (this : Nat) (a1 : Int) (a2 : Int) (ga1 : tm_rg a1) (ga2 : tm_rg a2) (h : tm_H) : ∀ (k : Nat) (st : (Int) ⊕ (Int)) (out : Int), tm_wit (fX3_hasMark_S0 this a1 a2 h) k st = some out → match st with
    | .inl ((x3)) => ∀ (H : Heap) (locs : List Loc) (ls : Array Slot), tm_rg x3 → tw_Rel G sz h H → tw_L G locs → lv_has ls 4 [(0, .ref this), (1, .int (tw_I a1)), (2, .int (tw_I a2)), (3, .int (tw_I x3))] → W p l e rmX3_hasMark s m args below meth c H locs 0 0 (MQ below (tw_Qi G sz out h) args s 0 0 (tw_F G)) (F0 m 2 ls [])
    | .inr ((x3)) => ∀ (H : Heap) (locs : List Loc) (ls : Array Slot), tm_rg x3 → tw_Rel G sz h H → tw_L G locs → lv_has ls 4 [(0, .ref this), (1, .int (tw_I a1)), (2, .int (tw_I a2)), (3, .int (tw_I x3))] → W p l e rmX3_hasMark s m args below meth c H locs 0 0 (MQ below (tw_Qi G sz out h) args s 0 0 (tw_F G)) (F0 m 32 ls []) := by
  intro k
  induction k with
  | zero =>
    intro st out hk
    exact absurd hk (by unfold tm_wit; exact fun z => by cases z)
  | succ k ih =>
    intro st out hk
    obtain ⟨X, hk, hf⟩ := tm_wit_succ hk
    obtain x3 | x3 := st
    · intro H locs ls gx3 hR hL hl
      dsimp only [fX3_hasMark_S0] at hk
      refine lv_iload_n hC.1 hC.2.1 dX3_hasMark_2 rfl (lv_at hl 3 rfl) ?_
      refine lv_aload_n hC.1 hC.2.1 dX3_hasMark_3 rfl (lv_at hl 0 rfl) ?_
      refine tw_getI hC hR hk flX3_39 dX3_hasMark_4 (fun v1 gv1 hk => ?_)
      refine tw_cge (tgt := 38) hC hk gx3 gv1 dX3_hasMark_7 (by decide) (fun _ hk => ?_) (fun _ hk => ?_)
      · refine lv_aload_n hC.1 hC.2.1 dX3_hasMark_10 rfl (lv_at hl 0 rfl) ?_
        refine tw_getR hC hR hk flX3_30 dX3_hasMark_11 (fun r2 hk => ?_)
        refine lv_iload_n hC.1 hC.2.1 dX3_hasMark_14 rfl (lv_at hl 3 rfl) ?_
        refine tw_iald hC hR hk dX3_hasMark_15 (fun v3 gv3 hk => ?_)
        refine lv_iload_n hC.1 hC.2.1 dX3_hasMark_16 rfl (lv_at hl 1 rfl) ?_
        refine tw_cne (tgt := 32) hC hk gv3 ga1 dX3_hasMark_17 (by decide) (fun _ hk => ?_) (fun _ hk => ?_)
        · refine lv_aload_n hC.1 hC.2.1 dX3_hasMark_20 rfl (lv_at hl 0 rfl) ?_
          refine tw_getR hC hR hk flX3_33 dX3_hasMark_21 (fun r4 hk => ?_)
          refine lv_iload_n hC.1 hC.2.1 dX3_hasMark_24 rfl (lv_at hl 3 rfl) ?_
          refine tw_iald hC hR hk dX3_hasMark_25 (fun v5 gv5 hk => ?_)
          refine lv_iload_n hC.1 hC.2.1 dX3_hasMark_26 rfl (lv_at hl 2 rfl) ?_
          refine tw_cne (tgt := 32) hC hk gv5 ga2 dX3_hasMark_27 (by decide) (fun _ hk => ?_) (fun _ hk => ?_)
          · refine lv_iconst (v := tw_I 1) hC.1 hC.2.1 dX3_hasMark_30 rfl ?_
            cases hk
            cases hf
            exact tw_zret hC hR hL rfl rfl dX3_hasMark_31
          · cases hk
            exact ih _ out hf H locs _ gx3 hR hL (lv_sub hl [0, 1, 2, 3] rfl)
        · cases hk
          exact ih _ out hf H locs _ gx3 hR hL (lv_sub hl [0, 1, 2, 3] rfl)
      · refine lv_iconst (v := tw_I 0) hC.1 hC.2.1 dX3_hasMark_38 rfl ?_
        cases hk
        cases hf
        exact tw_zret hC hR hL rfl rfl dX3_hasMark_39
    · intro H locs ls gx3 hR hL hl
      dsimp only [fX3_hasMark_S0] at hk
      refine tw_iinc (lv' := [(3, .int (tw_I (tm_wr (x3 + 1)))), (0, .ref this), (1, .int (tw_I a1)), (2, .int (tw_I a2))]) hC dX3_hasMark_32 hl (k := 3) rfl (by decide) rfl (fun ls hl => ?_)
      refine lv_goto (tgt := 2) hC.1 hC.2.1 dX3_hasMark_35 (by decide) ?_
      cases hk
      exact ih _ out hf H locs _ ((tm_wr_rg _)) hR hL (lv_sub hl [1, 2, 3, 0] rfl)
theorem sX3_hasMark_L2 {l : Launch} {p : Program} {e : Env} {s : State} {m : MethodId} {args : Array Value} {below : List Frame} {meth : Method} {c : Code} (G : tw_G) (sz : Nat) (hC : tw_C G p s m args meth c RX3 cX3_hasMark 4 (some .boolean)) (this : Nat) (a1 : Int) (a2 : Int) (ga1 : tm_rg a1) (ga2 : tm_rg a2) (h : tm_H) (x3 : Int) (gx3 : tm_rg x3) (out : Int) (hk : fX3_hasMark_L2 this a1 a2 h x3 = some out) (H : Heap) (locs : List Loc) (ls : Array Slot) (hR : tw_Rel G sz h H) (hL : tw_L G locs) (hl : lv_has ls 4 [(0, .ref this), (1, .int (tw_I a1)), (2, .int (tw_I a2)), (3, .int (tw_I x3))]) : W p l e rmX3_hasMark s m args below meth c H locs 0 0 (MQ below (tw_Qi G sz out h) args s 0 0 (tw_F G)) (F0 m 2 ls []) := by
  obtain ⟨k, hk⟩ := tm_wl_iff.mp hk
  exact sX3_hasMark_S0 G sz hC this a1 a2 ga1 ga2 h k (.inl ((x3))) out hk H locs ls gx3 hR hL hl
theorem sX3_hasMark_L32 {l : Launch} {p : Program} {e : Env} {s : State} {m : MethodId} {args : Array Value} {below : List Frame} {meth : Method} {c : Code} (G : tw_G) (sz : Nat) (hC : tw_C G p s m args meth c RX3 cX3_hasMark 4 (some .boolean)) (this : Nat) (a1 : Int) (a2 : Int) (ga1 : tm_rg a1) (ga2 : tm_rg a2) (h : tm_H) (x3 : Int) (gx3 : tm_rg x3) (out : Int) (hk : fX3_hasMark_L32 this a1 a2 h x3 = some out) (H : Heap) (locs : List Loc) (ls : Array Slot) (hR : tw_Rel G sz h H) (hL : tw_L G locs) (hl : lv_has ls 4 [(0, .ref this), (1, .int (tw_I a1)), (2, .int (tw_I a2)), (3, .int (tw_I x3))]) : W p l e rmX3_hasMark s m args below meth c H locs 0 0 (MQ below (tw_Qi G sz out h) args s 0 0 (tw_F G)) (F0 m 32 ls []) := by
  obtain ⟨k, hk⟩ := tm_wl_iff.mp hk
  exact sX3_hasMark_S0 G sz hC this a1 a2 ga1 ga2 h k (.inr ((x3))) out hk H locs ls gx3 hR hL hl
set_option maxRecDepth 100000 in
set_option maxHeartbeats 4000000 in
theorem cX3_hasMark_ok (l : Launch) (G : tw_G) (sz : Nat) (this : Nat) (a1 : Int) (a2 : Int) (ga1 : tm_rg a1) (ga2 : tm_rg a2) (h : tm_H) (out : Int) (hk : fX3_hasMark this a1 a2 h = some out) : Met l yX3_hasMark (tw_WS yX3_hasMark cX3_hasMark 4 (some .boolean)) rmX3_hasMark (va_Pc [.ref this, .int (tw_I a1), .int (tw_I a2)] (tw_Pre G sz h)) (tw_Qi G sz out h) 0 0 (tw_F G) := by
  refine tw_met (by decide +kernel) (Nat.le_of_ble_eq_true rfl) ?_
  intro p e s m args below meth c H ls hC hnm hR hl
  unfold fX3_hasMark at hk
  obtain ⟨hob, hk⟩ := tm_th_is hk
  have hl : lv_has ls 4 [(0, .ref this), (1, .int (tw_I a1)), (2, .int (tw_I a2))] := hl
  have hL : tw_L G [] := fun q z => by cases z
  generalize hlc : ([] : List Loc) = locs at hL ⊢
  refine lv_iconst (v := tw_I 0) hC.1 hC.2.1 dX3_hasMark_0 rfl ?_
  refine lv_istore_n (lv' := [(3, .int (tw_I 0)), (0, .ref this), (1, .int (tw_I a1)), (2, .int (tw_I a2))]) hC.1 hC.2.1 dX3_hasMark_1 rfl hl (by decide) rfl (fun ls hl => ?_)
  exact sX3_hasMark_L2 G sz hC this a1 a2 ga1 ga2 h 0 ((tw_rgL rfl)) out hk H locs _ hR hL (lv_sub hl [1, 2, 3, 0] rfl)
set_option maxRecDepth 100000 in
theorem kX3_hasMark {l : Launch} {p : Program} {e : Env} {R : Room} {s : State} {m : MethodId} {args : Array Value} {below : List Frame} {meth : Method} {c : Code} {H : Heap} {locs : List Loc} {cells slots : Nat} {Q : State → Prop} {cc : ByteArray} {pc nL idx : Nat} {ls : Array Slot} {rest : List Value} {G : tw_G} {h : tm_H} {own : String} {ret : Option FieldType} {α : Type} {x : α} {sz : Nat} {this : Nat} {a1 : Int} {a2 : Int} (hC : tw_C G p s m args meth c own cc nL ret) (hR : tw_Rel G sz h H) (hL : tw_L G locs) {F : Int → Option α} (hk : (fX3_hasMark this a1 a2 h).bind F = some x) (ga1 : tm_rg a1) (ga2 : tm_rg a2) (hl : tw_mL own idx yX3_hasMark) (hRm : rmX3_hasMark.frames + 1 ≤ R.frames ∧ 8 + (4 + 11) + rmX3_hasMark.locals ≤ R.locals) (hsz : ls.size = nL) (hW : (rest.map fun v => v.category).sum ≤ 8) (hf : cells + 0 ≤ R.cells ∧ slots + 0 ≤ R.slots) (hdg : decode cc pc = .ok (.invokevirtual idx, 3)) (kk : ∀ (r : Int) (H1 : Heap) (locs1 : List Loc), tw_Rel G sz h H1 → tw_L G locs1 → tm_rg r → F r = some x → W p l e R s m args below meth c H1 locs1 (cells + 0) (slots + 0) Q (F0 m (pc + 3) ls (.int (tw_I r) :: rest))) : W p l e R s m args below meth c H locs cells slots Q (F0 m pc ls (.int (tw_I a2) :: .int (tw_I a1) :: .ref this :: rest)) := by
  obtain ⟨r, hr, hF⟩ := Option.bind_eq_some_iff.mp hk
  have ob : ∀ r, fX3_hasMark this a1 a2 h = some r → tm_is h 3 this := fun r hr => by
    unfold fX3_hasMark at hr
    exact (tm_th_is hr).1
  exact tw_backi (tw_runV hC hR (cX3_hasMark_ok l G sz this a1 a2 ga1 ga2 h r hr) (n := 2) (As := [.int (tw_I a1), .int (tw_I a2)]) ⟨tw_in_TB 394 (by decide +kernel) rfl, tw_in_TB 17 (by decide +kernel) rfl, by decide +kernel⟩ (tw_in_TB 392 (by decide +kernel) rfl) (tw_in_TB 393 (by decide +kernel) rfl) hl ⟨rfl, rfl⟩ hRm (ob r hr) (T := TX3) (N := 9) rfl rfl hsz rfl hW hdg hf) hL (fun H1 locs1 a b g => kk r H1 locs1 a b g hF)
def rmX3_timesRead : Room := { frames := 0, cells := 0, slots := 0, locals := 0 }
set_option maxRecDepth 100000 in
set_option maxHeartbeats 4000000 in
theorem cX3_timesRead_ok (l : Launch) (G : tw_G) (sz : Nat) (this : Nat) (a1 : Int) (ga1 : tm_rg a1) (h : tm_H) (out : Int) (hk : fX3_timesRead this a1 h = some out) : Met l yX3_timesRead (tw_WS yX3_timesRead cX3_timesRead 2 (some .int)) rmX3_timesRead (va_Pc [.ref this, .int (tw_I a1)] (tw_Pre G sz h)) (tw_Qi G sz out h) 0 0 (tw_F G) := by
  refine tw_met (by decide +kernel) (Nat.le_of_ble_eq_true rfl) ?_
  intro p e s m args below meth c H ls hC hnm hR hl
  unfold fX3_timesRead at hk
  obtain ⟨hob, hk⟩ := tm_th_is hk
  have hl : lv_has ls 2 [(0, .ref this), (1, .int (tw_I a1))] := hl
  have hL : tw_L G [] := fun q z => by cases z
  generalize hlc : ([] : List Loc) = locs at hL ⊢
  refine lv_iload_n hC.1 hC.2.1 dX3_timesRead_0 rfl (lv_at hl 1 rfl) ?_
  refine tw_zlt (tgt := 19) hC hk ga1 dX3_timesRead_1 (by decide) (fun _ hk => ?_) (fun _ hk => ?_)
  · refine lv_iconst (v := tw_I 0) hC.1 hC.2.1 dX3_timesRead_19 rfl ?_
    cases hk
    exact tw_iret hC hR hL ((tw_rgL rfl)) rfl rfl dX3_timesRead_20
  · refine lv_iload_n hC.1 hC.2.1 dX3_timesRead_4 rfl (lv_at hl 1 rfl) ?_
    refine lv_bipush (v := tw_I 13) hC.1 hC.2.1 dX3_timesRead_5 (by decide) ?_
    refine tw_cge (tgt := 19) hC hk ga1 ((tw_rgL rfl)) dX3_timesRead_7 (by decide) (fun _ hk => ?_) (fun _ hk => ?_)
    · refine lv_aload_n hC.1 hC.2.1 dX3_timesRead_10 rfl (lv_at hl 0 rfl) ?_
      refine tw_getR hC hR hk flX3_26 dX3_timesRead_11 (fun r1 hk => ?_)
      refine lv_iload_n hC.1 hC.2.1 dX3_timesRead_14 rfl (lv_at hl 1 rfl) ?_
      refine tw_iald hC hR hk dX3_timesRead_15 (fun v2 gv2 hk => ?_)
      refine lv_goto (tgt := 20) hC.1 hC.2.1 dX3_timesRead_16 (by decide) ?_
      cases hk
      exact tw_iret hC hR hL gv2 rfl rfl dX3_timesRead_20
    · refine lv_iconst (v := tw_I 0) hC.1 hC.2.1 dX3_timesRead_19 rfl ?_
      cases hk
      exact tw_iret hC hR hL ((tw_rgL rfl)) rfl rfl dX3_timesRead_20
set_option maxRecDepth 100000 in
theorem kX3_timesRead {l : Launch} {p : Program} {e : Env} {R : Room} {s : State} {m : MethodId} {args : Array Value} {below : List Frame} {meth : Method} {c : Code} {H : Heap} {locs : List Loc} {cells slots : Nat} {Q : State → Prop} {cc : ByteArray} {pc nL idx : Nat} {ls : Array Slot} {rest : List Value} {G : tw_G} {h : tm_H} {own : String} {ret : Option FieldType} {α : Type} {x : α} {sz : Nat} {this : Nat} {a1 : Int} (hC : tw_C G p s m args meth c own cc nL ret) (hR : tw_Rel G sz h H) (hL : tw_L G locs) {F : Int → Option α} (hk : (fX3_timesRead this a1 h).bind F = some x) (ga1 : tm_rg a1) (hl : tw_mL own idx yX3_timesRead) (hRm : rmX3_timesRead.frames + 1 ≤ R.frames ∧ 8 + (2 + 11) + rmX3_timesRead.locals ≤ R.locals) (hsz : ls.size = nL) (hW : (rest.map fun v => v.category).sum ≤ 8) (hf : cells + 0 ≤ R.cells ∧ slots + 0 ≤ R.slots) (hdg : decode cc pc = .ok (.invokevirtual idx, 3)) (kk : ∀ (r : Int) (H1 : Heap) (locs1 : List Loc), tw_Rel G sz h H1 → tw_L G locs1 → tm_rg r → F r = some x → W p l e R s m args below meth c H1 locs1 (cells + 0) (slots + 0) Q (F0 m (pc + 3) ls (.int (tw_I r) :: rest))) : W p l e R s m args below meth c H locs cells slots Q (F0 m pc ls (.int (tw_I a1) :: .ref this :: rest)) := by
  obtain ⟨r, hr, hF⟩ := Option.bind_eq_some_iff.mp hk
  have ob : ∀ r, fX3_timesRead this a1 h = some r → tm_is h 3 this := fun r hr => by
    unfold fX3_timesRead at hr
    exact (tm_th_is hr).1
  exact tw_backi (tw_runV hC hR (cX3_timesRead_ok l G sz this a1 ga1 h r hr) (n := 1) (As := [.int (tw_I a1)]) ⟨tw_in_TB 406 (by decide +kernel) rfl, tw_in_TB 17 (by decide +kernel) rfl, by decide +kernel⟩ (tw_in_TB 404 (by decide +kernel) rfl) (tw_in_TB 405 (by decide +kernel) rfl) hl ⟨rfl, rfl⟩ hRm (ob r hr) (T := TX3) (N := 9) rfl rfl hsz rfl hW hdg hf) hL (fun H1 locs1 a b g => kk r H1 locs1 a b g hF)
def rmX3_firstPlace : Room := { frames := 0, cells := 0, slots := 0, locals := 0 }
set_option maxRecDepth 100000 in
set_option maxHeartbeats 4000000 in
theorem cX3_firstPlace_ok (l : Launch) (G : tw_G) (sz : Nat) (this : Nat) (a1 : Int) (a2 : Int) (ga1 : tm_rg a1) (ga2 : tm_rg a2) (h : tm_H) (out : Int) (hk : fX3_firstPlace this a1 a2 h = some out) : Met l yX3_firstPlace (tw_WS yX3_firstPlace cX3_firstPlace 3 (some .int)) rmX3_firstPlace (va_Pc [.ref this, .int (tw_I a1), .int (tw_I a2)] (tw_Pre G sz h)) (tw_Qi G sz out h) 0 0 (tw_F G) := by
  refine tw_met (by decide +kernel) (Nat.le_of_ble_eq_true rfl) ?_
  intro p e s m args below meth c H ls hC hnm hR hl
  unfold fX3_firstPlace at hk
  obtain ⟨hob, hk⟩ := tm_th_is hk
  have hl : lv_has ls 3 [(0, .ref this), (1, .int (tw_I a1)), (2, .int (tw_I a2))] := hl
  have hL : tw_L G [] := fun q z => by cases z
  generalize hlc : ([] : List Loc) = locs at hL ⊢
  refine lv_iload_n hC.1 hC.2.1 dX3_firstPlace_0 rfl (lv_at hl 1 rfl) ?_
  refine tw_zlt (tgt := 20) hC hk ga1 dX3_firstPlace_1 (by decide) (fun _ hk => ?_) (fun _ hk => ?_)
  · refine lv_bipush (v := tw_I (-99)) hC.1 hC.2.1 dX3_firstPlace_20 (by decide) ?_
    cases hk
    exact tw_iret hC hR hL ((tw_rgL rfl)) rfl rfl dX3_firstPlace_22
  · refine lv_iload_n hC.1 hC.2.1 dX3_firstPlace_4 rfl (lv_at hl 1 rfl) ?_
    refine lv_bipush (v := tw_I 13) hC.1 hC.2.1 dX3_firstPlace_5 (by decide) ?_
    refine tw_cge (tgt := 20) hC hk ga1 ((tw_rgL rfl)) dX3_firstPlace_7 (by decide) (fun _ hk => ?_) (fun _ hk => ?_)
    · refine lv_iload_n hC.1 hC.2.1 dX3_firstPlace_10 rfl (lv_at hl 2 rfl) ?_
      refine tw_zlt (tgt := 20) hC hk ga2 dX3_firstPlace_11 (by decide) (fun _ hk => ?_) (fun _ hk => ?_)
      · refine lv_bipush (v := tw_I (-99)) hC.1 hC.2.1 dX3_firstPlace_20 (by decide) ?_
        cases hk
        exact tw_iret hC hR hL ((tw_rgL rfl)) rfl rfl dX3_firstPlace_22
      · refine lv_iload_n hC.1 hC.2.1 dX3_firstPlace_14 rfl (lv_at hl 2 rfl) ?_
        refine lv_bipush (v := tw_I 6) hC.1 hC.2.1 dX3_firstPlace_15 (by decide) ?_
        refine tw_clt (tgt := 23) hC hk ga2 ((tw_rgL rfl)) dX3_firstPlace_17 (by decide) (fun _ hk => ?_) (fun _ hk => ?_)
        · refine lv_aload_n hC.1 hC.2.1 dX3_firstPlace_23 rfl (lv_at hl 0 rfl) ?_
          refine tw_getR hC hR hk flX3_23 dX3_firstPlace_24 (fun r1 hk => ?_)
          refine lv_iload_n hC.1 hC.2.1 dX3_firstPlace_27 rfl (lv_at hl 1 rfl) ?_
          refine tw_aald hC hR hk dX3_firstPlace_28 (fun r2 hk => ?_)
          refine lv_iload_n hC.1 hC.2.1 dX3_firstPlace_29 rfl (lv_at hl 2 rfl) ?_
          refine tw_iald hC hR hk dX3_firstPlace_30 (fun v3 gv3 hk => ?_)
          cases hk
          exact tw_iret hC hR hL gv3 rfl rfl dX3_firstPlace_31
        · refine lv_bipush (v := tw_I (-99)) hC.1 hC.2.1 dX3_firstPlace_20 (by decide) ?_
          cases hk
          exact tw_iret hC hR hL ((tw_rgL rfl)) rfl rfl dX3_firstPlace_22
    · refine lv_bipush (v := tw_I (-99)) hC.1 hC.2.1 dX3_firstPlace_20 (by decide) ?_
      cases hk
      exact tw_iret hC hR hL ((tw_rgL rfl)) rfl rfl dX3_firstPlace_22
set_option maxRecDepth 100000 in
theorem kX3_firstPlace {l : Launch} {p : Program} {e : Env} {R : Room} {s : State} {m : MethodId} {args : Array Value} {below : List Frame} {meth : Method} {c : Code} {H : Heap} {locs : List Loc} {cells slots : Nat} {Q : State → Prop} {cc : ByteArray} {pc nL idx : Nat} {ls : Array Slot} {rest : List Value} {G : tw_G} {h : tm_H} {own : String} {ret : Option FieldType} {α : Type} {x : α} {sz : Nat} {this : Nat} {a1 : Int} {a2 : Int} (hC : tw_C G p s m args meth c own cc nL ret) (hR : tw_Rel G sz h H) (hL : tw_L G locs) {F : Int → Option α} (hk : (fX3_firstPlace this a1 a2 h).bind F = some x) (ga1 : tm_rg a1) (ga2 : tm_rg a2) (hl : tw_mL own idx yX3_firstPlace) (hRm : rmX3_firstPlace.frames + 1 ≤ R.frames ∧ 8 + (3 + 11) + rmX3_firstPlace.locals ≤ R.locals) (hsz : ls.size = nL) (hW : (rest.map fun v => v.category).sum ≤ 8) (hf : cells + 0 ≤ R.cells ∧ slots + 0 ≤ R.slots) (hdg : decode cc pc = .ok (.invokevirtual idx, 3)) (kk : ∀ (r : Int) (H1 : Heap) (locs1 : List Loc), tw_Rel G sz h H1 → tw_L G locs1 → tm_rg r → F r = some x → W p l e R s m args below meth c H1 locs1 (cells + 0) (slots + 0) Q (F0 m (pc + 3) ls (.int (tw_I r) :: rest))) : W p l e R s m args below meth c H locs cells slots Q (F0 m pc ls (.int (tw_I a2) :: .int (tw_I a1) :: .ref this :: rest)) := by
  obtain ⟨r, hr, hF⟩ := Option.bind_eq_some_iff.mp hk
  have ob : ∀ r, fX3_firstPlace this a1 a2 h = some r → tm_is h 3 this := fun r hr => by
    unfold fX3_firstPlace at hr
    exact (tm_th_is hr).1
  exact tw_backi (tw_runV hC hR (cX3_firstPlace_ok l G sz this a1 a2 ga1 ga2 h r hr) (n := 2) (As := [.int (tw_I a1), .int (tw_I a2)]) ⟨tw_in_TB 586 (by decide +kernel) rfl, tw_in_TB 17 (by decide +kernel) rfl, by decide +kernel⟩ (tw_in_TB 584 (by decide +kernel) rfl) (tw_in_TB 585 (by decide +kernel) rfl) hl ⟨rfl, rfl⟩ hRm (ob r hr) (T := TX3) (N := 9) rfl rfl hsz rfl hW hdg hf) hL (fun H1 locs1 a b g => kk r H1 locs1 a b g hF)
def rmX3_marksOf : Room := { frames := 0, cells := 0, slots := 0, locals := 0 }
set_option maxRecDepth 100000 in
set_option maxHeartbeats 4000000 in
theorem sX3_marksOf_S0 {l : Launch} {p : Program} {e : Env} {s : State} {m : MethodId} {args : Array Value} {below : List Frame} {meth : Method} {c : Code} (G : tw_G) (sz : Nat) (hC : tw_C G p s m args meth c RX3 cX3_marksOf 4 (some .int)) (this : Nat) (a1 : Int) (ga1 : tm_rg a1) (h : tm_H) : ∀ (k : Nat) (st : (Int × Int) ⊕ (Int × Int)) (out : Int), tm_wit (fX3_marksOf_S0 this a1 h) k st = some out → match st with
    | .inl ((x2, x3)) => ∀ (H : Heap) (locs : List Loc) (ls : Array Slot), tm_rg x2 → tm_rg x3 → tw_Rel G sz h H → tw_L G locs → lv_has ls 4 [(0, .ref this), (1, .int (tw_I a1)), (2, .int (tw_I x2)), (3, .int (tw_I x3))] → W p l e rmX3_marksOf s m args below meth c H locs 0 0 (MQ below (tw_Qi G sz out h) args s 0 0 (tw_F G)) (F0 m 4 ls [])
    | .inr ((x2, x3)) => ∀ (H : Heap) (locs : List Loc) (ls : Array Slot), tm_rg x2 → tm_rg x3 → tw_Rel G sz h H → tw_L G locs → lv_has ls 4 [(0, .ref this), (1, .int (tw_I a1)), (2, .int (tw_I x2)), (3, .int (tw_I x3))] → W p l e rmX3_marksOf s m args below meth c H locs 0 0 (MQ below (tw_Qi G sz out h) args s 0 0 (tw_F G)) (F0 m 25 ls []) := by
  intro k
  induction k with
  | zero =>
    intro st out hk
    exact absurd hk (by unfold tm_wit; exact fun z => by cases z)
  | succ k ih =>
    intro st out hk
    obtain ⟨X, hk, hf⟩ := tm_wit_succ hk
    obtain ⟨x2, x3⟩ | ⟨x2, x3⟩ := st
    · intro H locs ls gx2 gx3 hR hL hl
      dsimp only [fX3_marksOf_S0] at hk
      refine lv_iload_n hC.1 hC.2.1 dX3_marksOf_4 rfl (lv_at hl 3 rfl) ?_
      refine lv_aload_n hC.1 hC.2.1 dX3_marksOf_5 rfl (lv_at hl 0 rfl) ?_
      refine tw_getI hC hR hk flX3_39 dX3_marksOf_6 (fun v1 gv1 hk => ?_)
      refine tw_cge (tgt := 31) hC hk gx3 gv1 dX3_marksOf_9 (by decide) (fun _ hk => ?_) (fun _ hk => ?_)
      · refine lv_aload_n hC.1 hC.2.1 dX3_marksOf_12 rfl (lv_at hl 0 rfl) ?_
        refine tw_getR hC hR hk flX3_36 dX3_marksOf_13 (fun r2 hk => ?_)
        refine lv_iload_n hC.1 hC.2.1 dX3_marksOf_16 rfl (lv_at hl 3 rfl) ?_
        refine tw_iald hC hR hk dX3_marksOf_17 (fun v3 gv3 hk => ?_)
        refine lv_iload_n hC.1 hC.2.1 dX3_marksOf_18 rfl (lv_at hl 1 rfl) ?_
        refine tw_cne (tgt := 25) hC hk gv3 ga1 dX3_marksOf_19 (by decide) (fun _ hk => ?_) (fun _ hk => ?_)
        · refine tw_iinc (lv' := [(2, .int (tw_I (tm_wr (x2 + 1)))), (0, .ref this), (1, .int (tw_I a1)), (3, .int (tw_I x3))]) hC dX3_marksOf_22 hl (k := 2) rfl (by decide) rfl (fun ls hl => ?_)
          cases hk
          exact ih _ out hf H locs _ ((tm_wr_rg _)) gx3 hR hL (lv_sub hl [1, 2, 0, 3] rfl)
        · cases hk
          exact ih _ out hf H locs _ gx2 gx3 hR hL (lv_sub hl [0, 1, 2, 3] rfl)
      · refine lv_iload_n hC.1 hC.2.1 dX3_marksOf_31 rfl (lv_at hl 2 rfl) ?_
        cases hk
        cases hf
        exact tw_iret hC hR hL gx2 rfl rfl dX3_marksOf_32
    · intro H locs ls gx2 gx3 hR hL hl
      dsimp only [fX3_marksOf_S0] at hk
      refine tw_iinc (lv' := [(3, .int (tw_I (tm_wr (x3 + 1)))), (0, .ref this), (1, .int (tw_I a1)), (2, .int (tw_I x2))]) hC dX3_marksOf_25 hl (k := 3) rfl (by decide) rfl (fun ls hl => ?_)
      refine lv_goto (tgt := 4) hC.1 hC.2.1 dX3_marksOf_28 (by decide) ?_
      cases hk
      exact ih _ out hf H locs _ gx2 ((tm_wr_rg _)) hR hL (lv_sub hl [1, 2, 3, 0] rfl)
theorem sX3_marksOf_L4 {l : Launch} {p : Program} {e : Env} {s : State} {m : MethodId} {args : Array Value} {below : List Frame} {meth : Method} {c : Code} (G : tw_G) (sz : Nat) (hC : tw_C G p s m args meth c RX3 cX3_marksOf 4 (some .int)) (this : Nat) (a1 : Int) (ga1 : tm_rg a1) (h : tm_H) (x2 : Int) (x3 : Int) (gx2 : tm_rg x2) (gx3 : tm_rg x3) (out : Int) (hk : fX3_marksOf_L4 this a1 h x2 x3 = some out) (H : Heap) (locs : List Loc) (ls : Array Slot) (hR : tw_Rel G sz h H) (hL : tw_L G locs) (hl : lv_has ls 4 [(0, .ref this), (1, .int (tw_I a1)), (2, .int (tw_I x2)), (3, .int (tw_I x3))]) : W p l e rmX3_marksOf s m args below meth c H locs 0 0 (MQ below (tw_Qi G sz out h) args s 0 0 (tw_F G)) (F0 m 4 ls []) := by
  obtain ⟨k, hk⟩ := tm_wl_iff.mp hk
  exact sX3_marksOf_S0 G sz hC this a1 ga1 h k (.inl ((x2, x3))) out hk H locs ls gx2 gx3 hR hL hl
theorem sX3_marksOf_L25 {l : Launch} {p : Program} {e : Env} {s : State} {m : MethodId} {args : Array Value} {below : List Frame} {meth : Method} {c : Code} (G : tw_G) (sz : Nat) (hC : tw_C G p s m args meth c RX3 cX3_marksOf 4 (some .int)) (this : Nat) (a1 : Int) (ga1 : tm_rg a1) (h : tm_H) (x2 : Int) (x3 : Int) (gx2 : tm_rg x2) (gx3 : tm_rg x3) (out : Int) (hk : fX3_marksOf_L25 this a1 h x2 x3 = some out) (H : Heap) (locs : List Loc) (ls : Array Slot) (hR : tw_Rel G sz h H) (hL : tw_L G locs) (hl : lv_has ls 4 [(0, .ref this), (1, .int (tw_I a1)), (2, .int (tw_I x2)), (3, .int (tw_I x3))]) : W p l e rmX3_marksOf s m args below meth c H locs 0 0 (MQ below (tw_Qi G sz out h) args s 0 0 (tw_F G)) (F0 m 25 ls []) := by
  obtain ⟨k, hk⟩ := tm_wl_iff.mp hk
  exact sX3_marksOf_S0 G sz hC this a1 ga1 h k (.inr ((x2, x3))) out hk H locs ls gx2 gx3 hR hL hl
set_option maxRecDepth 100000 in
set_option maxHeartbeats 4000000 in
theorem cX3_marksOf_ok (l : Launch) (G : tw_G) (sz : Nat) (this : Nat) (a1 : Int) (ga1 : tm_rg a1) (h : tm_H) (out : Int) (hk : fX3_marksOf this a1 h = some out) : Met l yX3_marksOf (tw_WS yX3_marksOf cX3_marksOf 4 (some .int)) rmX3_marksOf (va_Pc [.ref this, .int (tw_I a1)] (tw_Pre G sz h)) (tw_Qi G sz out h) 0 0 (tw_F G) := by
  refine tw_met (by decide +kernel) (Nat.le_of_ble_eq_true rfl) ?_
  intro p e s m args below meth c H ls hC hnm hR hl
  unfold fX3_marksOf at hk
  obtain ⟨hob, hk⟩ := tm_th_is hk
  have hl : lv_has ls 4 [(0, .ref this), (1, .int (tw_I a1))] := hl
  have hL : tw_L G [] := fun q z => by cases z
  generalize hlc : ([] : List Loc) = locs at hL ⊢
  refine lv_iconst (v := tw_I 0) hC.1 hC.2.1 dX3_marksOf_0 rfl ?_
  refine lv_istore_n (lv' := [(2, .int (tw_I 0)), (0, .ref this), (1, .int (tw_I a1))]) hC.1 hC.2.1 dX3_marksOf_1 rfl hl (by decide) rfl (fun ls hl => ?_)
  refine lv_iconst (v := tw_I 0) hC.1 hC.2.1 dX3_marksOf_2 rfl ?_
  refine lv_istore_n (lv' := [(3, .int (tw_I 0)), (2, .int (tw_I 0)), (0, .ref this), (1, .int (tw_I a1))]) hC.1 hC.2.1 dX3_marksOf_3 rfl hl (by decide) rfl (fun ls hl => ?_)
  exact sX3_marksOf_L4 G sz hC this a1 ga1 h 0 0 ((tw_rgL rfl)) ((tw_rgL rfl)) out hk H locs _ hR hL (lv_sub hl [2, 3, 1, 0] rfl)
set_option maxRecDepth 100000 in
theorem kX3_marksOf {l : Launch} {p : Program} {e : Env} {R : Room} {s : State} {m : MethodId} {args : Array Value} {below : List Frame} {meth : Method} {c : Code} {H : Heap} {locs : List Loc} {cells slots : Nat} {Q : State → Prop} {cc : ByteArray} {pc nL idx : Nat} {ls : Array Slot} {rest : List Value} {G : tw_G} {h : tm_H} {own : String} {ret : Option FieldType} {α : Type} {x : α} {sz : Nat} {this : Nat} {a1 : Int} (hC : tw_C G p s m args meth c own cc nL ret) (hR : tw_Rel G sz h H) (hL : tw_L G locs) {F : Int → Option α} (hk : (fX3_marksOf this a1 h).bind F = some x) (ga1 : tm_rg a1) (hl : tw_mL own idx yX3_marksOf) (hRm : rmX3_marksOf.frames + 1 ≤ R.frames ∧ 8 + (4 + 11) + rmX3_marksOf.locals ≤ R.locals) (hsz : ls.size = nL) (hW : (rest.map fun v => v.category).sum ≤ 8) (hf : cells + 0 ≤ R.cells ∧ slots + 0 ≤ R.slots) (hdg : decode cc pc = .ok (.invokevirtual idx, 3)) (kk : ∀ (r : Int) (H1 : Heap) (locs1 : List Loc), tw_Rel G sz h H1 → tw_L G locs1 → tm_rg r → F r = some x → W p l e R s m args below meth c H1 locs1 (cells + 0) (slots + 0) Q (F0 m (pc + 3) ls (.int (tw_I r) :: rest))) : W p l e R s m args below meth c H locs cells slots Q (F0 m pc ls (.int (tw_I a1) :: .ref this :: rest)) := by
  obtain ⟨r, hr, hF⟩ := Option.bind_eq_some_iff.mp hk
  have ob : ∀ r, fX3_marksOf this a1 h = some r → tm_is h 3 this := fun r hr => by
    unfold fX3_marksOf at hr
    exact (tm_th_is hr).1
  exact tw_backi (tw_runV hC hR (cX3_marksOf_ok l G sz this a1 ga1 h r hr) (n := 1) (As := [.int (tw_I a1)]) ⟨tw_in_TB 414 (by decide +kernel) rfl, tw_in_TB 17 (by decide +kernel) rfl, by decide +kernel⟩ (tw_in_TB 412 (by decide +kernel) rfl) (tw_in_TB 413 (by decide +kernel) rfl) hl ⟨rfl, rfl⟩ hRm (ob r hr) (T := TX3) (N := 9) rfl rfl hsz rfl hW hdg hf) hL (fun H1 locs1 a b g => kk r H1 locs1 a b g hF)
def rmX3_markPart : Room := { frames := 0, cells := 0, slots := 0, locals := 0 }
set_option maxRecDepth 100000 in
set_option maxHeartbeats 4000000 in
theorem cX3_markPart_ok (l : Launch) (G : tw_G) (sz : Nat) (this : Nat) (a1 : Int) (a2 : Int) (ga1 : tm_rg a1) (ga2 : tm_rg a2) (h : tm_H) (out : Int) (hk : fX3_markPart this a1 a2 h = some out) : Met l yX3_markPart (tw_WS yX3_markPart cX3_markPart 3 (some .int)) rmX3_markPart (va_Pc [.ref this, .int (tw_I a1), .int (tw_I a2)] (tw_Pre G sz h)) (tw_Qi G sz out h) 0 0 (tw_F G) := by
  refine tw_met (by decide +kernel) (Nat.le_of_ble_eq_true rfl) ?_
  intro p e s m args below meth c H ls hC hnm hR hl
  unfold fX3_markPart at hk
  obtain ⟨hob, hk⟩ := tm_th_is hk
  have hl : lv_has ls 3 [(0, .ref this), (1, .int (tw_I a1)), (2, .int (tw_I a2))] := hl
  have hL : tw_L G [] := fun q z => by cases z
  generalize hlc : ([] : List Loc) = locs at hL ⊢
  refine lv_iload_n hC.1 hC.2.1 dX3_markPart_0 rfl (lv_at hl 1 rfl) ?_
  refine tw_zlt (tgt := 12) hC hk ga1 dX3_markPart_1 (by decide) (fun _ hk => ?_) (fun _ hk => ?_)
  · refine lv_bipush (v := tw_I (-99)) hC.1 hC.2.1 dX3_markPart_12 (by decide) ?_
    cases hk
    exact tw_iret hC hR hL ((tw_rgL rfl)) rfl rfl dX3_markPart_14
  · refine lv_iload_n hC.1 hC.2.1 dX3_markPart_4 rfl (lv_at hl 1 rfl) ?_
    refine lv_aload_n hC.1 hC.2.1 dX3_markPart_5 rfl (lv_at hl 0 rfl) ?_
    refine tw_getI hC hR hk flX3_39 dX3_markPart_6 (fun v1 gv1 hk => ?_)
    refine tw_clt (tgt := 15) hC hk ga1 gv1 dX3_markPart_9 (by decide) (fun _ hk => ?_) (fun _ hk => ?_)
    · refine lv_iload_n hC.1 hC.2.1 dX3_markPart_15 rfl (lv_at hl 2 rfl) ?_
      by_cases q4 : a2 = 0
      · rw [if_pos q4] at hk
        refine tw_tsIn (tgt := 44) hC 0 q4 (tw_rgL rfl) dX3_markPart_16 (by decide) (by decide) rfl (by decide) ?_
        refine lv_aload_n hC.1 hC.2.1 dX3_markPart_44 rfl (lv_at hl 0 rfl) ?_
        refine tw_getR hC hR hk flX3_30 dX3_markPart_45 (fun r2 hk => ?_)
        refine lv_iload_n hC.1 hC.2.1 dX3_markPart_48 rfl (lv_at hl 1 rfl) ?_
        refine tw_iald hC hR hk dX3_markPart_49 (fun v3 gv3 hk => ?_)
        cases hk
        exact tw_iret hC hR hL gv3 rfl rfl dX3_markPart_50
      · rw [if_neg q4] at hk
        by_cases q7 : a2 = 1
        · rw [if_pos q7] at hk
          refine tw_tsIn (tgt := 51) hC 1 q7 (tw_rgL rfl) dX3_markPart_16 (by decide) (by decide) rfl (by decide) ?_
          refine lv_aload_n hC.1 hC.2.1 dX3_markPart_51 rfl (lv_at hl 0 rfl) ?_
          refine tw_getR hC hR hk flX3_33 dX3_markPart_52 (fun r5 hk => ?_)
          refine lv_iload_n hC.1 hC.2.1 dX3_markPart_55 rfl (lv_at hl 1 rfl) ?_
          refine tw_iald hC hR hk dX3_markPart_56 (fun v6 gv6 hk => ?_)
          cases hk
          exact tw_iret hC hR hL gv6 rfl rfl dX3_markPart_57
        · rw [if_neg q7] at hk
          by_cases q10 : a2 = 2
          · rw [if_pos q10] at hk
            refine tw_tsIn (tgt := 58) hC 2 q10 (tw_rgL rfl) dX3_markPart_16 (by decide) (by decide) rfl (by decide) ?_
            refine lv_aload_n hC.1 hC.2.1 dX3_markPart_58 rfl (lv_at hl 0 rfl) ?_
            refine tw_getR hC hR hk flX3_36 dX3_markPart_59 (fun r8 hk => ?_)
            refine lv_iload_n hC.1 hC.2.1 dX3_markPart_62 rfl (lv_at hl 1 rfl) ?_
            refine tw_iald hC hR hk dX3_markPart_63 (fun v9 gv9 hk => ?_)
            cases hk
            exact tw_iret hC hR hL gv9 rfl rfl dX3_markPart_64
          · rw [if_neg q10] at hk
            refine tw_tsOut (tgt := 65) hC ga2 dX3_markPart_16 (by omega) (by decide) ?_
            refine lv_bipush (v := tw_I (-99)) hC.1 hC.2.1 dX3_markPart_65 (by decide) ?_
            cases hk
            exact tw_iret hC hR hL ((tw_rgL rfl)) rfl rfl dX3_markPart_67
    · refine lv_bipush (v := tw_I (-99)) hC.1 hC.2.1 dX3_markPart_12 (by decide) ?_
      cases hk
      exact tw_iret hC hR hL ((tw_rgL rfl)) rfl rfl dX3_markPart_14
set_option maxRecDepth 100000 in
theorem kX3_markPart {l : Launch} {p : Program} {e : Env} {R : Room} {s : State} {m : MethodId} {args : Array Value} {below : List Frame} {meth : Method} {c : Code} {H : Heap} {locs : List Loc} {cells slots : Nat} {Q : State → Prop} {cc : ByteArray} {pc nL idx : Nat} {ls : Array Slot} {rest : List Value} {G : tw_G} {h : tm_H} {own : String} {ret : Option FieldType} {α : Type} {x : α} {sz : Nat} {this : Nat} {a1 : Int} {a2 : Int} (hC : tw_C G p s m args meth c own cc nL ret) (hR : tw_Rel G sz h H) (hL : tw_L G locs) {F : Int → Option α} (hk : (fX3_markPart this a1 a2 h).bind F = some x) (ga1 : tm_rg a1) (ga2 : tm_rg a2) (hl : tw_mL own idx yX3_markPart) (hRm : rmX3_markPart.frames + 1 ≤ R.frames ∧ 8 + (3 + 11) + rmX3_markPart.locals ≤ R.locals) (hsz : ls.size = nL) (hW : (rest.map fun v => v.category).sum ≤ 8) (hf : cells + 0 ≤ R.cells ∧ slots + 0 ≤ R.slots) (hdg : decode cc pc = .ok (.invokevirtual idx, 3)) (kk : ∀ (r : Int) (H1 : Heap) (locs1 : List Loc), tw_Rel G sz h H1 → tw_L G locs1 → tm_rg r → F r = some x → W p l e R s m args below meth c H1 locs1 (cells + 0) (slots + 0) Q (F0 m (pc + 3) ls (.int (tw_I r) :: rest))) : W p l e R s m args below meth c H locs cells slots Q (F0 m pc ls (.int (tw_I a2) :: .int (tw_I a1) :: .ref this :: rest)) := by
  obtain ⟨r, hr, hF⟩ := Option.bind_eq_some_iff.mp hk
  have ob : ∀ r, fX3_markPart this a1 a2 h = some r → tm_is h 3 this := fun r hr => by
    unfold fX3_markPart at hr
    exact (tm_th_is hr).1
  exact tw_backi (tw_runV hC hR (cX3_markPart_ok l G sz this a1 a2 ga1 ga2 h r hr) (n := 2) (As := [.int (tw_I a1), .int (tw_I a2)]) ⟨tw_in_TB 594 (by decide +kernel) rfl, tw_in_TB 17 (by decide +kernel) rfl, by decide +kernel⟩ (tw_in_TB 592 (by decide +kernel) rfl) (tw_in_TB 593 (by decide +kernel) rfl) hl ⟨rfl, rfl⟩ hRm (ob r hr) (T := TX3) (N := 9) rfl rfl hsz rfl hW hdg hf) hL (fun H1 locs1 a b g => kk r H1 locs1 a b g hF)
def rmX4_hasSlot : Room := { frames := 0, cells := 0, slots := 0, locals := 0 }
set_option maxRecDepth 100000 in
set_option maxHeartbeats 4000000 in
theorem cX4_hasSlot_ok (l : Launch) (G : tw_G) (sz : Nat) (this : Nat) (a1 : Int) (ga1 : tm_rg a1) (h : tm_H) (out : Int) (hk : fX4_hasSlot this a1 h = some out) : Met l yX4_hasSlot (tw_WS yX4_hasSlot cX4_hasSlot 2 (some .boolean)) rmX4_hasSlot (va_Pc [.ref this, .int (tw_I a1)] (tw_Pre G sz h)) (tw_Qi G sz out h) 0 0 (tw_F G) := by
  refine tw_met (by decide +kernel) (Nat.le_of_ble_eq_true rfl) ?_
  intro p e s m args below meth c H ls hC hnm hR hl
  unfold fX4_hasSlot at hk
  obtain ⟨hob, hk⟩ := tm_th_is hk
  have hl : lv_has ls 2 [(0, .ref this), (1, .int (tw_I a1))] := hl
  have hL : tw_L G [] := fun q z => by cases z
  generalize hlc : ([] : List Loc) = locs at hL ⊢
  refine lv_iload_n hC.1 hC.2.1 dX4_hasSlot_0 rfl (lv_at hl 1 rfl) ?_
  refine tw_zlt (tgt := 13) hC hk ga1 dX4_hasSlot_1 (by decide) (fun _ hk => ?_) (fun _ hk => ?_)
  · refine lv_iconst (v := tw_I 0) hC.1 hC.2.1 dX4_hasSlot_13 rfl ?_
    cases hk
    exact tw_zret hC hR hL rfl rfl dX4_hasSlot_14
  · refine lv_iload_n hC.1 hC.2.1 dX4_hasSlot_4 rfl (lv_at hl 1 rfl) ?_
    refine lv_iconst (v := tw_I 2) hC.1 hC.2.1 dX4_hasSlot_5 rfl ?_
    refine tw_cge (tgt := 13) hC hk ga1 ((tw_rgL rfl)) dX4_hasSlot_6 (by decide) (fun _ hk => ?_) (fun _ hk => ?_)
    · refine lv_iconst (v := tw_I 1) hC.1 hC.2.1 dX4_hasSlot_9 rfl ?_
      refine lv_goto (tgt := 14) hC.1 hC.2.1 dX4_hasSlot_10 (by decide) ?_
      cases hk
      exact tw_zret hC hR hL rfl rfl dX4_hasSlot_14
    · refine lv_iconst (v := tw_I 0) hC.1 hC.2.1 dX4_hasSlot_13 rfl ?_
      cases hk
      exact tw_zret hC hR hL rfl rfl dX4_hasSlot_14
set_option maxRecDepth 100000 in
theorem kX4_hasSlot {l : Launch} {p : Program} {e : Env} {R : Room} {s : State} {m : MethodId} {args : Array Value} {below : List Frame} {meth : Method} {c : Code} {H : Heap} {locs : List Loc} {cells slots : Nat} {Q : State → Prop} {cc : ByteArray} {pc nL idx : Nat} {ls : Array Slot} {rest : List Value} {G : tw_G} {h : tm_H} {own : String} {ret : Option FieldType} {α : Type} {x : α} {sz : Nat} {this : Nat} {a1 : Int} (hC : tw_C G p s m args meth c own cc nL ret) (hR : tw_Rel G sz h H) (hL : tw_L G locs) {F : Int → Option α} (hk : (fX4_hasSlot this a1 h).bind F = some x) (ga1 : tm_rg a1) (hl : tw_mL own idx yX4_hasSlot) (hRm : rmX4_hasSlot.frames + 1 ≤ R.frames ∧ 8 + (2 + 11) + rmX4_hasSlot.locals ≤ R.locals) (hsz : ls.size = nL) (hW : (rest.map fun v => v.category).sum ≤ 8) (hf : cells + 0 ≤ R.cells ∧ slots + 0 ≤ R.slots) (hdg : decode cc pc = .ok (.invokevirtual idx, 3)) (kk : ∀ (r : Int) (H1 : Heap) (locs1 : List Loc), tw_Rel G sz h H1 → tw_L G locs1 → tm_rg r → F r = some x → W p l e R s m args below meth c H1 locs1 (cells + 0) (slots + 0) Q (F0 m (pc + 3) ls (.int (tw_I r) :: rest))) : W p l e R s m args below meth c H locs cells slots Q (F0 m pc ls (.int (tw_I a1) :: .ref this :: rest)) := by
  obtain ⟨r, hr, hF⟩ := Option.bind_eq_some_iff.mp hk
  have ob : ∀ r, fX4_hasSlot this a1 h = some r → tm_is h 4 this := fun r hr => by
    unfold fX4_hasSlot at hr
    exact (tm_th_is hr).1
  exact tw_backi (tw_runV hC hR (cX4_hasSlot_ok l G sz this a1 ga1 h r hr) (n := 1) (As := [.int (tw_I a1)]) ⟨tw_in_TB 544 (by decide +kernel) rfl, tw_in_TB 10 (by decide +kernel) rfl, by decide +kernel⟩ (tw_in_TB 542 (by decide +kernel) rfl) (tw_in_TB 543 (by decide +kernel) rfl) hl ⟨rfl, rfl⟩ hRm (ob r hr) (T := TX4) (N := 5) rfl rfl hsz rfl hW hdg hf) hL (fun H1 locs1 a b g => kk r H1 locs1 a b g hF)
def rmX4_isTaken : Room := { frames := 1, cells := 0, slots := 0, locals := 21 }
set_option maxRecDepth 100000 in
set_option maxHeartbeats 4000000 in
theorem cX4_isTaken_ok (l : Launch) (G : tw_G) (sz : Nat) (this : Nat) (a1 : Int) (ga1 : tm_rg a1) (h : tm_H) (out : Int) (hk : fX4_isTaken this a1 h = some out) : Met l yX4_isTaken (tw_WS yX4_isTaken cX4_isTaken 2 (some .boolean)) rmX4_isTaken (va_Pc [.ref this, .int (tw_I a1)] (tw_Pre G sz h)) (tw_Qi G sz out h) 0 0 (tw_F G) := by
  refine tw_met (by decide +kernel) (Nat.le_of_ble_eq_true rfl) ?_
  intro p e s m args below meth c H ls hC hnm hR hl
  unfold fX4_isTaken at hk
  obtain ⟨hob, hk⟩ := tm_th_is hk
  have hl : lv_has ls 2 [(0, .ref this), (1, .int (tw_I a1))] := hl
  have hL : tw_L G [] := fun q z => by cases z
  generalize hlc : ([] : List Loc) = locs at hL ⊢
  refine lv_aload_n hC.1 hC.2.1 dX4_isTaken_0 rfl (lv_at hl 0 rfl) ?_
  refine lv_iload_n hC.1 hC.2.1 dX4_isTaken_1 rfl (lv_at hl 1 rfl) ?_
  refine kX4_hasSlot hC hR hL hk ga1 mlX4_40 ⟨by decide, by decide⟩ hl.1 (Nat.le_of_ble_eq_true rfl) ⟨Nat.zero_le _, Nat.zero_le _⟩ dX4_isTaken_2 (fun v1 H locs hR hL gv1 hk => ?_)
  refine tw_zeq (tgt := 21) hC hk gv1 dX4_isTaken_5 (by decide) (fun _ hk => ?_) (fun _ hk => ?_)
  · refine lv_iconst (v := tw_I 0) hC.1 hC.2.1 dX4_isTaken_21 rfl ?_
    cases hk
    exact tw_zret hC hR hL rfl rfl dX4_isTaken_22
  · refine lv_aload_n hC.1 hC.2.1 dX4_isTaken_8 rfl (lv_at hl 0 rfl) ?_
    refine tw_getR hC hR hk flX4_36 dX4_isTaken_9 (fun r2 hk => ?_)
    refine lv_iload_n hC.1 hC.2.1 dX4_isTaken_12 rfl (lv_at hl 1 rfl) ?_
    refine tw_zald hC hR hk dX4_isTaken_13 (fun v3 gv3 hk => ?_)
    refine tw_zeq (tgt := 21) hC hk gv3 dX4_isTaken_14 (by decide) (fun _ hk => ?_) (fun _ hk => ?_)
    · refine lv_iconst (v := tw_I 0) hC.1 hC.2.1 dX4_isTaken_21 rfl ?_
      cases hk
      exact tw_zret hC hR hL rfl rfl dX4_isTaken_22
    · refine lv_iconst (v := tw_I 1) hC.1 hC.2.1 dX4_isTaken_17 rfl ?_
      refine lv_goto (tgt := 22) hC.1 hC.2.1 dX4_isTaken_18 (by decide) ?_
      cases hk
      exact tw_zret hC hR hL rfl rfl dX4_isTaken_22
set_option maxRecDepth 100000 in
theorem kX4_isTaken {l : Launch} {p : Program} {e : Env} {R : Room} {s : State} {m : MethodId} {args : Array Value} {below : List Frame} {meth : Method} {c : Code} {H : Heap} {locs : List Loc} {cells slots : Nat} {Q : State → Prop} {cc : ByteArray} {pc nL idx : Nat} {ls : Array Slot} {rest : List Value} {G : tw_G} {h : tm_H} {own : String} {ret : Option FieldType} {α : Type} {x : α} {sz : Nat} {this : Nat} {a1 : Int} (hC : tw_C G p s m args meth c own cc nL ret) (hR : tw_Rel G sz h H) (hL : tw_L G locs) {F : Int → Option α} (hk : (fX4_isTaken this a1 h).bind F = some x) (ga1 : tm_rg a1) (hl : tw_mL own idx yX4_isTaken) (hRm : rmX4_isTaken.frames + 1 ≤ R.frames ∧ 8 + (2 + 11) + rmX4_isTaken.locals ≤ R.locals) (hsz : ls.size = nL) (hW : (rest.map fun v => v.category).sum ≤ 8) (hf : cells + 0 ≤ R.cells ∧ slots + 0 ≤ R.slots) (hdg : decode cc pc = .ok (.invokevirtual idx, 3)) (kk : ∀ (r : Int) (H1 : Heap) (locs1 : List Loc), tw_Rel G sz h H1 → tw_L G locs1 → tm_rg r → F r = some x → W p l e R s m args below meth c H1 locs1 (cells + 0) (slots + 0) Q (F0 m (pc + 3) ls (.int (tw_I r) :: rest))) : W p l e R s m args below meth c H locs cells slots Q (F0 m pc ls (.int (tw_I a1) :: .ref this :: rest)) := by
  obtain ⟨r, hr, hF⟩ := Option.bind_eq_some_iff.mp hk
  have ob : ∀ r, fX4_isTaken this a1 h = some r → tm_is h 4 this := fun r hr => by
    unfold fX4_isTaken at hr
    exact (tm_th_is hr).1
  exact tw_backi (tw_runV hC hR (cX4_isTaken_ok l G sz this a1 ga1 h r hr) (n := 1) (As := [.int (tw_I a1)]) ⟨tw_in_TB 557 (by decide +kernel) rfl, tw_in_TB 10 (by decide +kernel) rfl, by decide +kernel⟩ (tw_in_TB 555 (by decide +kernel) rfl) (tw_in_TB 556 (by decide +kernel) rfl) hl ⟨rfl, rfl⟩ hRm (ob r hr) (T := TX4) (N := 5) rfl rfl hsz rfl hW hdg hf) hL (fun H1 locs1 a b g => kk r H1 locs1 a b g hF)
