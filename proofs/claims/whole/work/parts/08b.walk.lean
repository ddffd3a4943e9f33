def rmX1_giveBack : Room := { frames := 3, cells := 0, slots := 0, locals := 70 }
set_option maxRecDepth 100000 in
set_option maxHeartbeats 4000000 in
theorem cX1_giveBack_ok (l : Launch) (G : tw_G) (sz : Nat) (this : Nat) (a1 : Nat)  (h : tm_H) (out : tm_H) (hk : fX1_giveBack this a1 h = some out) : Met l yX1_giveBack (tw_WS yX1_giveBack cX1_giveBack 2 none) rmX1_giveBack (va_Pc [.ref this, .ref a1] (tw_Pre G sz h)) (tw_Qv G sz out) 0 0 (tw_F G) := by
  refine tw_met (by decide +kernel) (Nat.le_of_ble_eq_true rfl) ?_
  intro p e s m args below meth c H ls hC hnm hR hl
  unfold fX1_giveBack at hk
  obtain ⟨hob, hk⟩ := tm_th_is hk
  have hl : lv_has ls 2 [(0, .ref this), (1, .ref a1)] := hl
  have hL : tw_L G [] := fun q z => by cases z
  generalize hlc : ([] : List Loc) = locs at hL ⊢
  refine lv_aload_n hC.1 hC.2.1 dX1_giveBack_0 rfl (lv_at hl 0 rfl) ?_
  refine tw_getI hC hR hk flX1_15 dX1_giveBack_1 (fun v1 gv1 hk => ?_)
  refine tw_zle (tgt := 30) hC hk gv1 dX1_giveBack_4 (by decide) (fun _ hk => ?_) (fun _ hk => ?_)
  · refine lv_aload_n hC.1 hC.2.1 dX1_giveBack_7 rfl (lv_at hl 0 rfl) ?_
    refine lv_dup hC.1 hC.2.1 dX1_giveBack_8 rfl ?_
    refine tw_getI hC hR hk flX1_15 dX1_giveBack_9 (fun v2 gv2 hk => ?_)
    refine lv_iconst (v := tw_I 1) hC.1 hC.2.1 dX1_giveBack_12 rfl ?_
    refine tw_isub hC dX1_giveBack_13 ?_
    refine tw_putI hC hR hL ((tm_wr_rg _)) hk fpX1_15 dX1_giveBack_14 (fun h3 H locs hR hL hk => ?_)
    refine lv_aload_n hC.1 hC.2.1 dX1_giveBack_17 rfl (lv_at hl 1 rfl) ?_
    refine lv_aload_n hC.1 hC.2.1 dX1_giveBack_18 rfl (lv_at hl 0 rfl) ?_
    refine tw_getR hC hR hk flX1_11 dX1_giveBack_19 (fun r4 hk => ?_)
    refine lv_aload_n hC.1 hC.2.1 dX1_giveBack_22 rfl (lv_at hl 0 rfl) ?_
    refine tw_getI hC hR hk flX1_15 dX1_giveBack_23 (fun v5 gv5 hk => ?_)
    refine tw_aald hC hR hk dX1_giveBack_26 (fun r6 hk => ?_)
    refine kX4_copyFrom hC hR hL hk mlX1_23 ⟨by decide, by decide⟩ hl.1 (Nat.le_of_ble_eq_true rfl) ⟨Nat.zero_le _, Nat.zero_le _⟩ dX1_giveBack_27 (fun h7 H locs hR hL hk => ?_)
    cases hk
    exact tw_vret hC hR hL rfl dX1_giveBack_30
  · cases hk
    exact tw_vret hC hR hL rfl dX1_giveBack_30
set_option maxRecDepth 100000 in
theorem kX1_giveBack {l : Launch} {p : Program} {e : Env} {R : Room} {s : State} {m : MethodId} {args : Array Value} {below : List Frame} {meth : Method} {c : Code} {H : Heap} {locs : List Loc} {cells slots : Nat} {Q : State → Prop} {cc : ByteArray} {pc nL idx : Nat} {ls : Array Slot} {rest : List Value} {G : tw_G} {h : tm_H} {own : String} {ret : Option FieldType} {α : Type} {x : α} {sz : Nat} {this : Nat} {a1 : Nat} (hC : tw_C G p s m args meth c own cc nL ret) (hR : tw_Rel G sz h H) (hL : tw_L G locs) {F : tm_H → Option α} (hk : (fX1_giveBack this a1 h).bind F = some x)  (hl : tw_mL own idx yX1_giveBack) (hRm : rmX1_giveBack.frames + 1 ≤ R.frames ∧ 8 + (2 + 11) + rmX1_giveBack.locals ≤ R.locals) (hsz : ls.size = nL) (hW : (rest.map fun v => v.category).sum ≤ 8) (hf : cells + 0 ≤ R.cells ∧ slots + 0 ≤ R.slots) (hdg : decode cc pc = .ok (.invokevirtual idx, 3)) (kk : ∀ (h1 : tm_H) (H1 : Heap) (locs1 : List Loc), tw_Rel G sz h1 H1 → tw_L G locs1 → F h1 = some x → W p l e R s m args below meth c H1 locs1 (cells + 0) (slots + 0) Q (F0 m (pc + 3) ls (rest))) : W p l e R s m args below meth c H locs cells slots Q (F0 m pc ls (.ref a1 :: .ref this :: rest)) := by
  obtain ⟨r, hr, hF⟩ := Option.bind_eq_some_iff.mp hk
  have ob : ∀ r, fX1_giveBack this a1 h = some r → tm_is h 1 this := fun r hr => by
    unfold fX1_giveBack at hr
    exact (tm_th_is hr).1
  exact tw_backv (tw_runV hC hR (cX1_giveBack_ok l G sz this a1  h r hr) (n := 1) (As := [.ref a1]) ⟨tw_in_TB 528 (by decide +kernel) rfl, tw_in_TB 58 (by decide +kernel) rfl, by decide +kernel⟩ (tw_in_TB 526 (by decide +kernel) rfl) (tw_in_TB 527 (by decide +kernel) rfl) hl ⟨rfl, rfl⟩ hRm (ob r hr) (T := TX1) (N := 2) rfl rfl hsz rfl hW hdg hf) hL (fun H1 locs1 a b => kk r H1 locs1 a b hF)
def rmX6_init : Room := { frames := 1, cells := 1, slots := 140, locals := 20 }
set_option maxRecDepth 100000 in
set_option maxHeartbeats 4000000 in
theorem cX6_init_ok (l : Launch) (G : tw_G) (n : Nat) (this : Nat)  (h : tm_H) (out : tm_H × Nat) (hk : fX6_init this h n = some out) : Met l yX6_init (tw_WS yX6_init cX6_init 1 none) rmX6_init (va_Pc [.ref this] (tw_Pre G n h)) (tw_Qv G out.2 out.1) 1 140 (tw_F G) := by
  refine tw_met (by decide +kernel) (Nat.le_of_ble_eq_true rfl) ?_
  intro p e s m args below meth c H ls hC hnm hR hl
  unfold fX6_init at hk
  obtain ⟨hob, hk⟩ := tm_th_is hk
  have hl : lv_has ls 1 [(0, .ref this)] := hl
  have hL : tw_L G [] := fun q z => by cases z
  generalize hlc : ([] : List Loc) = locs at hL ⊢
  refine lv_aload_n hC.1 hC.2.1 dX6_init_0 rfl (lv_at hl 0 rfl) ?_
  refine tw_objInit hC (tw_in_TB 192 (by decide +kernel) rfl) tw_oiI tw_oiC hl.1 dX6_init_1 (by decide) (Nat.le_of_ble_eq_true rfl) ?_
  refine lv_aload_n hC.1 hC.2.1 dX6_init_4 rfl (lv_at hl 0 rfl) ?_
  refine lv_sipush (v := tw_I 140) hC.1 hC.2.1 dX6_init_5 (by decide) ?_
  refine tw_nai hC hR tw_ari 140 (by decide) hk ⟨by decide, by decide⟩ dX6_init_8 (fun h1 H hR hk => ?_)
  refine tw_putR hC hR hL hnm rfl rfl hk fpX6_9 dX6_init_10 (fun h2 H locs hR hL hk => ?_)
  refine lv_aload_n hC.1 hC.2.1 dX6_init_13 rfl (lv_at hl 0 rfl) ?_
  refine lv_iconst (v := tw_I 0) hC.1 hC.2.1 dX6_init_14 rfl ?_
  refine tw_putI hC hR hL ((tw_rgL rfl)) hk fpX6_13 dX6_init_15 (fun h3 H locs hR hL hk => ?_)
  cases hk
  exact tw_vret hC hR hL rfl dX6_init_18
set_option maxRecDepth 100000 in
theorem kX6_init {l : Launch} {p : Program} {e : Env} {R : Room} {s : State} {m : MethodId} {args : Array Value} {below : List Frame} {meth : Method} {c : Code} {H : Heap} {locs : List Loc} {cells slots : Nat} {Q : State → Prop} {cc : ByteArray} {pc nL idx : Nat} {ls : Array Slot} {rest : List Value} {G : tw_G} {h : tm_H} {own : String} {ret : Option FieldType} {α : Type} {x : α} {n : Nat} {this : Nat} (hC : tw_C G p s m args meth c own cc nL ret) (hR : tw_Rel G n h H) (hL : tw_L G locs) {F : tm_H × Nat → Option α} (hk : (fX6_init this h n).bind F = some x)  (hl : tw_mL own idx yX6_init) (hRm : rmX6_init.frames + 1 ≤ R.frames ∧ 8 + (1 + 11) + rmX6_init.locals ≤ R.locals) (hsz : ls.size = nL) (hW : (rest.map fun v => v.category).sum ≤ 8) (hf : cells + 1 ≤ R.cells ∧ slots + 140 ≤ R.slots) (hdg : decode cc pc = .ok (.invokespecial idx, 3)) (kk : ∀ (h1 : tm_H) (n1 : Nat) (H1 : Heap) (locs1 : List Loc), tw_Rel G n1 h1 H1 → tw_L G locs1 → F (h1, n1) = some x → W p l e R s m args below meth c H1 locs1 (cells + 1) (slots + 140) Q (F0 m (pc + 3) ls (rest))) : W p l e R s m args below meth c H locs cells slots Q (F0 m pc ls (.ref this :: rest)) := by
  obtain ⟨r, hr, hF⟩ := Option.bind_eq_some_iff.mp hk
  exact tw_backv (tw_runI hC hR (cX6_init_ok l G n this  h r hr) (n := 0) (As := []) ⟨tw_in_TB 191 (by decide +kernel) rfl, tw_in_TB 60 (by decide +kernel) rfl, by decide +kernel⟩ (tw_in_TB 190 (by decide +kernel) rfl) rfl hl ⟨rfl, rfl⟩ hRm rfl hsz rfl hW hdg hf) hL (fun H1 locs1 a b => kk r.1 r.2 H1 locs1 a b hF)
def rmX2_init : Room := { frames := 3, cells := 53, slots := 1135, locals := 64 }
set_option maxRecDepth 100000 in
set_option maxHeartbeats 4000000 in
theorem cX2_init_ok (l : Launch) (G : tw_G) (n : Nat) (this : Nat)  (h : tm_H) (out : tm_H × Nat) (hk : fX2_init this h n = some out) : Met l yX2_init (tw_WS yX2_init cX2_init 1 none) rmX2_init (va_Pc [.ref this] (tw_Pre G n h)) (tw_Qv G out.2 out.1) 53 1135 (tw_F G) := by
  refine tw_met (by decide +kernel) (Nat.le_of_ble_eq_true rfl) ?_
  intro p e s m args below meth c H ls hC hnm hR hl
  unfold fX2_init at hk
  obtain ⟨hob, hk⟩ := tm_th_is hk
  have hl : lv_has ls 1 [(0, .ref this)] := hl
  have hL : tw_L G [] := fun q z => by cases z
  generalize hlc : ([] : List Loc) = locs at hL ⊢
  refine lv_aload_n hC.1 hC.2.1 dX2_init_0 rfl (lv_at hl 0 rfl) ?_
  refine tw_objInit hC (tw_in_TB 186 (by decide +kernel) rfl) tw_oiI tw_oiC hl.1 dX2_init_1 (by decide) (Nat.le_of_ble_eq_true rfl) ?_
  refine lv_aload_n hC.1 hC.2.1 dX2_init_4 rfl (lv_at hl 0 rfl) ?_
  refine tw_new hC hR nwX2_9 hk ⟨by decide, by decide⟩ dX2_init_5 (fun h1 H hR hk => ?_)
  refine lv_dup hC.1 hC.2.1 dX2_init_8 rfl ?_
  refine kX6_init hC hR hL hk mlX2_11 ⟨by decide, by decide⟩ hl.1 (Nat.le_of_ble_eq_true rfl) ⟨by decide, by decide⟩ dX2_init_9 (fun h2 n2 H locs hR hL hk => ?_)
  refine tw_putR hC hR hL hnm rfl rfl hk fpX2_12 dX2_init_12 (fun h3 H locs hR hL hk => ?_)
  refine lv_aload_n hC.1 hC.2.1 dX2_init_15 rfl (lv_at hl 0 rfl) ?_
  refine tw_new hC hR nwX2_18 hk ⟨by decide, by decide⟩ dX2_init_16 (fun h4 H hR hk => ?_)
  refine lv_dup hC.1 hC.2.1 dX2_init_19 rfl ?_
  refine kX4_init hC hR hL hk mlX2_20 ⟨by decide, by decide⟩ hl.1 (Nat.le_of_ble_eq_true rfl) ⟨by decide, by decide⟩ dX2_init_20 (fun h5 n5 H locs hR hL hk => ?_)
  refine tw_putR hC hR hL hnm rfl rfl hk fpX2_21 dX2_init_23 (fun h6 H locs hR hL hk => ?_)
  refine lv_aload_n hC.1 hC.2.1 dX2_init_26 rfl (lv_at hl 0 rfl) ?_
  refine lv_iconst (v := tw_I 4) hC.1 hC.2.1 dX2_init_27 rfl ?_
  refine tw_nai hC hR tw_ari 4 (by decide) hk ⟨by decide, by decide⟩ dX2_init_28 (fun h7 H hR hk => ?_)
  refine tw_putR hC hR hL hnm rfl rfl hk fpX2_27 dX2_init_30 (fun h8 H locs hR hL hk => ?_)
  refine lv_aload_n hC.1 hC.2.1 dX2_init_33 rfl (lv_at hl 0 rfl) ?_
  refine lv_iconst (v := tw_I 0) hC.1 hC.2.1 dX2_init_34 rfl ?_
  refine tw_putI hC hR hL ((tw_rgL rfl)) hk fpX2_31 dX2_init_35 (fun h9 H locs hR hL hk => ?_)
  refine lv_aload_n hC.1 hC.2.1 dX2_init_38 rfl (lv_at hl 0 rfl) ?_
  refine lv_iconst (v := tw_I 0) hC.1 hC.2.1 dX2_init_39 rfl ?_
  refine tw_putI hC hR hL ((tw_rgL rfl)) hk fpX2_35 dX2_init_40 (fun h10 H locs hR hL hk => ?_)
  cases hk
  exact tw_vret hC hR hL rfl dX2_init_43
set_option maxRecDepth 100000 in
theorem kX2_init {l : Launch} {p : Program} {e : Env} {R : Room} {s : State} {m : MethodId} {args : Array Value} {below : List Frame} {meth : Method} {c : Code} {H : Heap} {locs : List Loc} {cells slots : Nat} {Q : State → Prop} {cc : ByteArray} {pc nL idx : Nat} {ls : Array Slot} {rest : List Value} {G : tw_G} {h : tm_H} {own : String} {ret : Option FieldType} {α : Type} {x : α} {n : Nat} {this : Nat} (hC : tw_C G p s m args meth c own cc nL ret) (hR : tw_Rel G n h H) (hL : tw_L G locs) {F : tm_H × Nat → Option α} (hk : (fX2_init this h n).bind F = some x)  (hl : tw_mL own idx yX2_init) (hRm : rmX2_init.frames + 1 ≤ R.frames ∧ 8 + (1 + 11) + rmX2_init.locals ≤ R.locals) (hsz : ls.size = nL) (hW : (rest.map fun v => v.category).sum ≤ 8) (hf : cells + 53 ≤ R.cells ∧ slots + 1135 ≤ R.slots) (hdg : decode cc pc = .ok (.invokespecial idx, 3)) (kk : ∀ (h1 : tm_H) (n1 : Nat) (H1 : Heap) (locs1 : List Loc), tw_Rel G n1 h1 H1 → tw_L G locs1 → F (h1, n1) = some x → W p l e R s m args below meth c H1 locs1 (cells + 53) (slots + 1135) Q (F0 m (pc + 3) ls (rest))) : W p l e R s m args below meth c H locs cells slots Q (F0 m pc ls (.ref this :: rest)) := by
  obtain ⟨r, hr, hF⟩ := Option.bind_eq_some_iff.mp hk
  exact tw_backv (tw_runI hC hR (cX2_init_ok l G n this  h r hr) (n := 0) (As := []) ⟨tw_in_TB 185 (by decide +kernel) rfl, tw_in_TB 59 (by decide +kernel) rfl, by decide +kernel⟩ (tw_in_TB 184 (by decide +kernel) rfl) rfl hl ⟨rfl, rfl⟩ hRm rfl hsz rfl hW hdg hf) hL (fun H1 locs1 a b => kk r.1 r.2 H1 locs1 a b hF)
def rmX6_length : Room := { frames := 0, cells := 0, slots := 0, locals := 0 }
set_option maxRecDepth 100000 in
set_option maxHeartbeats 4000000 in
theorem cX6_length_ok (l : Launch) (G : tw_G) (sz : Nat) (this : Nat)  (h : tm_H) (out : Int) (hk : fX6_length this h = some out) : Met l yX6_length (tw_WS yX6_length cX6_length 1 (some .int)) rmX6_length (va_Pc [.ref this] (tw_Pre G sz h)) (tw_Qi G sz out h) 0 0 (tw_F G) := by
  refine tw_met (by decide +kernel) (Nat.le_of_ble_eq_true rfl) ?_
  intro p e s m args below meth c H ls hC hnm hR hl
  unfold fX6_length at hk
  obtain ⟨hob, hk⟩ := tm_th_is hk
  have hl : lv_has ls 1 [(0, .ref this)] := hl
  have hL : tw_L G [] := fun q z => by cases z
  generalize hlc : ([] : List Loc) = locs at hL ⊢
  refine lv_aload_n hC.1 hC.2.1 dX6_length_0 rfl (lv_at hl 0 rfl) ?_
  refine tw_getI hC hR hk flX6_13 dX6_length_1 (fun v1 gv1 hk => ?_)
  cases hk
  exact tw_iret hC hR hL gv1 rfl rfl dX6_length_4
set_option maxRecDepth 100000 in
theorem kX6_length {l : Launch} {p : Program} {e : Env} {R : Room} {s : State} {m : MethodId} {args : Array Value} {below : List Frame} {meth : Method} {c : Code} {H : Heap} {locs : List Loc} {cells slots : Nat} {Q : State → Prop} {cc : ByteArray} {pc nL idx : Nat} {ls : Array Slot} {rest : List Value} {G : tw_G} {h : tm_H} {own : String} {ret : Option FieldType} {α : Type} {x : α} {sz : Nat} {this : Nat} (hC : tw_C G p s m args meth c own cc nL ret) (hR : tw_Rel G sz h H) (hL : tw_L G locs) {F : Int → Option α} (hk : (fX6_length this h).bind F = some x)  (hl : tw_mL own idx yX6_length) (hRm : rmX6_length.frames + 1 ≤ R.frames ∧ 8 + (1 + 11) + rmX6_length.locals ≤ R.locals) (hsz : ls.size = nL) (hW : (rest.map fun v => v.category).sum ≤ 8) (hf : cells + 0 ≤ R.cells ∧ slots + 0 ≤ R.slots) (hdg : decode cc pc = .ok (.invokevirtual idx, 3)) (kk : ∀ (r : Int) (H1 : Heap) (locs1 : List Loc), tw_Rel G sz h H1 → tw_L G locs1 → tm_rg r → F r = some x → W p l e R s m args below meth c H1 locs1 (cells + 0) (slots + 0) Q (F0 m (pc + 3) ls (.int (tw_I r) :: rest))) : W p l e R s m args below meth c H locs cells slots Q (F0 m pc ls (.ref this :: rest)) := by
  obtain ⟨r, hr, hF⟩ := Option.bind_eq_some_iff.mp hk
  have ob : ∀ r, fX6_length this h = some r → tm_is h 6 this := fun r hr => by
    unfold fX6_length at hr
    exact (tm_th_is hr).1
  exact tw_backi (tw_runV hC hR (cX6_length_ok l G sz this  h r hr) (n := 0) (As := []) ⟨tw_in_TB 536 (by decide +kernel) rfl, tw_in_TB 60 (by decide +kernel) rfl, by decide +kernel⟩ (tw_in_TB 534 (by decide +kernel) rfl) (tw_in_TB 535 (by decide +kernel) rfl) hl ⟨rfl, rfl⟩ hRm (ob r hr) (T := TX6) (N := 2) rfl rfl hsz rfl hW hdg hf) hL (fun H1 locs1 a b g => kk r H1 locs1 a b g hF)
def rmX6_at : Room := { frames := 0, cells := 0, slots := 0, locals := 0 }
set_option maxRecDepth 100000 in
set_option maxHeartbeats 4000000 in
theorem cX6_at_ok (l : Launch) (G : tw_G) (sz : Nat) (this : Nat) (a1 : Int) (ga1 : tm_rg a1) (h : tm_H) (out : Int) (hk : fX6_at this a1 h = some out) : Met l yX6_at (tw_WS yX6_at cX6_at 2 (some .int)) rmX6_at (va_Pc [.ref this, .int (tw_I a1)] (tw_Pre G sz h)) (tw_Qi G sz out h) 0 0 (tw_F G) := by
  refine tw_met (by decide +kernel) (Nat.le_of_ble_eq_true rfl) ?_
  intro p e s m args below meth c H ls hC hnm hR hl
  unfold fX6_at at hk
  obtain ⟨hob, hk⟩ := tm_th_is hk
  have hl : lv_has ls 2 [(0, .ref this), (1, .int (tw_I a1))] := hl
  have hL : tw_L G [] := fun q z => by cases z
  generalize hlc : ([] : List Loc) = locs at hL ⊢
  refine lv_iload_n hC.1 hC.2.1 dX6_at_0 rfl (lv_at hl 1 rfl) ?_
  refine tw_zlt (tgt := 21) hC hk ga1 dX6_at_1 (by decide) (fun _ hk => ?_) (fun _ hk => ?_)
  · refine lv_iconst (v := tw_I 0) hC.1 hC.2.1 dX6_at_21 rfl ?_
    cases hk
    exact tw_iret hC hR hL ((tw_rgL rfl)) rfl rfl dX6_at_22
  · refine lv_iload_n hC.1 hC.2.1 dX6_at_4 rfl (lv_at hl 1 rfl) ?_
    refine lv_aload_n hC.1 hC.2.1 dX6_at_5 rfl (lv_at hl 0 rfl) ?_
    refine tw_getI hC hR hk flX6_13 dX6_at_6 (fun v1 gv1 hk => ?_)
    refine tw_cge (tgt := 21) hC hk ga1 gv1 dX6_at_9 (by decide) (fun _ hk => ?_) (fun _ hk => ?_)
    · refine lv_aload_n hC.1 hC.2.1 dX6_at_12 rfl (lv_at hl 0 rfl) ?_
      refine tw_getR hC hR hk flX6_9 dX6_at_13 (fun r2 hk => ?_)
      refine lv_iload_n hC.1 hC.2.1 dX6_at_16 rfl (lv_at hl 1 rfl) ?_
      refine tw_iald hC hR hk dX6_at_17 (fun v3 gv3 hk => ?_)
      refine lv_goto (tgt := 22) hC.1 hC.2.1 dX6_at_18 (by decide) ?_
      cases hk
      exact tw_iret hC hR hL gv3 rfl rfl dX6_at_22
    · refine lv_iconst (v := tw_I 0) hC.1 hC.2.1 dX6_at_21 rfl ?_
      cases hk
      exact tw_iret hC hR hL ((tw_rgL rfl)) rfl rfl dX6_at_22
set_option maxRecDepth 100000 in
theorem kX6_at {l : Launch} {p : Program} {e : Env} {R : Room} {s : State} {m : MethodId} {args : Array Value} {below : List Frame} {meth : Method} {c : Code} {H : Heap} {locs : List Loc} {cells slots : Nat} {Q : State → Prop} {cc : ByteArray} {pc nL idx : Nat} {ls : Array Slot} {rest : List Value} {G : tw_G} {h : tm_H} {own : String} {ret : Option FieldType} {α : Type} {x : α} {sz : Nat} {this : Nat} {a1 : Int} (hC : tw_C G p s m args meth c own cc nL ret) (hR : tw_Rel G sz h H) (hL : tw_L G locs) {F : Int → Option α} (hk : (fX6_at this a1 h).bind F = some x) (ga1 : tm_rg a1) (hl : tw_mL own idx yX6_at) (hRm : rmX6_at.frames + 1 ≤ R.frames ∧ 8 + (2 + 11) + rmX6_at.locals ≤ R.locals) (hsz : ls.size = nL) (hW : (rest.map fun v => v.category).sum ≤ 8) (hf : cells + 0 ≤ R.cells ∧ slots + 0 ≤ R.slots) (hdg : decode cc pc = .ok (.invokevirtual idx, 3)) (kk : ∀ (r : Int) (H1 : Heap) (locs1 : List Loc), tw_Rel G sz h H1 → tw_L G locs1 → tm_rg r → F r = some x → W p l e R s m args below meth c H1 locs1 (cells + 0) (slots + 0) Q (F0 m (pc + 3) ls (.int (tw_I r) :: rest))) : W p l e R s m args below meth c H locs cells slots Q (F0 m pc ls (.int (tw_I a1) :: .ref this :: rest)) := by
  obtain ⟨r, hr, hF⟩ := Option.bind_eq_some_iff.mp hk
  have ob : ∀ r, fX6_at this a1 h = some r → tm_is h 6 this := fun r hr => by
    unfold fX6_at at hr
    exact (tm_th_is hr).1
  exact tw_backi (tw_runV hC hR (cX6_at_ok l G sz this a1 ga1 h r hr) (n := 1) (As := [.int (tw_I a1)]) ⟨tw_in_TB 566 (by decide +kernel) rfl, tw_in_TB 60 (by decide +kernel) rfl, by decide +kernel⟩ (tw_in_TB 564 (by decide +kernel) rfl) (tw_in_TB 565 (by decide +kernel) rfl) hl ⟨rfl, rfl⟩ hRm (ob r hr) (T := TX6) (N := 2) rfl rfl hsz rfl hW hdg hf) hL (fun H1 locs1 a b g => kk r H1 locs1 a b g hF)
def rmX2_isLetter : Room := { frames := 0, cells := 0, slots := 0, locals := 0 }
set_option maxRecDepth 100000 in
set_option maxHeartbeats 4000000 in
theorem cX2_isLetter_ok (l : Launch) (G : tw_G) (sz : Nat) (a1 : Int) (ga1 : tm_rg a1) (h : tm_H) (out : Int) (hk : fX2_isLetter a1 h = some out) : Met l yX2_isLetter (tw_WS yX2_isLetter cX2_isLetter 1 (some .boolean)) rmX2_isLetter (va_Pc [.int (tw_I a1)] (tw_Pre G sz h)) (tw_Qi G sz out h) 0 0 (tw_F G) := by
  refine tw_met (by decide +kernel) (Nat.le_of_ble_eq_true rfl) ?_
  intro p e s m args below meth c H ls hC hnm hR hl
  unfold fX2_isLetter at hk
  have hl : lv_has ls 1 [(0, .int (tw_I a1))] := hl
  have hL : tw_L G [] := fun q z => by cases z
  generalize hlc : ([] : List Loc) = locs at hL ⊢
  refine lv_iload_n hC.1 hC.2.1 dX2_isLetter_0 rfl (lv_at hl 0 rfl) ?_
  refine lv_bipush (v := tw_I 97) hC.1 hC.2.1 dX2_isLetter_1 (by decide) ?_
  refine tw_clt (tgt := 16) hC hk ga1 ((tw_rgL rfl)) dX2_isLetter_3 (by decide) (fun _ hk => ?_) (fun _ hk => ?_)
  · refine lv_iconst (v := tw_I 0) hC.1 hC.2.1 dX2_isLetter_16 rfl ?_
    cases hk
    exact tw_zret hC hR hL rfl rfl dX2_isLetter_17
  · refine lv_iload_n hC.1 hC.2.1 dX2_isLetter_6 rfl (lv_at hl 0 rfl) ?_
    refine lv_bipush (v := tw_I 122) hC.1 hC.2.1 dX2_isLetter_7 (by decide) ?_
    refine tw_cgt (tgt := 16) hC hk ga1 ((tw_rgL rfl)) dX2_isLetter_9 (by decide) (fun _ hk => ?_) (fun _ hk => ?_)
    · refine lv_iconst (v := tw_I 0) hC.1 hC.2.1 dX2_isLetter_16 rfl ?_
      cases hk
      exact tw_zret hC hR hL rfl rfl dX2_isLetter_17
    · refine lv_iconst (v := tw_I 1) hC.1 hC.2.1 dX2_isLetter_12 rfl ?_
      refine lv_goto (tgt := 17) hC.1 hC.2.1 dX2_isLetter_13 (by decide) ?_
      cases hk
      exact tw_zret hC hR hL rfl rfl dX2_isLetter_17
set_option maxRecDepth 100000 in
theorem kX2_isLetter {l : Launch} {p : Program} {e : Env} {R : Room} {s : State} {m : MethodId} {args : Array Value} {below : List Frame} {meth : Method} {c : Code} {H : Heap} {locs : List Loc} {cells slots : Nat} {Q : State → Prop} {cc : ByteArray} {pc nL idx : Nat} {ls : Array Slot} {rest : List Value} {G : tw_G} {h : tm_H} {own : String} {ret : Option FieldType} {α : Type} {x : α} {sz : Nat} {a1 : Int} (hC : tw_C G p s m args meth c own cc nL ret) (hR : tw_Rel G sz h H) (hL : tw_L G locs) {F : Int → Option α} (hk : (fX2_isLetter a1 h).bind F = some x) (ga1 : tm_rg a1) (hl : tw_mL own idx yX2_isLetter) (hRm : rmX2_isLetter.frames + 1 ≤ R.frames ∧ 8 + (1 + 11) + rmX2_isLetter.locals ≤ R.locals) (hsz : ls.size = nL) (hW : (rest.map fun v => v.category).sum ≤ 8) (hf : cells + 0 ≤ R.cells ∧ slots + 0 ≤ R.slots) (hdg : decode cc pc = .ok (.invokestatic idx, 3)) (kk : ∀ (r : Int) (H1 : Heap) (locs1 : List Loc), tw_Rel G sz h H1 → tw_L G locs1 → tm_rg r → F r = some x → W p l e R s m args below meth c H1 locs1 (cells + 0) (slots + 0) Q (F0 m (pc + 3) ls (.int (tw_I r) :: rest))) : W p l e R s m args below meth c H locs cells slots Q (F0 m pc ls (.int (tw_I a1) :: rest)) := by
  obtain ⟨r, hr, hF⟩ := Option.bind_eq_some_iff.mp hk
  exact tw_backi (tw_runS hC hR (cX2_isLetter_ok l G sz a1 ga1 h r hr) (n := 1) ⟨tw_in_TB 569 (by decide +kernel) rfl, tw_in_TB 59 (by decide +kernel) rfl, by decide +kernel⟩ (tw_in_TB 568 (by decide +kernel) rfl) hl ⟨rfl, rfl⟩ hRm rfl hsz rfl hW hdg hf) hL (fun H1 locs1 a b g => kk r H1 locs1 a b g hF)
def rmX2_step : Room := { frames := 1, cells := 0, slots := 0, locals := 21 }
set_option maxRecDepth 100000 in
set_option maxHeartbeats 4000000 in
theorem sX2_step_L103 {l : Launch} {p : Program} {e : Env} {s : State} {m : MethodId} {args : Array Value} {below : List Frame} {meth : Method} {c : Code} (G : tw_G) (sz : Nat) (hC : tw_C G p s m args meth c RX2 cX2_step 1 none) (this : Nat)   (h : tm_H)  (out : tm_H) (hk : fX2_step_L103 this h = some out) (H : Heap) (locs : List Loc) (ls : Array Slot) (hR : tw_Rel G sz h H) (hL : tw_L G locs) (hl : lv_has ls 1 [(0, .ref this)]) : W p l e rmX2_step s m args below meth c H locs 0 0 (MQ below (tw_Qv G sz out) args s 0 0 (tw_F G)) (F0 m 103 ls []) := by
  unfold fX2_step_L103 at hk
  refine lv_aload_n hC.1 hC.2.1 dX2_step_103 rfl (lv_at hl 0 rfl) ?_
  refine tw_getI hC hR hk flX2_35 dX2_step_104 (fun v22 gv22 hk => ?_)
  refine lv_aload_n hC.1 hC.2.1 dX2_step_107 rfl (lv_at hl 0 rfl) ?_
  refine tw_getI hC hR hk flX2_31 dX2_step_108 (fun v23 gv23 hk => ?_)
  refine tw_cne (tgt := 138) hC hk gv22 gv23 dX2_step_111 (by decide) (fun _ hk => ?_) (fun _ hk => ?_)
  · refine lv_aload_n hC.1 hC.2.1 dX2_step_114 rfl (lv_at hl 0 rfl) ?_
    refine tw_getI hC hR hk flX2_35 dX2_step_115 (fun v24 gv24 hk => ?_)
    refine lv_aload_n hC.1 hC.2.1 dX2_step_118 rfl (lv_at hl 0 rfl) ?_
    refine tw_getR hC hR hk flX2_12 dX2_step_119 (fun r25 hk => ?_)
    refine kX6_length hC hR hL hk mlX2_45 ⟨by decide, by decide⟩ hl.1 (Nat.le_of_ble_eq_true rfl) ⟨Nat.zero_le _, Nat.zero_le _⟩ dX2_step_122 (fun v26 H locs hR hL gv26 hk => ?_)
    refine tw_cge (tgt := 138) hC hk gv24 gv26 dX2_step_125 (by decide) (fun _ hk => ?_) (fun _ hk => ?_)
    · refine lv_aload_n hC.1 hC.2.1 dX2_step_128 rfl (lv_at hl 0 rfl) ?_
      refine lv_dup hC.1 hC.2.1 dX2_step_129 rfl ?_
      refine tw_getI hC hR hk flX2_35 dX2_step_130 (fun v27 gv27 hk => ?_)
      refine lv_iconst (v := tw_I 1) hC.1 hC.2.1 dX2_step_133 rfl ?_
      refine tw_iadd hC dX2_step_134 ?_
      refine tw_putI hC hR hL ((tm_wr_rg _)) hk fpX2_35 dX2_step_135 (fun h28 H locs hR hL hk => ?_)
      cases hk
      exact tw_vret hC hR hL rfl dX2_step_138
    · cases hk
      exact tw_vret hC hR hL rfl dX2_step_138
  · cases hk
    exact tw_vret hC hR hL rfl dX2_step_138
set_option maxRecDepth 100000 in
set_option maxHeartbeats 4000000 in
theorem sX2_step_S1 {l : Launch} {p : Program} {e : Env} {s : State} {m : MethodId} {args : Array Value} {below : List Frame} {meth : Method} {c : Code} (G : tw_G) (sz : Nat) (hC : tw_C G p s m args meth c RX2 cX2_step 1 none) (this : Nat)  : ∀ (k : Nat) (st : (tm_H)) (out : tm_H), tm_wit (fX2_step_S1 this) k st = some out → match st with
    | (h) => ∀ (H : Heap) (locs : List Loc) (ls : Array Slot), tw_Rel G sz h H → tw_L G locs → lv_has ls 1 [(0, .ref this)] → W p l e rmX2_step s m args below meth c H locs 0 0 (MQ below (tw_Qv G sz out) args s 0 0 (tw_F G)) (F0 m 59 ls []) := by
  intro k
  induction k with
  | zero =>
    intro st out hk
    exact absurd hk (by unfold tm_wit; exact fun z => by cases z)
  | succ k ih =>
    intro h out hk
    obtain ⟨X, hk, hf⟩ := tm_wit_succ hk
    intro H locs ls  hR hL hl
    dsimp only [fX2_step_S1] at hk
    refine lv_aload_n hC.1 hC.2.1 dX2_step_59 rfl (lv_at hl 0 rfl) ?_
    refine tw_getI hC hR hk flX2_35 dX2_step_60 (fun v13 gv13 hk => ?_)
    refine lv_aload_n hC.1 hC.2.1 dX2_step_63 rfl (lv_at hl 0 rfl) ?_
    refine tw_getR hC hR hk flX2_12 dX2_step_64 (fun r14 hk => ?_)
    refine kX6_length hC hR hL hk mlX2_45 ⟨by decide, by decide⟩ hl.1 (Nat.le_of_ble_eq_true rfl) ⟨Nat.zero_le _, Nat.zero_le _⟩ dX2_step_67 (fun v15 H locs hR hL gv15 hk => ?_)
    refine tw_cge (tgt := 103) hC hk gv13 gv15 dX2_step_70 (by decide) (fun _ hk => ?_) (fun _ hk => ?_)
    · refine lv_aload_n hC.1 hC.2.1 dX2_step_73 rfl (lv_at hl 0 rfl) ?_
      refine tw_getR hC hR hk flX2_12 dX2_step_74 (fun r16 hk => ?_)
      refine lv_aload_n hC.1 hC.2.1 dX2_step_77 rfl (lv_at hl 0 rfl) ?_
      refine tw_getI hC hR hk flX2_35 dX2_step_78 (fun v17 gv17 hk => ?_)
      refine kX6_at hC hR hL hk gv17 mlX2_69 ⟨by decide, by decide⟩ hl.1 (Nat.le_of_ble_eq_true rfl) ⟨Nat.zero_le _, Nat.zero_le _⟩ dX2_step_81 (fun v18 H locs hR hL gv18 hk => ?_)
      refine kX2_isLetter hC hR hL hk gv18 mlX2_142 ⟨by decide, by decide⟩ hl.1 (Nat.le_of_ble_eq_true rfl) ⟨Nat.zero_le _, Nat.zero_le _⟩ dX2_step_84 (fun v19 H locs hR hL gv19 hk => ?_)
      refine tw_zeq (tgt := 103) hC hk gv19 dX2_step_87 (by decide) (fun _ hk => ?_) (fun _ hk => ?_)
      · obtain ⟨r, hk2, hX⟩ := tm_out_some hk
        rw [hX] at hf
        have hr : r = out := Option.some.inj hf
        rw [hr] at hk2
        exact sX2_step_L103 G sz hC this h out hk2 H locs _ hR hL (lv_sub hl [0] rfl)
      · refine lv_aload_n hC.1 hC.2.1 dX2_step_90 rfl (lv_at hl 0 rfl) ?_
        refine lv_dup hC.1 hC.2.1 dX2_step_91 rfl ?_
        refine tw_getI hC hR hk flX2_35 dX2_step_92 (fun v20 gv20 hk => ?_)
        refine lv_iconst (v := tw_I 1) hC.1 hC.2.1 dX2_step_95 rfl ?_
        refine tw_iadd hC dX2_step_96 ?_
        refine tw_putI hC hR hL ((tm_wr_rg _)) hk fpX2_35 dX2_step_97 (fun h21 H locs hR hL hk => ?_)
        refine lv_goto (tgt := 59) hC.1 hC.2.1 dX2_step_100 (by decide) ?_
        cases hk
        exact ih _ out hf H locs _  hR hL (lv_sub hl [0] rfl)
    · obtain ⟨r, hk2, hX⟩ := tm_out_some hk
      rw [hX] at hf
      have hr : r = out := Option.some.inj hf
      rw [hr] at hk2
      exact sX2_step_L103 G sz hC this h out hk2 H locs _ hR hL (lv_sub hl [0] rfl)
theorem sX2_step_L59 {l : Launch} {p : Program} {e : Env} {s : State} {m : MethodId} {args : Array Value} {below : List Frame} {meth : Method} {c : Code} (G : tw_G) (sz : Nat) (hC : tw_C G p s m args meth c RX2 cX2_step 1 none) (this : Nat)   (h : tm_H)  (out : tm_H) (hk : fX2_step_L59 this h = some out) (H : Heap) (locs : List Loc) (ls : Array Slot) (hR : tw_Rel G sz h H) (hL : tw_L G locs) (hl : lv_has ls 1 [(0, .ref this)]) : W p l e rmX2_step s m args below meth c H locs 0 0 (MQ below (tw_Qv G sz out) args s 0 0 (tw_F G)) (F0 m 59 ls []) := by
  obtain ⟨k, hk⟩ := tm_wl_iff.mp hk
  exact sX2_step_S1 G sz hC this  k ((h)) out hk H locs ls  hR hL hl
set_option maxRecDepth 100000 in
set_option maxHeartbeats 4000000 in
theorem sX2_step_L51 {l : Launch} {p : Program} {e : Env} {s : State} {m : MethodId} {args : Array Value} {below : List Frame} {meth : Method} {c : Code} (G : tw_G) (sz : Nat) (hC : tw_C G p s m args meth c RX2 cX2_step 1 none) (this : Nat)   (h : tm_H)  (out : tm_H) (hk : fX2_step_L51 this h = some out) (H : Heap) (locs : List Loc) (ls : Array Slot) (hR : tw_Rel G sz h H) (hL : tw_L G locs) (hl : lv_has ls 1 [(0, .ref this)]) : W p l e rmX2_step s m args below meth c H locs 0 0 (MQ below (tw_Qv G sz out) args s 0 0 (tw_F G)) (F0 m 51 ls []) := by
  unfold fX2_step_L51 at hk
  refine lv_aload_n hC.1 hC.2.1 dX2_step_51 rfl (lv_at hl 0 rfl) ?_
  refine lv_aload_n hC.1 hC.2.1 dX2_step_52 rfl (lv_at hl 0 rfl) ?_
  refine tw_getI hC hR hk flX2_31 dX2_step_53 (fun v11 gv11 hk => ?_)
  refine tw_putI hC hR hL gv11 hk fpX2_35 dX2_step_56 (fun h12 H locs hR hL hk => ?_)
  exact sX2_step_L59 G sz hC this h12 out hk H locs _ hR hL (lv_sub hl [0] rfl)
set_option maxRecDepth 100000 in
set_option maxHeartbeats 4000000 in
theorem sX2_step_S3 {l : Launch} {p : Program} {e : Env} {s : State} {m : MethodId} {args : Array Value} {below : List Frame} {meth : Method} {c : Code} (G : tw_G) (sz : Nat) (hC : tw_C G p s m args meth c RX2 cX2_step 1 none) (this : Nat)  : ∀ (k : Nat) (st : (tm_H)) (out : tm_H), tm_wit (fX2_step_S3 this) k st = some out → match st with
    | (h) => ∀ (H : Heap) (locs : List Loc) (ls : Array Slot), tw_Rel G sz h H → tw_L G locs → lv_has ls 1 [(0, .ref this)] → W p l e rmX2_step s m args below meth c H locs 0 0 (MQ below (tw_Qv G sz out) args s 0 0 (tw_F G)) (F0 m 8 ls []) := by
  intro k
  induction k with
  | zero =>
    intro st out hk
    exact absurd hk (by unfold tm_wit; exact fun z => by cases z)
  | succ k ih =>
    intro h out hk
    obtain ⟨X, hk, hf⟩ := tm_wit_succ hk
    intro H locs ls  hR hL hl
    dsimp only [fX2_step_S3] at hk
    refine lv_aload_n hC.1 hC.2.1 dX2_step_8 rfl (lv_at hl 0 rfl) ?_
    refine tw_getI hC hR hk flX2_31 dX2_step_9 (fun v3 gv3 hk => ?_)
    refine lv_aload_n hC.1 hC.2.1 dX2_step_12 rfl (lv_at hl 0 rfl) ?_
    refine tw_getR hC hR hk flX2_12 dX2_step_13 (fun r4 hk => ?_)
    refine kX6_length hC hR hL hk mlX2_45 ⟨by decide, by decide⟩ hl.1 (Nat.le_of_ble_eq_true rfl) ⟨Nat.zero_le _, Nat.zero_le _⟩ dX2_step_16 (fun v5 H locs hR hL gv5 hk => ?_)
    refine tw_cge (tgt := 51) hC hk gv3 gv5 dX2_step_19 (by decide) (fun _ hk => ?_) (fun _ hk => ?_)
    · refine lv_aload_n hC.1 hC.2.1 dX2_step_22 rfl (lv_at hl 0 rfl) ?_
      refine tw_getR hC hR hk flX2_12 dX2_step_23 (fun r6 hk => ?_)
      refine lv_aload_n hC.1 hC.2.1 dX2_step_26 rfl (lv_at hl 0 rfl) ?_
      refine tw_getI hC hR hk flX2_31 dX2_step_27 (fun v7 gv7 hk => ?_)
      refine kX6_at hC hR hL hk gv7 mlX2_69 ⟨by decide, by decide⟩ hl.1 (Nat.le_of_ble_eq_true rfl) ⟨Nat.zero_le _, Nat.zero_le _⟩ dX2_step_30 (fun v8 H locs hR hL gv8 hk => ?_)
      refine lv_bipush (v := tw_I 32) hC.1 hC.2.1 dX2_step_33 (by decide) ?_
      refine tw_cne (tgt := 51) hC hk gv8 ((tw_rgL rfl)) dX2_step_35 (by decide) (fun _ hk => ?_) (fun _ hk => ?_)
      · refine lv_aload_n hC.1 hC.2.1 dX2_step_38 rfl (lv_at hl 0 rfl) ?_
        refine lv_dup hC.1 hC.2.1 dX2_step_39 rfl ?_
        refine tw_getI hC hR hk flX2_31 dX2_step_40 (fun v9 gv9 hk => ?_)
        refine lv_iconst (v := tw_I 1) hC.1 hC.2.1 dX2_step_43 rfl ?_
        refine tw_iadd hC dX2_step_44 ?_
        refine tw_putI hC hR hL ((tm_wr_rg _)) hk fpX2_31 dX2_step_45 (fun h10 H locs hR hL hk => ?_)
        refine lv_goto (tgt := 8) hC.1 hC.2.1 dX2_step_48 (by decide) ?_
        cases hk
        exact ih _ out hf H locs _  hR hL (lv_sub hl [0] rfl)
      · obtain ⟨r, hk2, hX⟩ := tm_out_some hk
        rw [hX] at hf
        have hr : r = out := Option.some.inj hf
        rw [hr] at hk2
        exact sX2_step_L51 G sz hC this h out hk2 H locs _ hR hL (lv_sub hl [0] rfl)
    · obtain ⟨r, hk2, hX⟩ := tm_out_some hk
      rw [hX] at hf
      have hr : r = out := Option.some.inj hf
      rw [hr] at hk2
      exact sX2_step_L51 G sz hC this h out hk2 H locs _ hR hL (lv_sub hl [0] rfl)
theorem sX2_step_L8 {l : Launch} {p : Program} {e : Env} {s : State} {m : MethodId} {args : Array Value} {below : List Frame} {meth : Method} {c : Code} (G : tw_G) (sz : Nat) (hC : tw_C G p s m args meth c RX2 cX2_step 1 none) (this : Nat)   (h : tm_H)  (out : tm_H) (hk : fX2_step_L8 this h = some out) (H : Heap) (locs : List Loc) (ls : Array Slot) (hR : tw_Rel G sz h H) (hL : tw_L G locs) (hl : lv_has ls 1 [(0, .ref this)]) : W p l e rmX2_step s m args below meth c H locs 0 0 (MQ below (tw_Qv G sz out) args s 0 0 (tw_F G)) (F0 m 8 ls []) := by
  obtain ⟨k, hk⟩ := tm_wl_iff.mp hk
  exact sX2_step_S3 G sz hC this  k ((h)) out hk H locs ls  hR hL hl
set_option maxRecDepth 100000 in
set_option maxHeartbeats 4000000 in
theorem cX2_step_ok (l : Launch) (G : tw_G) (sz : Nat) (this : Nat)  (h : tm_H) (out : tm_H) (hk : fX2_step this h = some out) : Met l yX2_step (tw_WS yX2_step cX2_step 1 none) rmX2_step (va_Pc [.ref this] (tw_Pre G sz h)) (tw_Qv G sz out) 0 0 (tw_F G) := by
  refine tw_met (by decide +kernel) (Nat.le_of_ble_eq_true rfl) ?_
  intro p e s m args below meth c H ls hC hnm hR hl
  unfold fX2_step at hk
  obtain ⟨hob, hk⟩ := tm_th_is hk
  have hl : lv_has ls 1 [(0, .ref this)] := hl
  have hL : tw_L G [] := fun q z => by cases z
  generalize hlc : ([] : List Loc) = locs at hL ⊢
  refine lv_aload_n hC.1 hC.2.1 dX2_step_0 rfl (lv_at hl 0 rfl) ?_
  refine lv_aload_n hC.1 hC.2.1 dX2_step_1 rfl (lv_at hl 0 rfl) ?_
  refine tw_getI hC hR hk flX2_35 dX2_step_2 (fun v1 gv1 hk => ?_)
  refine tw_putI hC hR hL gv1 hk fpX2_31 dX2_step_5 (fun h2 H locs hR hL hk => ?_)
  exact sX2_step_L8 G sz hC this h2 out hk H locs _ hR hL (lv_sub hl [0] rfl)
set_option maxRecDepth 100000 in
theorem kX2_step {l : Launch} {p : Program} {e : Env} {R : Room} {s : State} {m : MethodId} {args : Array Value} {below : List Frame} {meth : Method} {c : Code} {H : Heap} {locs : List Loc} {cells slots : Nat} {Q : State → Prop} {cc : ByteArray} {pc nL idx : Nat} {ls : Array Slot} {rest : List Value} {G : tw_G} {h : tm_H} {own : String} {ret : Option FieldType} {α : Type} {x : α} {sz : Nat} {this : Nat} (hC : tw_C G p s m args meth c own cc nL ret) (hR : tw_Rel G sz h H) (hL : tw_L G locs) {F : tm_H → Option α} (hk : (fX2_step this h).bind F = some x)  (hl : tw_mL own idx yX2_step) (hRm : rmX2_step.frames + 1 ≤ R.frames ∧ 8 + (1 + 11) + rmX2_step.locals ≤ R.locals) (hsz : ls.size = nL) (hW : (rest.map fun v => v.category).sum ≤ 8) (hf : cells + 0 ≤ R.cells ∧ slots + 0 ≤ R.slots) (hdg : decode cc pc = .ok (.invokevirtual idx, 3)) (kk : ∀ (h1 : tm_H) (H1 : Heap) (locs1 : List Loc), tw_Rel G sz h1 H1 → tw_L G locs1 → F h1 = some x → W p l e R s m args below meth c H1 locs1 (cells + 0) (slots + 0) Q (F0 m (pc + 3) ls (rest))) : W p l e R s m args below meth c H locs cells slots Q (F0 m pc ls (.ref this :: rest)) := by
  obtain ⟨r, hr, hF⟩ := Option.bind_eq_some_iff.mp hk
  have ob : ∀ r, fX2_step this h = some r → tm_is h 2 this := fun r hr => by
    unfold fX2_step at hr
    exact (tm_th_is hr).1
  exact tw_backv (tw_runV hC hR (cX2_step_ok l G sz this  h r hr) (n := 0) (As := []) ⟨tw_in_TB 561 (by decide +kernel) rfl, tw_in_TB 59 (by decide +kernel) rfl, by decide +kernel⟩ (tw_in_TB 560 (by decide +kernel) rfl) (tw_in_TB 7 (by decide +kernel) rfl) hl ⟨rfl, rfl⟩ hRm (ob r hr) (T := TX2) (N := 5) rfl rfl hsz rfl hW hdg hf) hL (fun H1 locs1 a b => kk r H1 locs1 a b hF)
def rmX2_isWord : Room := { frames := 5, cells := 0, slots := 0, locals := 106 }
set_option maxRecDepth 100000 in
set_option maxHeartbeats 4000000 in
theorem sX2_isWord_S0 {l : Launch} {p : Program} {e : Env} {s : State} {m : MethodId} {args : Array Value} {below : List Frame} {meth : Method} {c : Code} (G : tw_G) (sz : Nat) (hC : tw_C G p s m args meth c RX2 cX2_isWord 3 (some .boolean)) (this : Nat) (a1 : Nat)  (h : tm_H) : ∀ (k : Nat) (st : (Int)) (out : Int), tm_wit (fX2_isWord_S0 this a1 h) k st = some out → match st with
    | (x2) => ∀ (H : Heap) (locs : List Loc) (ls : Array Slot), tm_rg x2 → tw_Rel G sz h H → tw_L G locs → lv_has ls 3 [(0, .ref this), (1, .ref (G.2.2.2.2.1 a1)), (2, .int (tw_I x2))] → W p l e rmX2_isWord s m args below meth c H locs 0 0 (MQ below (tw_Qi G sz out h) args s 0 0 (tw_F G)) (F0 m 20 ls []) := by
  intro k
  induction k with
  | zero =>
    intro st out hk
    exact absurd hk (by unfold tm_wit; exact fun z => by cases z)
  | succ k ih =>
    intro x2 out hk
    obtain ⟨X, hk, hf⟩ := tm_wit_succ hk
    intro H locs ls gx2 hR hL hl
    dsimp only [fX2_isWord_S0] at hk
    refine lv_iload_n hC.1 hC.2.1 dX2_isWord_20 rfl (lv_at hl 2 rfl) ?_
    refine lv_aload_n hC.1 hC.2.1 dX2_isWord_21 rfl (lv_at hl 1 rfl) ?_
    refine tw_slen hC hR hL hk mlX2_145 ⟨by decide, by decide⟩ hl.1 (Nat.le_of_ble_eq_true rfl) dX2_isWord_22 ⟨Nat.zero_le _, Nat.zero_le _⟩ (fun v4 H locs hR hL gv4 hk => ?_)
    refine tw_cge (tgt := 57) hC hk gx2 gv4 dX2_isWord_25 (by decide) (fun _ hk => ?_) (fun _ hk => ?_)
    · refine lv_aload_n hC.1 hC.2.1 dX2_isWord_28 rfl (lv_at hl 0 rfl) ?_
      refine tw_getR hC hR hk flX2_12 dX2_isWord_29 (fun r5 hk => ?_)
      refine lv_aload_n hC.1 hC.2.1 dX2_isWord_32 rfl (lv_at hl 0 rfl) ?_
      refine tw_getI hC hR hk flX2_31 dX2_isWord_33 (fun v6 gv6 hk => ?_)
      refine lv_iload_n hC.1 hC.2.1 dX2_isWord_36 rfl (lv_at hl 2 rfl) ?_
      refine tw_iadd hC dX2_isWord_37 ?_
      refine kX6_at hC hR hL hk ((tm_wr_rg _)) mlX2_69 ⟨by decide, by decide⟩ hl.1 (Nat.le_of_ble_eq_true rfl) ⟨Nat.zero_le _, Nat.zero_le _⟩ dX2_isWord_38 (fun v7 H locs hR hL gv7 hk => ?_)
      refine lv_aload_n hC.1 hC.2.1 dX2_isWord_41 rfl (lv_at hl 1 rfl) ?_
      refine lv_iload_n hC.1 hC.2.1 dX2_isWord_42 rfl (lv_at hl 2 rfl) ?_
      refine tw_schar hC hR hL gx2 hk mlX2_148 ⟨by decide, by decide⟩ hl.1 (Nat.le_of_ble_eq_true rfl) dX2_isWord_43 ⟨Nat.zero_le _, Nat.zero_le _⟩ (fun v8 H locs hR hL gv8 hk => ?_)
      refine tw_ceq (tgt := 51) hC hk gv7 gv8 dX2_isWord_46 (by decide) (fun _ hk => ?_) (fun _ hk => ?_)
      · refine tw_iinc (lv' := [(2, .int (tw_I (tm_wr (x2 + 1)))), (0, .ref this), (1, .ref (G.2.2.2.2.1 a1))]) hC dX2_isWord_51 hl (k := 2) rfl (by decide) rfl (fun ls hl => ?_)
        refine lv_goto (tgt := 20) hC.1 hC.2.1 dX2_isWord_54 (by decide) ?_
        cases hk
        exact ih _ out hf H locs _ ((tm_wr_rg _)) hR hL (lv_sub hl [1, 2, 0] rfl)
      · refine lv_iconst (v := tw_I 0) hC.1 hC.2.1 dX2_isWord_49 rfl ?_
        cases hk
        cases hf
        exact tw_zret hC hR hL rfl rfl dX2_isWord_50
    · refine lv_iconst (v := tw_I 1) hC.1 hC.2.1 dX2_isWord_57 rfl ?_
      cases hk
      cases hf
      exact tw_zret hC hR hL rfl rfl dX2_isWord_58
theorem sX2_isWord_L20 {l : Launch} {p : Program} {e : Env} {s : State} {m : MethodId} {args : Array Value} {below : List Frame} {meth : Method} {c : Code} (G : tw_G) (sz : Nat) (hC : tw_C G p s m args meth c RX2 cX2_isWord 3 (some .boolean)) (this : Nat) (a1 : Nat)  (h : tm_H) (x2 : Int) (gx2 : tm_rg x2) (out : Int) (hk : fX2_isWord_L20 this a1 h x2 = some out) (H : Heap) (locs : List Loc) (ls : Array Slot) (hR : tw_Rel G sz h H) (hL : tw_L G locs) (hl : lv_has ls 3 [(0, .ref this), (1, .ref (G.2.2.2.2.1 a1)), (2, .int (tw_I x2))]) : W p l e rmX2_isWord s m args below meth c H locs 0 0 (MQ below (tw_Qi G sz out h) args s 0 0 (tw_F G)) (F0 m 20 ls []) := by
  obtain ⟨k, hk⟩ := tm_wl_iff.mp hk
  exact sX2_isWord_S0 G sz hC this a1  h k ((x2)) out hk H locs ls gx2 hR hL hl
set_option maxRecDepth 100000 in
set_option maxHeartbeats 4000000 in
theorem cX2_isWord_ok (l : Launch) (G : tw_G) (sz : Nat) (this : Nat) (a1 : Nat)  (h : tm_H) (out : Int) (hk : fX2_isWord this a1 h = some out) : Met l yX2_isWord (tw_WS yX2_isWord cX2_isWord 3 (some .boolean)) rmX2_isWord (va_Pc [.ref this, .ref (G.2.2.2.2.1 a1)] (tw_Pre G sz h)) (tw_Qi G sz out h) 0 0 (tw_F G) := by
  refine tw_met (by decide +kernel) (Nat.le_of_ble_eq_true rfl) ?_
  intro p e s m args below meth c H ls hC hnm hR hl
  unfold fX2_isWord at hk
  obtain ⟨hob, hk⟩ := tm_th_is hk
  have hl : lv_has ls 3 [(0, .ref this), (1, .ref (G.2.2.2.2.1 a1))] := hl
  have hL : tw_L G [] := fun q z => by cases z
  generalize hlc : ([] : List Loc) = locs at hL ⊢
  refine lv_aload_n hC.1 hC.2.1 dX2_isWord_0 rfl (lv_at hl 0 rfl) ?_
  refine tw_getI hC hR hk flX2_35 dX2_isWord_1 (fun v1 gv1 hk => ?_)
  refine lv_aload_n hC.1 hC.2.1 dX2_isWord_4 rfl (lv_at hl 0 rfl) ?_
  refine tw_getI hC hR hk flX2_31 dX2_isWord_5 (fun v2 gv2 hk => ?_)
  refine tw_isub hC dX2_isWord_8 ?_
  refine lv_aload_n hC.1 hC.2.1 dX2_isWord_9 rfl (lv_at hl 1 rfl) ?_
  refine tw_slen hC hR hL hk mlX2_145 ⟨by decide, by decide⟩ hl.1 (Nat.le_of_ble_eq_true rfl) dX2_isWord_10 ⟨Nat.zero_le _, Nat.zero_le _⟩ (fun v3 H locs hR hL gv3 hk => ?_)
  refine tw_ceq (tgt := 18) hC hk ((tm_wr_rg _)) gv3 dX2_isWord_13 (by decide) (fun _ hk => ?_) (fun _ hk => ?_)
  · refine lv_iconst (v := tw_I 0) hC.1 hC.2.1 dX2_isWord_18 rfl ?_
    refine lv_istore_n (lv' := [(2, .int (tw_I 0)), (0, .ref this), (1, .ref (G.2.2.2.2.1 a1))]) hC.1 hC.2.1 dX2_isWord_19 rfl hl (by decide) rfl (fun ls hl => ?_)
    exact sX2_isWord_L20 G sz hC this a1 h 0 ((tw_rgL rfl)) out hk H locs _ hR hL (lv_sub hl [1, 2, 0] rfl)
  · refine lv_iconst (v := tw_I 0) hC.1 hC.2.1 dX2_isWord_16 rfl ?_
    cases hk
    exact tw_zret hC hR hL rfl rfl dX2_isWord_17
set_option maxRecDepth 100000 in
theorem kX2_isWord {l : Launch} {p : Program} {e : Env} {R : Room} {s : State} {m : MethodId} {args : Array Value} {below : List Frame} {meth : Method} {c : Code} {H : Heap} {locs : List Loc} {cells slots : Nat} {Q : State → Prop} {cc : ByteArray} {pc nL idx : Nat} {ls : Array Slot} {rest : List Value} {G : tw_G} {h : tm_H} {own : String} {ret : Option FieldType} {α : Type} {x : α} {sz : Nat} {this : Nat} {a1 : Nat} (hC : tw_C G p s m args meth c own cc nL ret) (hR : tw_Rel G sz h H) (hL : tw_L G locs) {F : Int → Option α} (hk : (fX2_isWord this a1 h).bind F = some x)  (hl : tw_mL own idx yX2_isWord) (hRm : rmX2_isWord.frames + 1 ≤ R.frames ∧ 8 + (3 + 11) + rmX2_isWord.locals ≤ R.locals) (hsz : ls.size = nL) (hW : (rest.map fun v => v.category).sum ≤ 8) (hf : cells + 0 ≤ R.cells ∧ slots + 0 ≤ R.slots) (hdg : decode cc pc = .ok (.invokevirtual idx, 3)) (kk : ∀ (r : Int) (H1 : Heap) (locs1 : List Loc), tw_Rel G sz h H1 → tw_L G locs1 → tm_rg r → F r = some x → W p l e R s m args below meth c H1 locs1 (cells + 0) (slots + 0) Q (F0 m (pc + 3) ls (.int (tw_I r) :: rest))) : W p l e R s m args below meth c H locs cells slots Q (F0 m pc ls (.ref (G.2.2.2.2.1 a1) :: .ref this :: rest)) := by
  obtain ⟨r, hr, hF⟩ := Option.bind_eq_some_iff.mp hk
  have ob : ∀ r, fX2_isWord this a1 h = some r → tm_is h 2 this := fun r hr => by
    unfold fX2_isWord at hr
    exact (tm_th_is hr).1
  exact tw_backi (tw_runV hC hR (cX2_isWord_ok l G sz this a1  h r hr) (n := 1) (As := [.ref (G.2.2.2.2.1 a1)]) ⟨tw_in_TB 574 (by decide +kernel) rfl, tw_in_TB 59 (by decide +kernel) rfl, by decide +kernel⟩ (tw_in_TB 573 (by decide +kernel) rfl) (tw_in_TB 8 (by decide +kernel) rfl) hl ⟨rfl, rfl⟩ hRm (ob r hr) (T := TX2) (N := 5) rfl rfl hsz rfl hW hdg hf) hL (fun H1 locs1 a b g => kk r H1 locs1 a b g hF)
def rmX2_pass : Room := { frames := 2, cells := 0, slots := 0, locals := 41 }
set_option maxRecDepth 100000 in
set_option maxHeartbeats 4000000 in
theorem cX2_pass_ok (l : Launch) (G : tw_G) (sz : Nat) (this : Nat) (a1 : Int) (ga1 : tm_rg a1) (h : tm_H) (out : Int × tm_H) (hk : fX2_pass this a1 h = some out) : Met l yX2_pass (tw_WS yX2_pass cX2_pass 2 (some .boolean)) rmX2_pass (va_Pc [.ref this, .int (tw_I a1)] (tw_Pre G sz h)) (tw_Qi G sz out.1 out.2) 0 0 (tw_F G) := by
  refine tw_met (by decide +kernel) (Nat.le_of_ble_eq_true rfl) ?_
  intro p e s m args below meth c H ls hC hnm hR hl
  unfold fX2_pass at hk
  obtain ⟨hob, hk⟩ := tm_th_is hk
  have hl : lv_has ls 2 [(0, .ref this), (1, .int (tw_I a1))] := hl
  have hL : tw_L G [] := fun q z => by cases z
  generalize hlc : ([] : List Loc) = locs at hL ⊢
  refine lv_aload_n hC.1 hC.2.1 dX2_pass_0 rfl (lv_at hl 0 rfl) ?_
  refine tw_getR hC hR hk flX2_12 dX2_pass_1 (fun r1 hk => ?_)
  refine lv_aload_n hC.1 hC.2.1 dX2_pass_4 rfl (lv_at hl 0 rfl) ?_
  refine tw_getI hC hR hk flX2_31 dX2_pass_5 (fun v2 gv2 hk => ?_)
  refine kX6_at hC hR hL hk gv2 mlX2_69 ⟨by decide, by decide⟩ hl.1 (Nat.le_of_ble_eq_true rfl) ⟨Nat.zero_le _, Nat.zero_le _⟩ dX2_pass_8 (fun v3 H locs hR hL gv3 hk => ?_)
  refine lv_iload_n hC.1 hC.2.1 dX2_pass_11 rfl (lv_at hl 1 rfl) ?_
  refine tw_ceq (tgt := 17) hC hk gv3 ga1 dX2_pass_12 (by decide) (fun _ hk => ?_) (fun _ hk => ?_)
  · refine lv_aload_n hC.1 hC.2.1 dX2_pass_17 rfl (lv_at hl 0 rfl) ?_
    refine kX2_step hC hR hL hk mlX2_42 ⟨by decide, by decide⟩ hl.1 (Nat.le_of_ble_eq_true rfl) ⟨Nat.zero_le _, Nat.zero_le _⟩ dX2_pass_18 (fun h4 H locs hR hL hk => ?_)
    refine lv_iconst (v := tw_I 1) hC.1 hC.2.1 dX2_pass_21 rfl ?_
    cases hk
    exact tw_zret hC hR hL rfl rfl dX2_pass_22
  · refine lv_iconst (v := tw_I 0) hC.1 hC.2.1 dX2_pass_15 rfl ?_
    cases hk
    exact tw_zret hC hR hL rfl rfl dX2_pass_16
set_option maxRecDepth 100000 in
theorem kX2_pass {l : Launch} {p : Program} {e : Env} {R : Room} {s : State} {m : MethodId} {args : Array Value} {below : List Frame} {meth : Method} {c : Code} {H : Heap} {locs : List Loc} {cells slots : Nat} {Q : State → Prop} {cc : ByteArray} {pc nL idx : Nat} {ls : Array Slot} {rest : List Value} {G : tw_G} {h : tm_H} {own : String} {ret : Option FieldType} {α : Type} {x : α} {sz : Nat} {this : Nat} {a1 : Int} (hC : tw_C G p s m args meth c own cc nL ret) (hR : tw_Rel G sz h H) (hL : tw_L G locs) {F : Int × tm_H → Option α} (hk : (fX2_pass this a1 h).bind F = some x) (ga1 : tm_rg a1) (hl : tw_mL own idx yX2_pass) (hRm : rmX2_pass.frames + 1 ≤ R.frames ∧ 8 + (2 + 11) + rmX2_pass.locals ≤ R.locals) (hsz : ls.size = nL) (hW : (rest.map fun v => v.category).sum ≤ 8) (hf : cells + 0 ≤ R.cells ∧ slots + 0 ≤ R.slots) (hdg : decode cc pc = .ok (.invokevirtual idx, 3)) (kk : ∀ (r : Int) (h1 : tm_H) (H1 : Heap) (locs1 : List Loc), tw_Rel G sz h1 H1 → tw_L G locs1 → tm_rg r → F (r, h1) = some x → W p l e R s m args below meth c H1 locs1 (cells + 0) (slots + 0) Q (F0 m (pc + 3) ls (.int (tw_I r) :: rest))) : W p l e R s m args below meth c H locs cells slots Q (F0 m pc ls (.int (tw_I a1) :: .ref this :: rest)) := by
  obtain ⟨r, hr, hF⟩ := Option.bind_eq_some_iff.mp hk
  have ob : ∀ r, fX2_pass this a1 h = some r → tm_is h 2 this := fun r hr => by
    unfold fX2_pass at hr
    exact (tm_th_is hr).1
  exact tw_backi (tw_runV hC hR (cX2_pass_ok l G sz this a1 ga1 h r hr) (n := 1) (As := [.int (tw_I a1)]) ⟨tw_in_TB 631 (by decide +kernel) rfl, tw_in_TB 59 (by decide +kernel) rfl, by decide +kernel⟩ (tw_in_TB 630 (by decide +kernel) rfl) (tw_in_TB 10 (by decide +kernel) rfl) hl ⟨rfl, rfl⟩ hRm (ob r hr) (T := TX2) (N := 5) rfl rfl hsz rfl hW hdg hf) hL (fun H1 locs1 a b g => kk r.1 r.2 H1 locs1 a b g hF)
def rmX2_isRun : Room := { frames := 1, cells := 0, slots := 0, locals := 21 }
set_option maxRecDepth 100000 in
set_option maxHeartbeats 4000000 in
theorem cX2_isRun_ok (l : Launch) (G : tw_G) (sz : Nat) (this : Nat)  (h : tm_H) (out : Int) (hk : fX2_isRun this h = some out) : Met l yX2_isRun (tw_WS yX2_isRun cX2_isRun 1 (some .boolean)) rmX2_isRun (va_Pc [.ref this] (tw_Pre G sz h)) (tw_Qi G sz out h) 0 0 (tw_F G) := by
  refine tw_met (by decide +kernel) (Nat.le_of_ble_eq_true rfl) ?_
  intro p e s m args below meth c H ls hC hnm hR hl
  unfold fX2_isRun at hk
  obtain ⟨hob, hk⟩ := tm_th_is hk
  have hl : lv_has ls 1 [(0, .ref this)] := hl
  have hL : tw_L G [] := fun q z => by cases z
  generalize hlc : ([] : List Loc) = locs at hL ⊢
  refine lv_aload_n hC.1 hC.2.1 dX2_isRun_0 rfl (lv_at hl 0 rfl) ?_
  refine tw_getR hC hR hk flX2_12 dX2_isRun_1 (fun r1 hk => ?_)
  refine lv_aload_n hC.1 hC.2.1 dX2_isRun_4 rfl (lv_at hl 0 rfl) ?_
  refine tw_getI hC hR hk flX2_31 dX2_isRun_5 (fun v2 gv2 hk => ?_)
  refine kX6_at hC hR hL hk gv2 mlX2_69 ⟨by decide, by decide⟩ hl.1 (Nat.le_of_ble_eq_true rfl) ⟨Nat.zero_le _, Nat.zero_le _⟩ dX2_isRun_8 (fun v3 H locs hR hL gv3 hk => ?_)
  refine kX2_isLetter hC hR hL hk gv3 mlX2_142 ⟨by decide, by decide⟩ hl.1 (Nat.le_of_ble_eq_true rfl) ⟨Nat.zero_le _, Nat.zero_le _⟩ dX2_isRun_11 (fun v4 H locs hR hL gv4 hk => ?_)
  obtain ⟨z, hz, hk⟩ := Option.bind_eq_some_iff.mp hk
  cases hk
  exact tw_zret hC hR hL hz rfl dX2_isRun_14
set_option maxRecDepth 100000 in
theorem kX2_isRun {l : Launch} {p : Program} {e : Env} {R : Room} {s : State} {m : MethodId} {args : Array Value} {below : List Frame} {meth : Method} {c : Code} {H : Heap} {locs : List Loc} {cells slots : Nat} {Q : State → Prop} {cc : ByteArray} {pc nL idx : Nat} {ls : Array Slot} {rest : List Value} {G : tw_G} {h : tm_H} {own : String} {ret : Option FieldType} {α : Type} {x : α} {sz : Nat} {this : Nat} (hC : tw_C G p s m args meth c own cc nL ret) (hR : tw_Rel G sz h H) (hL : tw_L G locs) {F : Int → Option α} (hk : (fX2_isRun this h).bind F = some x)  (hl : tw_mL own idx yX2_isRun) (hRm : rmX2_isRun.frames + 1 ≤ R.frames ∧ 8 + (1 + 11) + rmX2_isRun.locals ≤ R.locals) (hsz : ls.size = nL) (hW : (rest.map fun v => v.category).sum ≤ 8) (hf : cells + 0 ≤ R.cells ∧ slots + 0 ≤ R.slots) (hdg : decode cc pc = .ok (.invokevirtual idx, 3)) (kk : ∀ (r : Int) (H1 : Heap) (locs1 : List Loc), tw_Rel G sz h H1 → tw_L G locs1 → tm_rg r → F r = some x → W p l e R s m args below meth c H1 locs1 (cells + 0) (slots + 0) Q (F0 m (pc + 3) ls (.int (tw_I r) :: rest))) : W p l e R s m args below meth c H locs cells slots Q (F0 m pc ls (.ref this :: rest)) := by
  obtain ⟨r, hr, hF⟩ := Option.bind_eq_some_iff.mp hk
  have ob : ∀ r, fX2_isRun this h = some r → tm_is h 2 this := fun r hr => by
    unfold fX2_isRun at hr
    exact (tm_th_is hr).1
  exact tw_backi (tw_runV hC hR (cX2_isRun_ok l G sz this  h r hr) (n := 0) (As := []) ⟨tw_in_TB 639 (by decide +kernel) rfl, tw_in_TB 59 (by decide +kernel) rfl, by decide +kernel⟩ (tw_in_TB 638 (by decide +kernel) rfl) (tw_in_TB 11 (by decide +kernel) rfl) hl ⟨rfl, rfl⟩ hRm (ob r hr) (T := TX2) (N := 5) rfl rfl hsz rfl hW hdg hf) hL (fun H1 locs1 a b g => kk r H1 locs1 a b g hF)
def rmX7_spell : Room := { frames := 0, cells := 0, slots := 0, locals := 0 }
set_option maxRecDepth 100000 in
set_option maxHeartbeats 4000000 in
theorem cX7_spell_ok (l : Launch) (G : tw_G) (sz : Nat) (a1 : Int64) (a2 : Int) (a3 : Int) (ga2 : tm_rg a2) (ga3 : tm_rg a3) (h : tm_H) (out : Int64) (hk : fX7_spell a1 a2 a3 h = some out) : Met l yX7_spell (tw_WS yX7_spell cX7_spell 4 (some .long)) rmX7_spell (va_Pc [.long a1, .int (tw_I a2), .int (tw_I a3)] (tw_Pre G sz h)) (tw_Ql G sz out h) 0 0 (tw_F G) := by
  refine tw_met (by decide +kernel) (Nat.le_of_ble_eq_true rfl) ?_
  intro p e s m args below meth c H ls hC hnm hR hl
  unfold fX7_spell at hk
  have hl : lv_has ls 4 [(0, .long a1), (2, .int (tw_I a2)), (3, .int (tw_I a3))] := hl
  have hL : tw_L G [] := fun q z => by cases z
  generalize hlc : ([] : List Loc) = locs at hL ⊢
  refine lv_lload_n hC.1 hC.2.1 dX7_spell_0 rfl (lv_at hl 0 rfl) ?_
  refine lv_iload_n hC.1 hC.2.1 dX7_spell_1 rfl (lv_at hl 2 rfl) ?_
  refine tw_i2l hC dX7_spell_2 ?_
  refine lv_iload_n hC.1 hC.2.1 dX7_spell_3 rfl (lv_at hl 1 rfl) ?_
  refine lv_bipush (v := tw_I 8) hC.1 hC.2.1 dX7_spell_4 (by decide) ?_
  refine tw_imul hC dX7_spell_6 ?_
  refine tw_lshl hC dX7_spell_7 ?_
  refine lv_lor hC.1 hC.2.1 dX7_spell_8 ?_
  cases hk
  exact tw_lret hC hR hL rfl rfl dX7_spell_9
set_option maxRecDepth 100000 in
theorem kX7_spell {l : Launch} {p : Program} {e : Env} {R : Room} {s : State} {m : MethodId} {args : Array Value} {below : List Frame} {meth : Method} {c : Code} {H : Heap} {locs : List Loc} {cells slots : Nat} {Q : State → Prop} {cc : ByteArray} {pc nL idx : Nat} {ls : Array Slot} {rest : List Value} {G : tw_G} {h : tm_H} {own : String} {ret : Option FieldType} {α : Type} {x : α} {sz : Nat} {a1 : Int64} {a2 : Int} {a3 : Int} (hC : tw_C G p s m args meth c own cc nL ret) (hR : tw_Rel G sz h H) (hL : tw_L G locs) {F : Int64 → Option α} (hk : (fX7_spell a1 a2 a3 h).bind F = some x) (ga2 : tm_rg a2) (ga3 : tm_rg a3) (hl : tw_mL own idx yX7_spell) (hRm : rmX7_spell.frames + 1 ≤ R.frames ∧ 8 + (4 + 11) + rmX7_spell.locals ≤ R.locals) (hsz : ls.size = nL) (hW : (rest.map fun v => v.category).sum ≤ 8) (hf : cells + 0 ≤ R.cells ∧ slots + 0 ≤ R.slots) (hdg : decode cc pc = .ok (.invokestatic idx, 3)) (kk : ∀ (r : Int64) (H1 : Heap) (locs1 : List Loc), tw_Rel G sz h H1 → tw_L G locs1 → F r = some x → W p l e R s m args below meth c H1 locs1 (cells + 0) (slots + 0) Q (F0 m (pc + 3) ls (.long r :: rest))) : W p l e R s m args below meth c H locs cells slots Q (F0 m pc ls (.int (tw_I a3) :: .int (tw_I a2) :: .long a1 :: rest)) := by
  obtain ⟨r, hr, hF⟩ := Option.bind_eq_some_iff.mp hk
  exact tw_backl (tw_runS hC hR (cX7_spell_ok l G sz a1 a2 a3 ga2 ga3 h r hr) (n := 3) ⟨tw_in_TB 646 (by decide +kernel) rfl, tw_in_TB 55 (by decide +kernel) rfl, by decide +kernel⟩ (tw_in_TB 645 (by decide +kernel) rfl) hl ⟨rfl, rfl⟩ hRm rfl hsz rfl hW hdg hf) hL (fun H1 locs1 a b => kk r H1 locs1 a b hF)
def rmX7_find : Room := { frames := 0, cells := 0, slots := 0, locals := 0 }
set_option maxRecDepth 100000 in
set_option maxHeartbeats 4000000 in
theorem sX7_find_S0 {l : Launch} {p : Program} {e : Env} {s : State} {m : MethodId} {args : Array Value} {below : List Frame} {meth : Method} {c : Code} (G : tw_G) (sz : Nat) (hC : tw_C G p s m args meth c RX7 cX7_find 4 (some .int)) (this : Nat) (a1 : Int64)  (h : tm_H) : ∀ (k : Nat) (st : (Int)) (out : Int), tm_wit (fX7_find_S0 this a1 h) k st = some out → match st with
    | (x3) => ∀ (H : Heap) (locs : List Loc) (ls : Array Slot), tm_rg x3 → tw_Rel G sz h H → tw_L G locs → lv_has ls 4 [(0, .ref this), (1, .long a1), (3, .int (tw_I x3))] → W p l e rmX7_find s m args below meth c H locs 0 0 (MQ below (tw_Qi G sz out h) args s 0 0 (tw_F G)) (F0 m 2 ls []) := by
  intro k
  induction k with
  | zero =>
    intro st out hk
    exact absurd hk (by unfold tm_wit; exact fun z => by cases z)
  | succ k ih =>
    intro x3 out hk
    obtain ⟨X, hk, hf⟩ := tm_wit_succ hk
    intro H locs ls gx3 hR hL hl
    dsimp only [fX7_find_S0] at hk
    refine lv_iload_n hC.1 hC.2.1 dX7_find_2 rfl (lv_at hl 2 rfl) ?_
    refine lv_aload_n hC.1 hC.2.1 dX7_find_3 rfl (lv_at hl 0 rfl) ?_
    refine tw_getI hC hR hk flX7_19 dX7_find_4 (fun v1 gv1 hk => ?_)
    refine tw_cge (tgt := 29) hC hk gx3 gv1 dX7_find_7 (by decide) (fun _ hk => ?_) (fun _ hk => ?_)
    · refine lv_aload_n hC.1 hC.2.1 dX7_find_10 rfl (lv_at hl 0 rfl) ?_
      refine tw_getR hC hR hk flX7_11 dX7_find_11 (fun r2 hk => ?_)
      refine lv_iload_n hC.1 hC.2.1 dX7_find_14 rfl (lv_at hl 2 rfl) ?_
      refine tw_lald hC hR hk dX7_find_15 (fun j3 hk => ?_)
      refine lv_lload_n hC.1 hC.2.1 dX7_find_16 rfl (lv_at hl 1 rfl) ?_
      refine tw_lcmp hC dX7_find_17 ?_
      refine tw_zne (tgt := 23) hC hk ((tm_lcmp_rg _ _)) dX7_find_18 (by decide) (fun _ hk => ?_) (fun _ hk => ?_)
      · refine lv_iload_n hC.1 hC.2.1 dX7_find_21 rfl (lv_at hl 2 rfl) ?_
        cases hk
        cases hf
        exact tw_iret hC hR hL gx3 rfl rfl dX7_find_22
      · refine tw_iinc (lv' := [(3, .int (tw_I (tm_wr (x3 + 1)))), (0, .ref this), (1, .long a1)]) hC dX7_find_23 hl (k := 2) rfl (by decide) rfl (fun ls hl => ?_)
        refine lv_goto (tgt := 2) hC.1 hC.2.1 dX7_find_26 (by decide) ?_
        cases hk
        exact ih _ out hf H locs _ ((tm_wr_rg _)) hR hL (lv_sub hl [1, 2, 0] rfl)
    · refine lv_bipush (v := tw_I (-99)) hC.1 hC.2.1 dX7_find_29 (by decide) ?_
      cases hk
      cases hf
      exact tw_iret hC hR hL ((tw_rgL rfl)) rfl rfl dX7_find_31
theorem sX7_find_L2 {l : Launch} {p : Program} {e : Env} {s : State} {m : MethodId} {args : Array Value} {below : List Frame} {meth : Method} {c : Code} (G : tw_G) (sz : Nat) (hC : tw_C G p s m args meth c RX7 cX7_find 4 (some .int)) (this : Nat) (a1 : Int64)  (h : tm_H) (x3 : Int) (gx3 : tm_rg x3) (out : Int) (hk : fX7_find_L2 this a1 h x3 = some out) (H : Heap) (locs : List Loc) (ls : Array Slot) (hR : tw_Rel G sz h H) (hL : tw_L G locs) (hl : lv_has ls 4 [(0, .ref this), (1, .long a1), (3, .int (tw_I x3))]) : W p l e rmX7_find s m args below meth c H locs 0 0 (MQ below (tw_Qi G sz out h) args s 0 0 (tw_F G)) (F0 m 2 ls []) := by
  obtain ⟨k, hk⟩ := tm_wl_iff.mp hk
  exact sX7_find_S0 G sz hC this a1  h k ((x3)) out hk H locs ls gx3 hR hL hl
set_option maxRecDepth 100000 in
set_option maxHeartbeats 4000000 in
theorem cX7_find_ok (l : Launch) (G : tw_G) (sz : Nat) (this : Nat) (a1 : Int64)  (h : tm_H) (out : Int) (hk : fX7_find this a1 h = some out) : Met l yX7_find (tw_WS yX7_find cX7_find 4 (some .int)) rmX7_find (va_Pc [.ref this, .long a1] (tw_Pre G sz h)) (tw_Qi G sz out h) 0 0 (tw_F G) := by
  refine tw_met (by decide +kernel) (Nat.le_of_ble_eq_true rfl) ?_
  intro p e s m args below meth c H ls hC hnm hR hl
  unfold fX7_find at hk
  obtain ⟨hob, hk⟩ := tm_th_is hk
  have hl : lv_has ls 4 [(0, .ref this), (1, .long a1)] := hl
  have hL : tw_L G [] := fun q z => by cases z
  generalize hlc : ([] : List Loc) = locs at hL ⊢
  refine lv_iconst (v := tw_I 0) hC.1 hC.2.1 dX7_find_0 rfl ?_
  refine lv_istore_n (lv' := [(3, .int (tw_I 0)), (0, .ref this), (1, .long a1)]) hC.1 hC.2.1 dX7_find_1 rfl hl (by decide) rfl (fun ls hl => ?_)
  exact sX7_find_L2 G sz hC this a1 h 0 ((tw_rgL rfl)) out hk H locs _ hR hL (lv_sub hl [1, 2, 0] rfl)
set_option maxRecDepth 100000 in
theorem kX7_find {l : Launch} {p : Program} {e : Env} {R : Room} {s : State} {m : MethodId} {args : Array Value} {below : List Frame} {meth : Method} {c : Code} {H : Heap} {locs : List Loc} {cells slots : Nat} {Q : State → Prop} {cc : ByteArray} {pc nL idx : Nat} {ls : Array Slot} {rest : List Value} {G : tw_G} {h : tm_H} {own : String} {ret : Option FieldType} {α : Type} {x : α} {sz : Nat} {this : Nat} {a1 : Int64} (hC : tw_C G p s m args meth c own cc nL ret) (hR : tw_Rel G sz h H) (hL : tw_L G locs) {F : Int → Option α} (hk : (fX7_find this a1 h).bind F = some x)  (hl : tw_mL own idx yX7_find) (hRm : rmX7_find.frames + 1 ≤ R.frames ∧ 8 + (4 + 11) + rmX7_find.locals ≤ R.locals) (hsz : ls.size = nL) (hW : (rest.map fun v => v.category).sum ≤ 8) (hf : cells + 0 ≤ R.cells ∧ slots + 0 ≤ R.slots) (hdg : decode cc pc = .ok (.invokevirtual idx, 3)) (kk : ∀ (r : Int) (H1 : Heap) (locs1 : List Loc), tw_Rel G sz h H1 → tw_L G locs1 → tm_rg r → F r = some x → W p l e R s m args below meth c H1 locs1 (cells + 0) (slots + 0) Q (F0 m (pc + 3) ls (.int (tw_I r) :: rest))) : W p l e R s m args below meth c H locs cells slots Q (F0 m pc ls (.long a1 :: .ref this :: rest)) := by
  obtain ⟨r, hr, hF⟩ := Option.bind_eq_some_iff.mp hk
  have ob : ∀ r, fX7_find this a1 h = some r → tm_is h 7 this := fun r hr => by
    unfold fX7_find at hr
    exact (tm_th_is hr).1
  exact tw_backi (tw_runV hC hR (cX7_find_ok l G sz this a1  h r hr) (n := 1) (As := [.long a1]) ⟨tw_in_TB 650 (by decide +kernel) rfl, tw_in_TB 55 (by decide +kernel) rfl, by decide +kernel⟩ (tw_in_TB 648 (by decide +kernel) rfl) (tw_in_TB 649 (by decide +kernel) rfl) hl ⟨rfl, rfl⟩ hRm (ob r hr) (T := TX7) (N := 3) rfl rfl hsz rfl hW hdg hf) hL (fun H1 locs1 a b g => kk r H1 locs1 a b g hF)
def rmX2_readWord : Room := { frames := 2, cells := 0, slots := 0, locals := 41 }
set_option maxRecDepth 100000 in
set_option maxHeartbeats 4000000 in
theorem sX2_readWord_L94 {l : Launch} {p : Program} {e : Env} {s : State} {m : MethodId} {args : Array Value} {below : List Frame} {meth : Method} {c : Code} (G : tw_G) (sz : Nat) (hC : tw_C G p s m args meth c RX2 cX2_readWord 4 (some .int)) (this : Nat)  (x3 : Int) (h : tm_H) (gx3 : tm_rg x3) (out : Int × tm_H) (hk : fX2_readWord_L94 this x3 h = some out) (H : Heap) (locs : List Loc) (ls : Array Slot) (hR : tw_Rel G sz h H) (hL : tw_L G locs) (hl : lv_has ls 4 [(0, .ref this), (3, .int (tw_I x3))]) : W p l e rmX2_readWord s m args below meth c H locs 0 0 (MQ below (tw_Qi G sz out.1 out.2) args s 0 0 (tw_F G)) (F0 m 94 ls []) := by
  unfold fX2_readWord_L94 at hk
  refine lv_iload_n hC.1 hC.2.1 dX2_readWord_94 rfl (lv_at hl 1 rfl) ?_
  refine lv_bipush (v := tw_I (-99)) hC.1 hC.2.1 dX2_readWord_95 (by decide) ?_
  refine tw_ceq (tgt := 104) hC hk gx3 ((tw_rgL rfl)) dX2_readWord_97 (by decide) (fun _ hk => ?_) (fun _ hk => ?_)
  · refine lv_iload_n hC.1 hC.2.1 dX2_readWord_104 rfl (lv_at hl 1 rfl) ?_
    cases hk
    exact tw_iret hC hR hL gx3 rfl rfl dX2_readWord_105
  · refine lv_aload_n hC.1 hC.2.1 dX2_readWord_100 rfl (lv_at hl 0 rfl) ?_
    refine kX2_step hC hR hL hk mlX2_42 ⟨by decide, by decide⟩ hl.1 (Nat.le_of_ble_eq_true rfl) ⟨Nat.zero_le _, Nat.zero_le _⟩ dX2_readWord_101 (fun h16 H locs hR hL hk => ?_)
    refine lv_iload_n hC.1 hC.2.1 dX2_readWord_104 rfl (lv_at hl 1 rfl) ?_
    cases hk
    exact tw_iret hC hR hL gx3 rfl rfl dX2_readWord_105
set_option maxRecDepth 100000 in
set_option maxHeartbeats 4000000 in
theorem sX2_readWord_S1 {l : Launch} {p : Program} {e : Env} {s : State} {m : MethodId} {args : Array Value} {below : List Frame} {meth : Method} {c : Code} (G : tw_G) (sz : Nat) (hC : tw_C G p s m args meth c RX2 cX2_readWord 4 (some .int)) (this : Nat)  : ∀ (k : Nat) (st : (Int64 × Int × tm_H)) (out : Int × tm_H), tm_wit (fX2_readWord_S1 this) k st = some out → match st with
    | (x1, x3, h) => ∀ (H : Heap) (locs : List Loc) (ls : Array Slot), tm_rg x3 → tw_Rel G sz h H → tw_L G locs → lv_has ls 4 [(0, .ref this), (1, .long x1), (3, .int (tw_I x3))] → W p l e rmX2_readWord s m args below meth c H locs 0 0 (MQ below (tw_Qi G sz out.1 out.2) args s 0 0 (tw_F G)) (F0 m 31 ls []) := by
  intro k
  induction k with
  | zero =>
    intro st out hk
    exact absurd hk (by unfold tm_wit; exact fun z => by cases z)
  | succ k ih =>
    intro st out hk
    obtain ⟨X, hk, hf⟩ := tm_wit_succ hk
    obtain ⟨x1, x3, h⟩ := st
    intro H locs ls gx3 hR hL hl
    dsimp only [fX2_readWord_S1] at hk
    refine lv_iload_n hC.1 hC.2.1 dX2_readWord_31 rfl (lv_at hl 2 rfl) ?_
    refine lv_aload_n hC.1 hC.2.1 dX2_readWord_32 rfl (lv_at hl 0 rfl) ?_
    refine tw_getI hC hR hk flX2_35 dX2_readWord_33 (fun v5 gv5 hk => ?_)
    refine tw_cge (tgt := 64) hC hk gx3 gv5 dX2_readWord_36 (by decide) (fun _ hk => ?_) (fun _ hk => ?_)
    · refine lv_lload_n hC.1 hC.2.1 dX2_readWord_39 rfl (lv_at hl 1 rfl) ?_
      refine lv_iload_n hC.1 hC.2.1 dX2_readWord_40 rfl (lv_at hl 2 rfl) ?_
      refine lv_aload_n hC.1 hC.2.1 dX2_readWord_41 rfl (lv_at hl 0 rfl) ?_
      refine tw_getI hC hR hk flX2_31 dX2_readWord_42 (fun v6 gv6 hk => ?_)
      refine tw_isub hC dX2_readWord_45 ?_
      refine lv_aload_n hC.1 hC.2.1 dX2_readWord_46 rfl (lv_at hl 0 rfl) ?_
      refine tw_getR hC hR hk flX2_12 dX2_readWord_47 (fun r7 hk => ?_)
      refine lv_iload_n hC.1 hC.2.1 dX2_readWord_50 rfl (lv_at hl 2 rfl) ?_
      refine kX6_at hC hR hL hk gx3 mlX2_69 ⟨by decide, by decide⟩ hl.1 (Nat.le_of_ble_eq_true rfl) ⟨Nat.zero_le _, Nat.zero_le _⟩ dX2_readWord_51 (fun v8 H locs hR hL gv8 hk => ?_)
      refine kX7_spell hC hR hL hk ((tm_wr_rg _)) gv8 mlX2_132 ⟨by decide, by decide⟩ hl.1 (Nat.le_of_ble_eq_true rfl) ⟨Nat.zero_le _, Nat.zero_le _⟩ dX2_readWord_54 (fun v9 H locs hR hL hk => ?_)
      refine lv_lstore_n (lv' := [(1, .long v9), (0, .ref this), (3, .int (tw_I x3))]) hC.1 hC.2.1 dX2_readWord_57 rfl hl (by decide) rfl (fun ls hl => ?_)
      refine tw_iinc (lv' := [(3, .int (tw_I (tm_wr (x3 + 1)))), (1, .long v9), (0, .ref this)]) hC dX2_readWord_58 hl (k := 2) rfl (by decide) rfl (fun ls hl => ?_)
      refine lv_goto (tgt := 31) hC.1 hC.2.1 dX2_readWord_61 (by decide) ?_
      cases hk
      exact ih _ out hf H locs _ ((tm_wr_rg _)) hR hL (lv_sub hl [2, 1, 0] rfl)
    · refine lv_aload_n hC.1 hC.2.1 dX2_readWord_64 rfl (lv_at hl 0 rfl) ?_
      refine tw_getR hC hR hk flX2_21 dX2_readWord_65 (fun r10 hk => ?_)
      refine tw_getR hC hR hk flX2_107 dX2_readWord_68 (fun r11 hk => ?_)
      refine lv_lload_n hC.1 hC.2.1 dX2_readWord_71 rfl (lv_at hl 1 rfl) ?_
      refine kX7_find hC hR hL hk mlX2_136 ⟨by decide, by decide⟩ hl.1 (Nat.le_of_ble_eq_true rfl) ⟨Nat.zero_le _, Nat.zero_le _⟩ dX2_readWord_72 (fun v12 H locs hR hL gv12 hk => ?_)
      refine lv_istore_n (lv' := [(3, .int (tw_I v12)), (0, .ref this), (1, .long x1)]) hC.1 hC.2.1 dX2_readWord_75 rfl hl (by decide) rfl (fun ls hl => ?_)
      refine lv_iload_n hC.1 hC.2.1 dX2_readWord_76 rfl (lv_at hl 0 rfl) ?_
      refine lv_bipush (v := tw_I (-99)) hC.1 hC.2.1 dX2_readWord_77 (by decide) ?_
      refine tw_cne (tgt := 94) hC hk gv12 ((tw_rgL rfl)) dX2_readWord_79 (by decide) (fun _ hk => ?_) (fun _ hk => ?_)
      · refine lv_aload_n hC.1 hC.2.1 dX2_readWord_82 rfl (lv_at hl 1 rfl) ?_
        refine tw_getR hC hR hk flX2_21 dX2_readWord_83 (fun r13 hk => ?_)
        refine tw_getR hC hR hk flX2_107 dX2_readWord_86 (fun r14 hk => ?_)
        refine lv_lload_n hC.1 hC.2.1 dX2_readWord_89 rfl (lv_at hl 2 rfl) ?_
        refine kX7_add hC hR hL hk mlX2_140 ⟨by decide, by decide⟩ hl.1 (Nat.le_of_ble_eq_true rfl) ⟨Nat.zero_le _, Nat.zero_le _⟩ dX2_readWord_90 (fun v15 h15 H locs hR hL gv15 hk => ?_)
        refine lv_istore_n (lv' := [(3, .int (tw_I v15)), (0, .ref this), (1, .long x1)]) hC.1 hC.2.1 dX2_readWord_93 rfl hl (by decide) rfl (fun ls hl => ?_)
        obtain ⟨r, hk2, hX⟩ := tm_out_some hk
        rw [hX] at hf
        have hr : r = out := Option.some.inj hf
        rw [hr] at hk2
        exact sX2_readWord_L94 G sz hC this v15 h15 gv15 out hk2 H locs _ hR hL (lv_sub hl [1, 0] rfl)
      · obtain ⟨r, hk2, hX⟩ := tm_out_some hk
        rw [hX] at hf
        have hr : r = out := Option.some.inj hf
        rw [hr] at hk2
        exact sX2_readWord_L94 G sz hC this v12 h gv12 out hk2 H locs _ hR hL (lv_sub hl [1, 0] rfl)
theorem sX2_readWord_L31 {l : Launch} {p : Program} {e : Env} {s : State} {m : MethodId} {args : Array Value} {below : List Frame} {meth : Method} {c : Code} (G : tw_G) (sz : Nat) (hC : tw_C G p s m args meth c RX2 cX2_readWord 4 (some .int)) (this : Nat)  (x1 : Int64) (x3 : Int) (h : tm_H) (gx3 : tm_rg x3) (out : Int × tm_H) (hk : fX2_readWord_L31 this x1 x3 h = some out) (H : Heap) (locs : List Loc) (ls : Array Slot) (hR : tw_Rel G sz h H) (hL : tw_L G locs) (hl : lv_has ls 4 [(0, .ref this), (1, .long x1), (3, .int (tw_I x3))]) : W p l e rmX2_readWord s m args below meth c H locs 0 0 (MQ below (tw_Qi G sz out.1 out.2) args s 0 0 (tw_F G)) (F0 m 31 ls []) := by
  obtain ⟨k, hk⟩ := tm_wl_iff.mp hk
  exact sX2_readWord_S1 G sz hC this  k ((x1, x3, h)) out hk H locs ls gx3 hR hL hl
set_option maxRecDepth 100000 in
set_option maxHeartbeats 4000000 in
theorem cX2_readWord_ok (l : Launch) (G : tw_G) (sz : Nat) (this : Nat)  (h : tm_H) (out : Int × tm_H) (hk : fX2_readWord this h = some out) : Met l yX2_readWord (tw_WS yX2_readWord cX2_readWord 4 (some .int)) rmX2_readWord (va_Pc [.ref this] (tw_Pre G sz h)) (tw_Qi G sz out.1 out.2) 0 0 (tw_F G) := by
  refine tw_met (by decide +kernel) (Nat.le_of_ble_eq_true rfl) ?_
  intro p e s m args below meth c H ls hC hnm hR hl
  unfold fX2_readWord at hk
  obtain ⟨hob, hk⟩ := tm_th_is hk
  have hl : lv_has ls 4 [(0, .ref this)] := hl
  have hL : tw_L G [] := fun q z => by cases z
  generalize hlc : ([] : List Loc) = locs at hL ⊢
  refine lv_aload_n hC.1 hC.2.1 dX2_readWord_0 rfl (lv_at hl 0 rfl) ?_
  refine kX2_isRun hC hR hL hk mlX2_90 ⟨by decide, by decide⟩ hl.1 (Nat.le_of_ble_eq_true rfl) ⟨Nat.zero_le _, Nat.zero_le _⟩ dX2_readWord_1 (fun v1 H locs hR hL gv1 hk => ?_)
  refine tw_zeq (tgt := 21) hC hk gv1 dX2_readWord_4 (by decide) (fun _ hk => ?_) (fun _ hk => ?_)
  · refine lv_bipush (v := tw_I (-99)) hC.1 hC.2.1 dX2_readWord_21 (by decide) ?_
    cases hk
    exact tw_iret hC hR hL ((tw_rgL rfl)) rfl rfl dX2_readWord_23
  · refine lv_aload_n hC.1 hC.2.1 dX2_readWord_7 rfl (lv_at hl 0 rfl) ?_
    refine tw_getI hC hR hk flX2_35 dX2_readWord_8 (fun v2 gv2 hk => ?_)
    refine lv_aload_n hC.1 hC.2.1 dX2_readWord_11 rfl (lv_at hl 0 rfl) ?_
    refine tw_getI hC hR hk flX2_31 dX2_readWord_12 (fun v3 gv3 hk => ?_)
    refine tw_isub hC dX2_readWord_15 ?_
    refine lv_bipush (v := tw_I 8) hC.1 hC.2.1 dX2_readWord_16 (by decide) ?_
    refine tw_cle (tgt := 24) hC hk ((tm_wr_rg _)) ((tw_rgL rfl)) dX2_readWord_18 (by decide) (fun _ hk => ?_) (fun _ hk => ?_)
    · refine lv_bipush (v := tw_I (-99)) hC.1 hC.2.1 dX2_readWord_21 (by decide) ?_
      cases hk
      exact tw_iret hC hR hL ((tw_rgL rfl)) rfl rfl dX2_readWord_23
    · refine lv_lconst (v := 0) hC.1 hC.2.1 dX2_readWord_24 rfl ?_
      refine lv_lstore_n (lv' := [(1, .long 0), (0, .ref this)]) hC.1 hC.2.1 dX2_readWord_25 rfl hl (by decide) rfl (fun ls hl => ?_)
      refine lv_aload_n hC.1 hC.2.1 dX2_readWord_26 rfl (lv_at hl 1 rfl) ?_
      refine tw_getI hC hR hk flX2_31 dX2_readWord_27 (fun v4 gv4 hk => ?_)
      refine lv_istore_n (lv' := [(3, .int (tw_I v4)), (1, .long 0), (0, .ref this)]) hC.1 hC.2.1 dX2_readWord_30 rfl hl (by decide) rfl (fun ls hl => ?_)
      exact sX2_readWord_L31 G sz hC this 0 v4 h gv4 out hk H locs _ hR hL (lv_sub hl [2, 1, 0] rfl)
set_option maxRecDepth 100000 in
theorem kX2_readWord {l : Launch} {p : Program} {e : Env} {R : Room} {s : State} {m : MethodId} {args : Array Value} {below : List Frame} {meth : Method} {c : Code} {H : Heap} {locs : List Loc} {cells slots : Nat} {Q : State → Prop} {cc : ByteArray} {pc nL idx : Nat} {ls : Array Slot} {rest : List Value} {G : tw_G} {h : tm_H} {own : String} {ret : Option FieldType} {α : Type} {x : α} {sz : Nat} {this : Nat} (hC : tw_C G p s m args meth c own cc nL ret) (hR : tw_Rel G sz h H) (hL : tw_L G locs) {F : Int × tm_H → Option α} (hk : (fX2_readWord this h).bind F = some x)  (hl : tw_mL own idx yX2_readWord) (hRm : rmX2_readWord.frames + 1 ≤ R.frames ∧ 8 + (4 + 11) + rmX2_readWord.locals ≤ R.locals) (hsz : ls.size = nL) (hW : (rest.map fun v => v.category).sum ≤ 8) (hf : cells + 0 ≤ R.cells ∧ slots + 0 ≤ R.slots) (hdg : decode cc pc = .ok (.invokevirtual idx, 3)) (kk : ∀ (r : Int) (h1 : tm_H) (H1 : Heap) (locs1 : List Loc), tw_Rel G sz h1 H1 → tw_L G locs1 → tm_rg r → F (r, h1) = some x → W p l e R s m args below meth c H1 locs1 (cells + 0) (slots + 0) Q (F0 m (pc + 3) ls (.int (tw_I r) :: rest))) : W p l e R s m args below meth c H locs cells slots Q (F0 m pc ls (.ref this :: rest)) := by
  obtain ⟨r, hr, hF⟩ := Option.bind_eq_some_iff.mp hk
  have ob : ∀ r, fX2_readWord this h = some r → tm_is h 2 this := fun r hr => by
    unfold fX2_readWord at hr
    exact (tm_th_is hr).1
  exact tw_backi (tw_runV hC hR (cX2_readWord_ok l G sz this  h r hr) (n := 0) (As := []) ⟨tw_in_TB 643 (by decide +kernel) rfl, tw_in_TB 59 (by decide +kernel) rfl, by decide +kernel⟩ (tw_in_TB 642 (by decide +kernel) rfl) (tw_in_TB 12 (by decide +kernel) rfl) hl ⟨rfl, rfl⟩ hRm (ob r hr) (T := TX2) (N := 5) rfl rfl hsz rfl hW hdg hf) hL (fun H1 locs1 a b g => kk r.1 r.2 H1 locs1 a b g hF)
def rmX2_readChapter : Room := { frames := 3, cells := 0, slots := 0, locals := 64 }
set_option maxRecDepth 100000 in
set_option maxHeartbeats 4000000 in
theorem sX2_readChapter_L108 {l : Launch} {p : Program} {e : Env} {s : State} {m : MethodId} {args : Array Value} {below : List Frame} {meth : Method} {c : Code} (G : tw_G) (sz : Nat) (hC : tw_C G p s m args meth c RX2 cX2_readChapter 4 (some .boolean)) (this : Nat)   (h : tm_H)  (out : Int × tm_H) (hk : fX2_readChapter_L108 this h = some out) (H : Heap) (locs : List Loc) (ls : Array Slot) (hR : tw_Rel G sz h H) (hL : tw_L G locs) (hl : lv_has ls 4 [(0, .ref this)]) : W p l e rmX2_readChapter s m args below meth c H locs 0 0 (MQ below (tw_Qi G sz out.1 out.2) args s 0 0 (tw_F G)) (F0 m 108 ls []) := by
  unfold fX2_readChapter_L108 at hk
  refine lv_aload_n hC.1 hC.2.1 dX2_readChapter_108 rfl (lv_at hl 0 rfl) ?_
  refine lv_bipush (v := tw_I 59) hC.1 hC.2.1 dX2_readChapter_109 (by decide) ?_
  refine kX2_pass hC hR hL hk ((tw_rgL rfl)) mlX2_83 ⟨by decide, by decide⟩ hl.1 (Nat.le_of_ble_eq_true rfl) ⟨Nat.zero_le _, Nat.zero_le _⟩ dX2_readChapter_111 (fun v18 h18 H locs hR hL gv18 hk => ?_)
  obtain ⟨z, hz, hk⟩ := Option.bind_eq_some_iff.mp hk
  cases hk
  exact tw_zret hC hR hL hz rfl dX2_readChapter_114
set_option maxRecDepth 100000 in
set_option maxHeartbeats 4000000 in
theorem sX2_readChapter_S1 {l : Launch} {p : Program} {e : Env} {s : State} {m : MethodId} {args : Array Value} {below : List Frame} {meth : Method} {c : Code} (G : tw_G) (sz : Nat) (hC : tw_C G p s m args meth c RX2 cX2_readChapter 4 (some .boolean)) (this : Nat)  : ∀ (k : Nat) (st : (Int × Int × tm_H)) (out : Int × tm_H), tm_wit (fX2_readChapter_S1 this) k st = some out → match st with
    | (x1, x2, h) => ∀ (H : Heap) (locs : List Loc) (ls : Array Slot), tm_rg x1 → tm_rg x2 → tw_Rel G sz h H → tw_L G locs → lv_has ls 4 [(0, .ref this), (1, .int (tw_I x1)), (2, .int (tw_I x2))] → W p l e rmX2_readChapter s m args below meth c H locs 0 0 (MQ below (tw_Qi G sz out.1 out.2) args s 0 0 (tw_F G)) (F0 m 63 ls []) := by
  intro k
  induction k with
  | zero =>
    intro st out hk
    exact absurd hk (by unfold tm_wit; exact fun z => by cases z)
  | succ k ih =>
    intro st out hk
    obtain ⟨X, hk, hf⟩ := tm_wit_succ hk
    obtain ⟨x1, x2, h⟩ := st
    intro H locs ls gx1 gx2 hR hL hl
    dsimp only [fX2_readChapter_S1] at hk
    refine lv_iload_n hC.1 hC.2.1 dX2_readChapter_63 rfl (lv_at hl 2 rfl) ?_
    refine lv_bipush (v := tw_I 40) hC.1 hC.2.1 dX2_readChapter_64 (by decide) ?_
    refine tw_cge (tgt := 108) hC hk gx2 ((tw_rgL rfl)) dX2_readChapter_66 (by decide) (fun _ hk => ?_) (fun _ hk => ?_)
    · refine lv_aload_n hC.1 hC.2.1 dX2_readChapter_69 rfl (lv_at hl 0 rfl) ?_
      refine kX2_isRun hC hR hL hk mlX2_90 ⟨by decide, by decide⟩ hl.1 (Nat.le_of_ble_eq_true rfl) ⟨Nat.zero_le _, Nat.zero_le _⟩ dX2_readChapter_70 (fun v13 H locs hR hL gv13 hk => ?_)
      refine tw_zeq (tgt := 108) hC hk gv13 dX2_readChapter_73 (by decide) (fun _ hk => ?_) (fun _ hk => ?_)
      · obtain ⟨r, hk2, hX⟩ := tm_out_some hk
        rw [hX] at hf
        have hr : r = out := Option.some.inj hf
        rw [hr] at hk2
        exact sX2_readChapter_L108 G sz hC this h out hk2 H locs _ hR hL (lv_sub hl [0] rfl)
      · refine lv_aload_n hC.1 hC.2.1 dX2_readChapter_76 rfl (lv_at hl 0 rfl) ?_
        refine kX2_readWord hC hR hL hk mlX2_93 ⟨by decide, by decide⟩ hl.1 (Nat.le_of_ble_eq_true rfl) ⟨Nat.zero_le _, Nat.zero_le _⟩ dX2_readChapter_77 (fun v14 h14 H locs hR hL gv14 hk => ?_)
        refine lv_istore_n (lv' := [(3, .int (tw_I v14)), (0, .ref this), (1, .int (tw_I x1)), (2, .int (tw_I x2))]) hC.1 hC.2.1 dX2_readChapter_80 rfl hl (by decide) rfl (fun ls hl => ?_)
        refine lv_iload_n hC.1 hC.2.1 dX2_readChapter_81 rfl (lv_at hl 0 rfl) ?_
        refine lv_bipush (v := tw_I (-99)) hC.1 hC.2.1 dX2_readChapter_82 (by decide) ?_
        refine tw_cne (tgt := 89) hC hk gv14 ((tw_rgL rfl)) dX2_readChapter_84 (by decide) (fun _ hk => ?_) (fun _ hk => ?_)
        · refine lv_iconst (v := tw_I 0) hC.1 hC.2.1 dX2_readChapter_87 rfl ?_
          cases hk
          cases hf
          exact tw_zret hC hR hL rfl rfl dX2_readChapter_88
        · refine lv_aload_n hC.1 hC.2.1 dX2_readChapter_89 rfl (lv_at hl 1 rfl) ?_
          refine tw_getR hC hR hk flX2_21 dX2_readChapter_90 (fun r15 hk => ?_)
          refine tw_getR hC hR hk flX2_73 dX2_readChapter_93 (fun r16 hk => ?_)
          refine lv_iload_n hC.1 hC.2.1 dX2_readChapter_96 rfl (lv_at hl 2 rfl) ?_
          refine lv_iload_n hC.1 hC.2.1 dX2_readChapter_97 rfl (lv_at hl 3 rfl) ?_
          refine lv_iload_n hC.1 hC.2.1 dX2_readChapter_98 rfl (lv_at hl 0 rfl) ?_
          refine kX0_put hC hR hL hk gx1 gx2 gv14 mlX2_96 ⟨by decide, by decide⟩ hl.1 (Nat.le_of_ble_eq_true rfl) ⟨Nat.zero_le _, Nat.zero_le _⟩ dX2_readChapter_99 (fun h17 H locs hR hL hk => ?_)
          refine tw_iinc (lv' := [(2, .int (tw_I (tm_wr (x2 + 1)))), (3, .int (tw_I v14)), (0, .ref this), (1, .int (tw_I x1))]) hC dX2_readChapter_102 hl (k := 3) rfl (by decide) rfl (fun ls hl => ?_)
          refine lv_goto (tgt := 63) hC.1 hC.2.1 dX2_readChapter_105 (by decide) ?_
          cases hk
          exact ih _ out hf H locs _ gx1 ((tm_wr_rg _)) hR hL (lv_sub hl [2, 3, 0] rfl)
    · obtain ⟨r, hk2, hX⟩ := tm_out_some hk
      rw [hX] at hf
      have hr : r = out := Option.some.inj hf
      rw [hr] at hk2
      exact sX2_readChapter_L108 G sz hC this h out hk2 H locs _ hR hL (lv_sub hl [0] rfl)
theorem sX2_readChapter_L63 {l : Launch} {p : Program} {e : Env} {s : State} {m : MethodId} {args : Array Value} {below : List Frame} {meth : Method} {c : Code} (G : tw_G) (sz : Nat) (hC : tw_C G p s m args meth c RX2 cX2_readChapter 4 (some .boolean)) (this : Nat)  (x1 : Int) (x2 : Int) (h : tm_H) (gx1 : tm_rg x1) (gx2 : tm_rg x2) (out : Int × tm_H) (hk : fX2_readChapter_L63 this x1 x2 h = some out) (H : Heap) (locs : List Loc) (ls : Array Slot) (hR : tw_Rel G sz h H) (hL : tw_L G locs) (hl : lv_has ls 4 [(0, .ref this), (1, .int (tw_I x1)), (2, .int (tw_I x2))]) : W p l e rmX2_readChapter s m args below meth c H locs 0 0 (MQ below (tw_Qi G sz out.1 out.2) args s 0 0 (tw_F G)) (F0 m 63 ls []) := by
  obtain ⟨k, hk⟩ := tm_wl_iff.mp hk
  exact sX2_readChapter_S1 G sz hC this  k ((x1, x2, h)) out hk H locs ls gx1 gx2 hR hL hl
set_option maxRecDepth 100000 in
set_option maxHeartbeats 4000000 in
theorem cX2_readChapter_ok (l : Launch) (G : tw_G) (sz : Nat) (this : Nat)  (h : tm_H) (out : Int × tm_H) (hk : fX2_readChapter this h = some out) : Met l yX2_readChapter (tw_WS yX2_readChapter cX2_readChapter 4 (some .boolean)) rmX2_readChapter (va_Pc [.ref this] (tw_Pre G sz h)) (tw_Qi G sz out.1 out.2) 0 0 (tw_F G) := by
  refine tw_met (by decide +kernel) (Nat.le_of_ble_eq_true rfl) ?_
  intro p e s m args below meth c H ls hC hnm hR hl
  unfold fX2_readChapter at hk
  obtain ⟨hob, hk⟩ := tm_th_is hk
  have hl : lv_has ls 4 [(0, .ref this)] := hl
  have hL : tw_L G [] := fun q z => by cases z
  generalize hlc : ([] : List Loc) = locs at hL ⊢
  refine lv_aload_n hC.1 hC.2.1 dX2_readChapter_0 rfl (lv_at hl 0 rfl) ?_
  refine kX2_step hC hR hL hk mlX2_42 ⟨by decide, by decide⟩ hl.1 (Nat.le_of_ble_eq_true rfl) ⟨Nat.zero_le _, Nat.zero_le _⟩ dX2_readChapter_1 (fun h1 H locs hR hL hk => ?_)
  refine lv_aload_n hC.1 hC.2.1 dX2_readChapter_4 rfl (lv_at hl 0 rfl) ?_
  refine tw_getR hC hR hk flX2_12 dX2_readChapter_5 (fun r2 hk => ?_)
  refine lv_aload_n hC.1 hC.2.1 dX2_readChapter_8 rfl (lv_at hl 0 rfl) ?_
  refine tw_getI hC hR hk flX2_31 dX2_readChapter_9 (fun v3 gv3 hk => ?_)
  refine kX6_at hC hR hL hk gv3 mlX2_69 ⟨by decide, by decide⟩ hl.1 (Nat.le_of_ble_eq_true rfl) ⟨Nat.zero_le _, Nat.zero_le _⟩ dX2_readChapter_12 (fun v4 H locs hR hL gv4 hk => ?_)
  refine lv_bipush (v := tw_I 48) hC.1 hC.2.1 dX2_readChapter_15 (by decide) ?_
  refine tw_isub hC dX2_readChapter_17 ?_
  refine lv_istore_n (lv' := [(1, .int (tw_I (tm_wr (v4 - 48)))), (0, .ref this)]) hC.1 hC.2.1 dX2_readChapter_18 rfl hl (by decide) rfl (fun ls hl => ?_)
  refine lv_aload_n hC.1 hC.2.1 dX2_readChapter_19 rfl (lv_at hl 1 rfl) ?_
  refine tw_getR hC hR hk flX2_21 dX2_readChapter_20 (fun r5 hk => ?_)
  refine tw_getR hC hR hk flX2_73 dX2_readChapter_23 (fun r6 hk => ?_)
  refine lv_iload_n hC.1 hC.2.1 dX2_readChapter_26 rfl (lv_at hl 0 rfl) ?_
  refine kX0_has hC hR hL hk ((tm_wr_rg _)) mlX2_77 ⟨by decide, by decide⟩ hl.1 (Nat.le_of_ble_eq_true rfl) ⟨Nat.zero_le _, Nat.zero_le _⟩ dX2_readChapter_27 (fun v7 H locs hR hL gv7 hk => ?_)
  refine tw_zne (tgt := 35) hC hk gv7 dX2_readChapter_30 (by decide) (fun _ hk => ?_) (fun _ hk => ?_)
  · refine lv_iconst (v := tw_I 0) hC.1 hC.2.1 dX2_readChapter_33 rfl ?_
    cases hk
    exact tw_zret hC hR hL rfl rfl dX2_readChapter_34
  · refine lv_aload_n hC.1 hC.2.1 dX2_readChapter_35 rfl (lv_at hl 1 rfl) ?_
    refine kX2_step hC hR hL hk mlX2_42 ⟨by decide, by decide⟩ hl.1 (Nat.le_of_ble_eq_true rfl) ⟨Nat.zero_le _, Nat.zero_le _⟩ dX2_readChapter_36 (fun h8 H locs hR hL hk => ?_)
    refine lv_aload_n hC.1 hC.2.1 dX2_readChapter_39 rfl (lv_at hl 1 rfl) ?_
    refine lv_bipush (v := tw_I 58) hC.1 hC.2.1 dX2_readChapter_40 (by decide) ?_
    refine kX2_pass hC hR hL hk ((tw_rgL rfl)) mlX2_83 ⟨by decide, by decide⟩ hl.1 (Nat.le_of_ble_eq_true rfl) ⟨Nat.zero_le _, Nat.zero_le _⟩ dX2_readChapter_42 (fun v9 h9 H locs hR hL gv9 hk => ?_)
    refine tw_zne (tgt := 50) hC hk gv9 dX2_readChapter_45 (by decide) (fun _ hk => ?_) (fun _ hk => ?_)
    · refine lv_iconst (v := tw_I 0) hC.1 hC.2.1 dX2_readChapter_48 rfl ?_
      cases hk
      exact tw_zret hC hR hL rfl rfl dX2_readChapter_49
    · refine lv_aload_n hC.1 hC.2.1 dX2_readChapter_50 rfl (lv_at hl 1 rfl) ?_
      refine tw_getR hC hR hk flX2_21 dX2_readChapter_51 (fun r10 hk => ?_)
      refine tw_getR hC hR hk flX2_73 dX2_readChapter_54 (fun r11 hk => ?_)
      refine lv_iload_n hC.1 hC.2.1 dX2_readChapter_57 rfl (lv_at hl 0 rfl) ?_
      refine kX0_empty hC hR hL hk ((tm_wr_rg _)) mlX2_86 ⟨by decide, by decide⟩ hl.1 (Nat.le_of_ble_eq_true rfl) ⟨Nat.zero_le _, Nat.zero_le _⟩ dX2_readChapter_58 (fun h12 H locs hR hL hk => ?_)
      refine lv_iconst (v := tw_I 0) hC.1 hC.2.1 dX2_readChapter_61 rfl ?_
      refine lv_istore_n (lv' := [(2, .int (tw_I 0)), (1, .int (tw_I (tm_wr (v4 - 48)))), (0, .ref this)]) hC.1 hC.2.1 dX2_readChapter_62 rfl hl (by decide) rfl (fun ls hl => ?_)
      exact sX2_readChapter_L63 G sz hC this (tm_wr (v4 - 48)) 0 h12 ((tm_wr_rg _)) ((tw_rgL rfl)) out hk H locs _ hR hL (lv_sub hl [2, 1, 0] rfl)
set_option maxRecDepth 100000 in
theorem kX2_readChapter {l : Launch} {p : Program} {e : Env} {R : Room} {s : State} {m : MethodId} {args : Array Value} {below : List Frame} {meth : Method} {c : Code} {H : Heap} {locs : List Loc} {cells slots : Nat} {Q : State → Prop} {cc : ByteArray} {pc nL idx : Nat} {ls : Array Slot} {rest : List Value} {G : tw_G} {h : tm_H} {own : String} {ret : Option FieldType} {α : Type} {x : α} {sz : Nat} {this : Nat} (hC : tw_C G p s m args meth c own cc nL ret) (hR : tw_Rel G sz h H) (hL : tw_L G locs) {F : Int × tm_H → Option α} (hk : (fX2_readChapter this h).bind F = some x)  (hl : tw_mL own idx yX2_readChapter) (hRm : rmX2_readChapter.frames + 1 ≤ R.frames ∧ 8 + (4 + 11) + rmX2_readChapter.locals ≤ R.locals) (hsz : ls.size = nL) (hW : (rest.map fun v => v.category).sum ≤ 8) (hf : cells + 0 ≤ R.cells ∧ slots + 0 ≤ R.slots) (hdg : decode cc pc = .ok (.invokevirtual idx, 3)) (kk : ∀ (r : Int) (h1 : tm_H) (H1 : Heap) (locs1 : List Loc), tw_Rel G sz h1 H1 → tw_L G locs1 → tm_rg r → F (r, h1) = some x → W p l e R s m args below meth c H1 locs1 (cells + 0) (slots + 0) Q (F0 m (pc + 3) ls (.int (tw_I r) :: rest))) : W p l e R s m args below meth c H locs cells slots Q (F0 m pc ls (.ref this :: rest)) := by
  obtain ⟨r, hr, hF⟩ := Option.bind_eq_some_iff.mp hk
  have ob : ∀ r, fX2_readChapter this h = some r → tm_is h 2 this := fun r hr => by
    unfold fX2_readChapter at hr
    exact (tm_th_is hr).1
  exact tw_backi (tw_runV hC hR (cX2_readChapter_ok l G sz this  h r hr) (n := 0) (As := []) ⟨tw_in_TB 626 (by decide +kernel) rfl, tw_in_TB 59 (by decide +kernel) rfl, by decide +kernel⟩ (tw_in_TB 625 (by decide +kernel) rfl) (tw_in_TB 9 (by decide +kernel) rfl) hl ⟨rfl, rfl⟩ hRm (ob r hr) (T := TX2) (N := 5) rfl rfl hsz rfl hW hdg hf) hL (fun H1 locs1 a b g => kk r.1 r.2 H1 locs1 a b g hF)
def rmX5_size : Room := { frames := 0, cells := 0, slots := 0, locals := 0 }
set_option maxRecDepth 100000 in
set_option maxHeartbeats 4000000 in
theorem cX5_size_ok (l : Launch) (G : tw_G) (sz : Nat) (this : Nat)  (h : tm_H) (out : Int) (hk : fX5_size this h = some out) : Met l yX5_size (tw_WS yX5_size cX5_size 1 (some .int)) rmX5_size (va_Pc [.ref this] (tw_Pre G sz h)) (tw_Qi G sz out h) 0 0 (tw_F G) := by
  refine tw_met (by decide +kernel) (Nat.le_of_ble_eq_true rfl) ?_
  intro p e s m args below meth c H ls hC hnm hR hl
  unfold fX5_size at hk
  obtain ⟨hob, hk⟩ := tm_th_is hk
  have hl : lv_has ls 1 [(0, .ref this)] := hl
  have hL : tw_L G [] := fun q z => by cases z
  generalize hlc : ([] : List Loc) = locs at hL ⊢
  refine lv_aload_n hC.1 hC.2.1 dX5_size_0 rfl (lv_at hl 0 rfl) ?_
  refine tw_getI hC hR hk flX5_24 dX5_size_1 (fun v1 gv1 hk => ?_)
  cases hk
  exact tw_iret hC hR hL gv1 rfl rfl dX5_size_4
set_option maxRecDepth 100000 in
theorem kX5_size {l : Launch} {p : Program} {e : Env} {R : Room} {s : State} {m : MethodId} {args : Array Value} {below : List Frame} {meth : Method} {c : Code} {H : Heap} {locs : List Loc} {cells slots : Nat} {Q : State → Prop} {cc : ByteArray} {pc nL idx : Nat} {ls : Array Slot} {rest : List Value} {G : tw_G} {h : tm_H} {own : String} {ret : Option FieldType} {α : Type} {x : α} {sz : Nat} {this : Nat} (hC : tw_C G p s m args meth c own cc nL ret) (hR : tw_Rel G sz h H) (hL : tw_L G locs) {F : Int → Option α} (hk : (fX5_size this h).bind F = some x)  (hl : tw_mL own idx yX5_size) (hRm : rmX5_size.frames + 1 ≤ R.frames ∧ 8 + (1 + 11) + rmX5_size.locals ≤ R.locals) (hsz : ls.size = nL) (hW : (rest.map fun v => v.category).sum ≤ 8) (hf : cells + 0 ≤ R.cells ∧ slots + 0 ≤ R.slots) (hdg : decode cc pc = .ok (.invokevirtual idx, 3)) (kk : ∀ (r : Int) (H1 : Heap) (locs1 : List Loc), tw_Rel G sz h H1 → tw_L G locs1 → tm_rg r → F r = some x → W p l e R s m args below meth c H1 locs1 (cells + 0) (slots + 0) Q (F0 m (pc + 3) ls (.int (tw_I r) :: rest))) : W p l e R s m args below meth c H locs cells slots Q (F0 m pc ls (.ref this :: rest)) := by
  obtain ⟨r, hr, hF⟩ := Option.bind_eq_some_iff.mp hk
  have ob : ∀ r, fX5_size this h = some r → tm_is h 5 this := fun r hr => by
    unfold fX5_size at hr
    exact (tm_th_is hr).1
  exact tw_backi (tw_runV hC hR (cX5_size_ok l G sz this  h r hr) (n := 0) (As := []) ⟨tw_in_TB 377 (by decide +kernel) rfl, tw_in_TB 57 (by decide +kernel) rfl, by decide +kernel⟩ (tw_in_TB 375 (by decide +kernel) rfl) (tw_in_TB 376 (by decide +kernel) rfl) hl ⟨rfl, rfl⟩ hRm (ob r hr) (T := TX5) (N := 4) rfl rfl hsz rfl hW hdg hf) hL (fun H1 locs1 a b g => kk r H1 locs1 a b g hF)
def rmX7_baseOf : Room := { frames := 0, cells := 0, slots := 0, locals := 0 }
set_option maxRecDepth 100000 in
set_option maxHeartbeats 4000000 in
theorem cX7_baseOf_ok (l : Launch) (G : tw_G) (sz : Nat) (this : Nat) (a1 : Int) (ga1 : tm_rg a1) (h : tm_H) (out : Int) (hk : fX7_baseOf this a1 h = some out) : Met l yX7_baseOf (tw_WS yX7_baseOf cX7_baseOf 2 (some .int)) rmX7_baseOf (va_Pc [.ref this, .int (tw_I a1)] (tw_Pre G sz h)) (tw_Qi G sz out h) 0 0 (tw_F G) := by
  refine tw_met (by decide +kernel) (Nat.le_of_ble_eq_true rfl) ?_
  intro p e s m args below meth c H ls hC hnm hR hl
  unfold fX7_baseOf at hk
  obtain ⟨hob, hk⟩ := tm_th_is hk
  have hl : lv_has ls 2 [(0, .ref this), (1, .int (tw_I a1))] := hl
  have hL : tw_L G [] := fun q z => by cases z
  generalize hlc : ([] : List Loc) = locs at hL ⊢
  refine lv_iload_n hC.1 hC.2.1 dX7_baseOf_0 rfl (lv_at hl 1 rfl) ?_
  refine tw_zlt (tgt := 21) hC hk ga1 dX7_baseOf_1 (by decide) (fun _ hk => ?_) (fun _ hk => ?_)
  · refine lv_bipush (v := tw_I (-99)) hC.1 hC.2.1 dX7_baseOf_21 (by decide) ?_
    cases hk
    exact tw_iret hC hR hL ((tw_rgL rfl)) rfl rfl dX7_baseOf_23
  · refine lv_iload_n hC.1 hC.2.1 dX7_baseOf_4 rfl (lv_at hl 1 rfl) ?_
    refine lv_aload_n hC.1 hC.2.1 dX7_baseOf_5 rfl (lv_at hl 0 rfl) ?_
    refine tw_getI hC hR hk flX7_19 dX7_baseOf_6 (fun v1 gv1 hk => ?_)
    refine tw_cge (tgt := 21) hC hk ga1 gv1 dX7_baseOf_9 (by decide) (fun _ hk => ?_) (fun _ hk => ?_)
    · refine lv_aload_n hC.1 hC.2.1 dX7_baseOf_12 rfl (lv_at hl 0 rfl) ?_
      refine tw_getR hC hR hk flX7_15 dX7_baseOf_13 (fun r2 hk => ?_)
      refine lv_iload_n hC.1 hC.2.1 dX7_baseOf_16 rfl (lv_at hl 1 rfl) ?_
      refine tw_iald hC hR hk dX7_baseOf_17 (fun v3 gv3 hk => ?_)
      refine lv_goto (tgt := 23) hC.1 hC.2.1 dX7_baseOf_18 (by decide) ?_
      cases hk
      exact tw_iret hC hR hL gv3 rfl rfl dX7_baseOf_23
    · refine lv_bipush (v := tw_I (-99)) hC.1 hC.2.1 dX7_baseOf_21 (by decide) ?_
      cases hk
      exact tw_iret hC hR hL ((tw_rgL rfl)) rfl rfl dX7_baseOf_23
set_option maxRecDepth 100000 in
theorem kX7_baseOf {l : Launch} {p : Program} {e : Env} {R : Room} {s : State} {m : MethodId} {args : Array Value} {below : List Frame} {meth : Method} {c : Code} {H : Heap} {locs : List Loc} {cells slots : Nat} {Q : State → Prop} {cc : ByteArray} {pc nL idx : Nat} {ls : Array Slot} {rest : List Value} {G : tw_G} {h : tm_H} {own : String} {ret : Option FieldType} {α : Type} {x : α} {sz : Nat} {this : Nat} {a1 : Int} (hC : tw_C G p s m args meth c own cc nL ret) (hR : tw_Rel G sz h H) (hL : tw_L G locs) {F : Int → Option α} (hk : (fX7_baseOf this a1 h).bind F = some x) (ga1 : tm_rg a1) (hl : tw_mL own idx yX7_baseOf) (hRm : rmX7_baseOf.frames + 1 ≤ R.frames ∧ 8 + (2 + 11) + rmX7_baseOf.locals ≤ R.locals) (hsz : ls.size = nL) (hW : (rest.map fun v => v.category).sum ≤ 8) (hf : cells + 0 ≤ R.cells ∧ slots + 0 ≤ R.slots) (hdg : decode cc pc = .ok (.invokevirtual idx, 3)) (kk : ∀ (r : Int) (H1 : Heap) (locs1 : List Loc), tw_Rel G sz h H1 → tw_L G locs1 → tm_rg r → F r = some x → W p l e R s m args below meth c H1 locs1 (cells + 0) (slots + 0) Q (F0 m (pc + 3) ls (.int (tw_I r) :: rest))) : W p l e R s m args below meth c H locs cells slots Q (F0 m pc ls (.int (tw_I a1) :: .ref this :: rest)) := by
  obtain ⟨r, hr, hF⟩ := Option.bind_eq_some_iff.mp hk
  have ob : ∀ r, fX7_baseOf this a1 h = some r → tm_is h 7 this := fun r hr => by
    unfold fX7_baseOf at hr
    exact (tm_th_is hr).1
  exact tw_backi (tw_runV hC hR (cX7_baseOf_ok l G sz this a1 ga1 h r hr) (n := 1) (As := [.int (tw_I a1)]) ⟨tw_in_TB 394 (by decide +kernel) rfl, tw_in_TB 55 (by decide +kernel) rfl, by decide +kernel⟩ (tw_in_TB 392 (by decide +kernel) rfl) (tw_in_TB 393 (by decide +kernel) rfl) hl ⟨rfl, rfl⟩ hRm (ob r hr) (T := TX7) (N := 3) rfl rfl hsz rfl hW hdg hf) hL (fun H1 locs1 a b g => kk r H1 locs1 a b g hF)
def rmX5_sameBases : Room := { frames := 1, cells := 0, slots := 0, locals := 21 }
set_option maxRecDepth 100000 in
set_option maxHeartbeats 4000000 in
theorem sX5_sameBases_S0 {l : Launch} {p : Program} {e : Env} {s : State} {m : MethodId} {args : Array Value} {below : List Frame} {meth : Method} {c : Code} (G : tw_G) (sz : Nat) (hC : tw_C G p s m args meth c RX5 cX5_sameBases 5 (some .boolean)) (a1 : Nat) (a2 : Nat) (a3 : Nat) (a4 : Int) (ga4 : tm_rg a4) (h : tm_H) : ∀ (k : Nat) (st : (Int)) (out : Int), tm_wit (fX5_sameBases_S0 a1 a2 a3 a4 h) k st = some out → match st with
    | (x4) => ∀ (H : Heap) (locs : List Loc) (ls : Array Slot), tm_rg x4 → tw_Rel G sz h H → tw_L G locs → lv_has ls 5 [(0, .ref a1), (1, .ref a2), (2, .ref a3), (3, .int (tw_I a4)), (4, .int (tw_I x4))] → W p l e rmX5_sameBases s m args below meth c H locs 0 0 (MQ below (tw_Qi G sz out h) args s 0 0 (tw_F G)) (F0 m 3 ls []) := by
  intro k
  induction k with
  | zero =>
    intro st out hk
    exact absurd hk (by unfold tm_wit; exact fun z => by cases z)
  | succ k ih =>
    intro x4 out hk
    obtain ⟨X, hk, hf⟩ := tm_wit_succ hk
    intro H locs ls gx4 hR hL hl
    dsimp only [fX5_sameBases_S0] at hk
    refine lv_iload hC.1 hC.2.1 dX5_sameBases_3 (lv_at hl 4 rfl) ?_
    refine lv_iload_n hC.1 hC.2.1 dX5_sameBases_5 rfl (lv_at hl 3 rfl) ?_
    refine tw_cge (tgt := 50) hC hk gx4 ga4 dX5_sameBases_6 (by decide) (fun _ hk => ?_) (fun _ hk => ?_)
    · refine lv_iload hC.1 hC.2.1 dX5_sameBases_9 (lv_at hl 4 rfl) ?_
      refine lv_aload_n hC.1 hC.2.1 dX5_sameBases_11 rfl (lv_at hl 1 rfl) ?_
      refine tw_alen hC hR hk dX5_sameBases_12 (fun v1 gv1 hk => ?_)
      refine tw_cge (tgt := 50) hC hk gx4 gv1 dX5_sameBases_13 (by decide) (fun _ hk => ?_) (fun _ hk => ?_)
      · refine lv_iload hC.1 hC.2.1 dX5_sameBases_16 (lv_at hl 4 rfl) ?_
        refine lv_aload_n hC.1 hC.2.1 dX5_sameBases_18 rfl (lv_at hl 2 rfl) ?_
        refine tw_alen hC hR hk dX5_sameBases_19 (fun v2 gv2 hk => ?_)
        refine tw_cge (tgt := 50) hC hk gx4 gv2 dX5_sameBases_20 (by decide) (fun _ hk => ?_) (fun _ hk => ?_)
        · refine lv_aload_n hC.1 hC.2.1 dX5_sameBases_23 rfl (lv_at hl 0 rfl) ?_
          refine lv_aload_n hC.1 hC.2.1 dX5_sameBases_24 rfl (lv_at hl 1 rfl) ?_
          refine lv_iload hC.1 hC.2.1 dX5_sameBases_25 (lv_at hl 4 rfl) ?_
          refine tw_iald hC hR hk dX5_sameBases_27 (fun v3 gv3 hk => ?_)
          refine kX7_baseOf hC hR hL hk gv3 mlX5_42 ⟨by decide, by decide⟩ hl.1 (Nat.le_of_ble_eq_true rfl) ⟨Nat.zero_le _, Nat.zero_le _⟩ dX5_sameBases_28 (fun v4 H locs hR hL gv4 hk => ?_)
          refine lv_aload_n hC.1 hC.2.1 dX5_sameBases_31 rfl (lv_at hl 0 rfl) ?_
          refine lv_aload_n hC.1 hC.2.1 dX5_sameBases_32 rfl (lv_at hl 2 rfl) ?_
          refine lv_iload hC.1 hC.2.1 dX5_sameBases_33 (lv_at hl 4 rfl) ?_
          refine tw_iald hC hR hk dX5_sameBases_35 (fun v5 gv5 hk => ?_)
          refine kX7_baseOf hC hR hL hk gv5 mlX5_42 ⟨by decide, by decide⟩ hl.1 (Nat.le_of_ble_eq_true rfl) ⟨Nat.zero_le _, Nat.zero_le _⟩ dX5_sameBases_36 (fun v6 H locs hR hL gv6 hk => ?_)
          refine tw_ceq (tgt := 44) hC hk gv4 gv6 dX5_sameBases_39 (by decide) (fun _ hk => ?_) (fun _ hk => ?_)
          · refine tw_iinc (lv' := [(4, .int (tw_I (tm_wr (x4 + 1)))), (0, .ref a1), (1, .ref a2), (2, .ref a3), (3, .int (tw_I a4))]) hC dX5_sameBases_44 hl (k := 4) rfl (by decide) rfl (fun ls hl => ?_)
            refine lv_goto (tgt := 3) hC.1 hC.2.1 dX5_sameBases_47 (by decide) ?_
            cases hk
            exact ih _ out hf H locs _ ((tm_wr_rg _)) hR hL (lv_sub hl [1, 2, 3, 4, 0] rfl)
          · refine lv_iconst (v := tw_I 0) hC.1 hC.2.1 dX5_sameBases_42 rfl ?_
            cases hk
            cases hf
            exact tw_zret hC hR hL rfl rfl dX5_sameBases_43
        · refine lv_iconst (v := tw_I 1) hC.1 hC.2.1 dX5_sameBases_50 rfl ?_
          cases hk
          cases hf
          exact tw_zret hC hR hL rfl rfl dX5_sameBases_51
      · refine lv_iconst (v := tw_I 1) hC.1 hC.2.1 dX5_sameBases_50 rfl ?_
        cases hk
        cases hf
        exact tw_zret hC hR hL rfl rfl dX5_sameBases_51
    · refine lv_iconst (v := tw_I 1) hC.1 hC.2.1 dX5_sameBases_50 rfl ?_
      cases hk
      cases hf
      exact tw_zret hC hR hL rfl rfl dX5_sameBases_51
theorem sX5_sameBases_L3 {l : Launch} {p : Program} {e : Env} {s : State} {m : MethodId} {args : Array Value} {below : List Frame} {meth : Method} {c : Code} (G : tw_G) (sz : Nat) (hC : tw_C G p s m args meth c RX5 cX5_sameBases 5 (some .boolean)) (a1 : Nat) (a2 : Nat) (a3 : Nat) (a4 : Int) (ga4 : tm_rg a4) (h : tm_H) (x4 : Int) (gx4 : tm_rg x4) (out : Int) (hk : fX5_sameBases_L3 a1 a2 a3 a4 h x4 = some out) (H : Heap) (locs : List Loc) (ls : Array Slot) (hR : tw_Rel G sz h H) (hL : tw_L G locs) (hl : lv_has ls 5 [(0, .ref a1), (1, .ref a2), (2, .ref a3), (3, .int (tw_I a4)), (4, .int (tw_I x4))]) : W p l e rmX5_sameBases s m args below meth c H locs 0 0 (MQ below (tw_Qi G sz out h) args s 0 0 (tw_F G)) (F0 m 3 ls []) := by
  obtain ⟨k, hk⟩ := tm_wl_iff.mp hk
  exact sX5_sameBases_S0 G sz hC a1 a2 a3 a4 ga4 h k ((x4)) out hk H locs ls gx4 hR hL hl
set_option maxRecDepth 100000 in
set_option maxHeartbeats 4000000 in
theorem cX5_sameBases_ok (l : Launch) (G : tw_G) (sz : Nat) (a1 : Nat) (a2 : Nat) (a3 : Nat) (a4 : Int) (ga4 : tm_rg a4) (h : tm_H) (out : Int) (hk : fX5_sameBases a1 a2 a3 a4 h = some out) : Met l yX5_sameBases (tw_WS yX5_sameBases cX5_sameBases 5 (some .boolean)) rmX5_sameBases (va_Pc [.ref a1, .ref a2, .ref a3, .int (tw_I a4)] (tw_Pre G sz h)) (tw_Qi G sz out h) 0 0 (tw_F G) := by
  refine tw_met (by decide +kernel) (Nat.le_of_ble_eq_true rfl) ?_
  intro p e s m args below meth c H ls hC hnm hR hl
  unfold fX5_sameBases at hk
  have hl : lv_has ls 5 [(0, .ref a1), (1, .ref a2), (2, .ref a3), (3, .int (tw_I a4))] := hl
  have hL : tw_L G [] := fun q z => by cases z
  generalize hlc : ([] : List Loc) = locs at hL ⊢
  refine lv_iconst (v := tw_I 0) hC.1 hC.2.1 dX5_sameBases_0 rfl ?_
  refine lv_istore (lv' := [(4, .int (tw_I 0)), (0, .ref a1), (1, .ref a2), (2, .ref a3), (3, .int (tw_I a4))]) hC.1 hC.2.1 dX5_sameBases_1 hl (by decide) rfl (fun ls hl => ?_)
  exact sX5_sameBases_L3 G sz hC a1 a2 a3 a4 ga4 h 0 ((tw_rgL rfl)) out hk H locs _ hR hL (lv_sub hl [1, 2, 3, 4, 0] rfl)
set_option maxRecDepth 100000 in
theorem kX5_sameBases {l : Launch} {p : Program} {e : Env} {R : Room} {s : State} {m : MethodId} {args : Array Value} {below : List Frame} {meth : Method} {c : Code} {H : Heap} {locs : List Loc} {cells slots : Nat} {Q : State → Prop} {cc : ByteArray} {pc nL idx : Nat} {ls : Array Slot} {rest : List Value} {G : tw_G} {h : tm_H} {own : String} {ret : Option FieldType} {α : Type} {x : α} {sz : Nat} {a1 : Nat} {a2 : Nat} {a3 : Nat} {a4 : Int} (hC : tw_C G p s m args meth c own cc nL ret) (hR : tw_Rel G sz h H) (hL : tw_L G locs) {F : Int → Option α} (hk : (fX5_sameBases a1 a2 a3 a4 h).bind F = some x) (ga4 : tm_rg a4) (hl : tw_mL own idx yX5_sameBases) (hRm : rmX5_sameBases.frames + 1 ≤ R.frames ∧ 8 + (5 + 11) + rmX5_sameBases.locals ≤ R.locals) (hsz : ls.size = nL) (hW : (rest.map fun v => v.category).sum ≤ 8) (hf : cells + 0 ≤ R.cells ∧ slots + 0 ≤ R.slots) (hdg : decode cc pc = .ok (.invokestatic idx, 3)) (kk : ∀ (r : Int) (H1 : Heap) (locs1 : List Loc), tw_Rel G sz h H1 → tw_L G locs1 → tm_rg r → F r = some x → W p l e R s m args below meth c H1 locs1 (cells + 0) (slots + 0) Q (F0 m (pc + 3) ls (.int (tw_I r) :: rest))) : W p l e R s m args below meth c H locs cells slots Q (F0 m pc ls (.int (tw_I a4) :: .ref a3 :: .ref a2 :: .ref a1 :: rest)) := by
  obtain ⟨r, hr, hF⟩ := Option.bind_eq_some_iff.mp hk
  exact tw_backi (tw_runS hC hR (cX5_sameBases_ok l G sz a1 a2 a3 a4 ga4 h r hr) (n := 4) ⟨tw_in_TB 435 (by decide +kernel) rfl, tw_in_TB 57 (by decide +kernel) rfl, by decide +kernel⟩ (tw_in_TB 434 (by decide +kernel) rfl) hl ⟨rfl, rfl⟩ hRm rfl hsz rfl hW hdg hf) hL (fun H1 locs1 a b g => kk r H1 locs1 a b g hF)
def rmX5_hasLike : Room := { frames := 2, cells := 0, slots := 0, locals := 45 }
set_option maxRecDepth 100000 in
set_option maxHeartbeats 4000000 in
theorem sX5_hasLike_S0 {l : Launch} {p : Program} {e : Env} {s : State} {m : MethodId} {args : Array Value} {below : List Frame} {meth : Method} {c : Code} (G : tw_G) (sz : Nat) (hC : tw_C G p s m args meth c RX5 cX5_hasLike 5 (some .boolean)) (this : Nat) (a1 : Nat) (a2 : Nat) (a3 : Int) (ga3 : tm_rg a3) (h : tm_H) : ∀ (k : Nat) (st : (Int) ⊕ (Int)) (out : Int), tm_wit (fX5_hasLike_S0 this a1 a2 a3 h) k st = some out → match st with
    | .inl ((x4)) => ∀ (H : Heap) (locs : List Loc) (ls : Array Slot), tm_rg x4 → tw_Rel G sz h H → tw_L G locs → lv_has ls 5 [(0, .ref this), (1, .ref a1), (2, .ref a2), (3, .int (tw_I a3)), (4, .int (tw_I x4))] → W p l e rmX5_hasLike s m args below meth c H locs 0 0 (MQ below (tw_Qi G sz out h) args s 0 0 (tw_F G)) (F0 m 3 ls [])
    | .inr ((x4)) => ∀ (H : Heap) (locs : List Loc) (ls : Array Slot), tm_rg x4 → tw_Rel G sz h H → tw_L G locs → lv_has ls 5 [(0, .ref this), (1, .ref a1), (2, .ref a2), (3, .int (tw_I a3)), (4, .int (tw_I x4))] → W p l e rmX5_hasLike s m args below meth c H locs 0 0 (MQ below (tw_Qi G sz out h) args s 0 0 (tw_F G)) (F0 m 41 ls []) := by
  intro k
  induction k with
  | zero =>
    intro st out hk
    exact absurd hk (by unfold tm_wit; exact fun z => by cases z)
  | succ k ih =>
    intro st out hk
    obtain ⟨X, hk, hf⟩ := tm_wit_succ hk
    obtain x4 | x4 := st
    · intro H locs ls gx4 hR hL hl
      dsimp only [fX5_hasLike_S0] at hk
      refine lv_iload hC.1 hC.2.1 dX5_hasLike_3 (lv_at hl 4 rfl) ?_
      refine lv_aload_n hC.1 hC.2.1 dX5_hasLike_5 rfl (lv_at hl 0 rfl) ?_
      refine tw_getI hC hR hk flX5_24 dX5_hasLike_6 (fun v1 gv1 hk => ?_)
      refine tw_cge (tgt := 47) hC hk gx4 gv1 dX5_hasLike_9 (by decide) (fun _ hk => ?_) (fun _ hk => ?_)
      · refine lv_aload_n hC.1 hC.2.1 dX5_hasLike_12 rfl (lv_at hl 0 rfl) ?_
        refine tw_getR hC hR hk flX5_16 dX5_hasLike_13 (fun r2 hk => ?_)
        refine lv_iload hC.1 hC.2.1 dX5_hasLike_16 (lv_at hl 4 rfl) ?_
        refine tw_iald hC hR hk dX5_hasLike_18 (fun v3 gv3 hk => ?_)
        refine lv_iload_n hC.1 hC.2.1 dX5_hasLike_19 rfl (lv_at hl 3 rfl) ?_
        refine tw_cne (tgt := 41) hC hk gv3 ga3 dX5_hasLike_20 (by decide) (fun _ hk => ?_) (fun _ hk => ?_)
        · refine lv_aload_n hC.1 hC.2.1 dX5_hasLike_23 rfl (lv_at hl 1 rfl) ?_
          refine lv_aload_n hC.1 hC.2.1 dX5_hasLike_24 rfl (lv_at hl 0 rfl) ?_
          refine tw_getR hC hR hk flX5_13 dX5_hasLike_25 (fun r4 hk => ?_)
          refine lv_iload hC.1 hC.2.1 dX5_hasLike_28 (lv_at hl 4 rfl) ?_
          refine tw_aald hC hR hk dX5_hasLike_30 (fun r5 hk => ?_)
          refine lv_aload_n hC.1 hC.2.1 dX5_hasLike_31 rfl (lv_at hl 2 rfl) ?_
          refine lv_iload_n hC.1 hC.2.1 dX5_hasLike_32 rfl (lv_at hl 3 rfl) ?_
          refine kX5_sameBases hC hR hL hk ga3 mlX5_38 ⟨by decide, by decide⟩ hl.1 (Nat.le_of_ble_eq_true rfl) ⟨Nat.zero_le _, Nat.zero_le _⟩ dX5_hasLike_33 (fun v6 H locs hR hL gv6 hk => ?_)
          refine tw_zeq (tgt := 41) hC hk gv6 dX5_hasLike_36 (by decide) (fun _ hk => ?_) (fun _ hk => ?_)
          · cases hk
            exact ih _ out hf H locs _ gx4 hR hL (lv_sub hl [0, 1, 2, 3, 4] rfl)
          · refine lv_iconst (v := tw_I 1) hC.1 hC.2.1 dX5_hasLike_39 rfl ?_
            cases hk
            cases hf
            exact tw_zret hC hR hL rfl rfl dX5_hasLike_40
        · cases hk
          exact ih _ out hf H locs _ gx4 hR hL (lv_sub hl [0, 1, 2, 3, 4] rfl)
      · refine lv_iconst (v := tw_I 0) hC.1 hC.2.1 dX5_hasLike_47 rfl ?_
        cases hk
        cases hf
        exact tw_zret hC hR hL rfl rfl dX5_hasLike_48
    · intro H locs ls gx4 hR hL hl
      dsimp only [fX5_hasLike_S0] at hk
      refine tw_iinc (lv' := [(4, .int (tw_I (tm_wr (x4 + 1)))), (0, .ref this), (1, .ref a1), (2, .ref a2), (3, .int (tw_I a3))]) hC dX5_hasLike_41 hl (k := 4) rfl (by decide) rfl (fun ls hl => ?_)
      refine lv_goto (tgt := 3) hC.1 hC.2.1 dX5_hasLike_44 (by decide) ?_
      cases hk
      exact ih _ out hf H locs _ ((tm_wr_rg _)) hR hL (lv_sub hl [1, 2, 3, 4, 0] rfl)
theorem sX5_hasLike_L3 {l : Launch} {p : Program} {e : Env} {s : State} {m : MethodId} {args : Array Value} {below : List Frame} {meth : Method} {c : Code} (G : tw_G) (sz : Nat) (hC : tw_C G p s m args meth c RX5 cX5_hasLike 5 (some .boolean)) (this : Nat) (a1 : Nat) (a2 : Nat) (a3 : Int) (ga3 : tm_rg a3) (h : tm_H) (x4 : Int) (gx4 : tm_rg x4) (out : Int) (hk : fX5_hasLike_L3 this a1 a2 a3 h x4 = some out) (H : Heap) (locs : List Loc) (ls : Array Slot) (hR : tw_Rel G sz h H) (hL : tw_L G locs) (hl : lv_has ls 5 [(0, .ref this), (1, .ref a1), (2, .ref a2), (3, .int (tw_I a3)), (4, .int (tw_I x4))]) : W p l e rmX5_hasLike s m args below meth c H locs 0 0 (MQ below (tw_Qi G sz out h) args s 0 0 (tw_F G)) (F0 m 3 ls []) := by
  obtain ⟨k, hk⟩ := tm_wl_iff.mp hk
  exact sX5_hasLike_S0 G sz hC this a1 a2 a3 ga3 h k (.inl ((x4))) out hk H locs ls gx4 hR hL hl
theorem sX5_hasLike_L41 {l : Launch} {p : Program} {e : Env} {s : State} {m : MethodId} {args : Array Value} {below : List Frame} {meth : Method} {c : Code} (G : tw_G) (sz : Nat) (hC : tw_C G p s m args meth c RX5 cX5_hasLike 5 (some .boolean)) (this : Nat) (a1 : Nat) (a2 : Nat) (a3 : Int) (ga3 : tm_rg a3) (h : tm_H) (x4 : Int) (gx4 : tm_rg x4) (out : Int) (hk : fX5_hasLike_L41 this a1 a2 a3 h x4 = some out) (H : Heap) (locs : List Loc) (ls : Array Slot) (hR : tw_Rel G sz h H) (hL : tw_L G locs) (hl : lv_has ls 5 [(0, .ref this), (1, .ref a1), (2, .ref a2), (3, .int (tw_I a3)), (4, .int (tw_I x4))]) : W p l e rmX5_hasLike s m args below meth c H locs 0 0 (MQ below (tw_Qi G sz out h) args s 0 0 (tw_F G)) (F0 m 41 ls []) := by
  obtain ⟨k, hk⟩ := tm_wl_iff.mp hk
  exact sX5_hasLike_S0 G sz hC this a1 a2 a3 ga3 h k (.inr ((x4))) out hk H locs ls gx4 hR hL hl
set_option maxRecDepth 100000 in
set_option maxHeartbeats 4000000 in
theorem cX5_hasLike_ok (l : Launch) (G : tw_G) (sz : Nat) (this : Nat) (a1 : Nat) (a2 : Nat) (a3 : Int) (ga3 : tm_rg a3) (h : tm_H) (out : Int) (hk : fX5_hasLike this a1 a2 a3 h = some out) : Met l yX5_hasLike (tw_WS yX5_hasLike cX5_hasLike 5 (some .boolean)) rmX5_hasLike (va_Pc [.ref this, .ref a1, .ref a2, .int (tw_I a3)] (tw_Pre G sz h)) (tw_Qi G sz out h) 0 0 (tw_F G) := by
  refine tw_met (by decide +kernel) (Nat.le_of_ble_eq_true rfl) ?_
  intro p e s m args below meth c H ls hC hnm hR hl
  unfold fX5_hasLike at hk
  obtain ⟨hob, hk⟩ := tm_th_is hk
  have hl : lv_has ls 5 [(0, .ref this), (1, .ref a1), (2, .ref a2), (3, .int (tw_I a3))] := hl
  have hL : tw_L G [] := fun q z => by cases z
  generalize hlc : ([] : List Loc) = locs at hL ⊢
  refine lv_iconst (v := tw_I 0) hC.1 hC.2.1 dX5_hasLike_0 rfl ?_
  refine lv_istore (lv' := [(4, .int (tw_I 0)), (0, .ref this), (1, .ref a1), (2, .ref a2), (3, .int (tw_I a3))]) hC.1 hC.2.1 dX5_hasLike_1 hl (by decide) rfl (fun ls hl => ?_)
  exact sX5_hasLike_L3 G sz hC this a1 a2 a3 ga3 h 0 ((tw_rgL rfl)) out hk H locs _ hR hL (lv_sub hl [1, 2, 3, 4, 0] rfl)
set_option maxRecDepth 100000 in
theorem kX5_hasLike {l : Launch} {p : Program} {e : Env} {R : Room} {s : State} {m : MethodId} {args : Array Value} {below : List Frame} {meth : Method} {c : Code} {H : Heap} {locs : List Loc} {cells slots : Nat} {Q : State → Prop} {cc : ByteArray} {pc nL idx : Nat} {ls : Array Slot} {rest : List Value} {G : tw_G} {h : tm_H} {own : String} {ret : Option FieldType} {α : Type} {x : α} {sz : Nat} {this : Nat} {a1 : Nat} {a2 : Nat} {a3 : Int} (hC : tw_C G p s m args meth c own cc nL ret) (hR : tw_Rel G sz h H) (hL : tw_L G locs) {F : Int → Option α} (hk : (fX5_hasLike this a1 a2 a3 h).bind F = some x) (ga3 : tm_rg a3) (hl : tw_mL own idx yX5_hasLike) (hRm : rmX5_hasLike.frames + 1 ≤ R.frames ∧ 8 + (5 + 11) + rmX5_hasLike.locals ≤ R.locals) (hsz : ls.size = nL) (hW : (rest.map fun v => v.category).sum ≤ 8) (hf : cells + 0 ≤ R.cells ∧ slots + 0 ≤ R.slots) (hdg : decode cc pc = .ok (.invokevirtual idx, 3)) (kk : ∀ (r : Int) (H1 : Heap) (locs1 : List Loc), tw_Rel G sz h H1 → tw_L G locs1 → tm_rg r → F r = some x → W p l e R s m args below meth c H1 locs1 (cells + 0) (slots + 0) Q (F0 m (pc + 3) ls (.int (tw_I r) :: rest))) : W p l e R s m args below meth c H locs cells slots Q (F0 m pc ls (.int (tw_I a3) :: .ref a2 :: .ref a1 :: .ref this :: rest)) := by
  obtain ⟨r, hr, hF⟩ := Option.bind_eq_some_iff.mp hk
  have ob : ∀ r, fX5_hasLike this a1 a2 a3 h = some r → tm_is h 5 this := fun r hr => by
    unfold fX5_hasLike at hr
    exact (tm_th_is hr).1
  exact tw_backi (tw_runV hC hR (cX5_hasLike_ok l G sz this a1 a2 a3 ga3 h r hr) (n := 3) (As := [.ref a1, .ref a2, .int (tw_I a3)]) ⟨tw_in_TB 432 (by decide +kernel) rfl, tw_in_TB 57 (by decide +kernel) rfl, by decide +kernel⟩ (tw_in_TB 430 (by decide +kernel) rfl) (tw_in_TB 431 (by decide +kernel) rfl) hl ⟨rfl, rfl⟩ hRm (ob r hr) (T := TX5) (N := 4) rfl rfl hsz rfl hW hdg hf) hL (fun H1 locs1 a b g => kk r H1 locs1 a b g hF)
def rmX5_add : Room := { frames := 1, cells := 0, slots := 0, locals := 26 }
set_option maxRecDepth 100000 in
set_option maxHeartbeats 4000000 in
theorem cX5_add_ok (l : Launch) (G : tw_G) (sz : Nat) (this : Nat) (a1 : Nat) (a2 : Int) (ga2 : tm_rg a2) (h : tm_H) (out : tm_H) (hk : fX5_add this a1 a2 h = some out) : Met l yX5_add (tw_WS yX5_add cX5_add 3 none) rmX5_add (va_Pc [.ref this, .ref a1, .int (tw_I a2)] (tw_Pre G sz h)) (tw_Qv G sz out) 0 0 (tw_F G) := by
  refine tw_met (by decide +kernel) (Nat.le_of_ble_eq_true rfl) ?_
  intro p e s m args below meth c H ls hC hnm hR hl
  unfold fX5_add at hk
  obtain ⟨hob, hk⟩ := tm_th_is hk
  have hl : lv_has ls 3 [(0, .ref this), (1, .ref a1), (2, .int (tw_I a2))] := hl
  have hL : tw_L G [] := fun q z => by cases z
  generalize hlc : ([] : List Loc) = locs at hL ⊢
  refine lv_aload_n hC.1 hC.2.1 dX5_add_0 rfl (lv_at hl 0 rfl) ?_
  refine tw_getI hC hR hk flX5_24 dX5_add_1 (fun v1 gv1 hk => ?_)
  refine lv_bipush (v := tw_I 13) hC.1 hC.2.1 dX5_add_4 (by decide) ?_
  refine tw_cge (tgt := 25) hC hk gv1 ((tw_rgL rfl)) dX5_add_6 (by decide) (fun _ hk => ?_) (fun _ hk => ?_)
  · refine lv_iload_n hC.1 hC.2.1 dX5_add_9 rfl (lv_at hl 2 rfl) ?_
    refine lv_iconst (v := tw_I 1) hC.1 hC.2.1 dX5_add_10 rfl ?_
    refine tw_clt (tgt := 25) hC hk ga2 ((tw_rgL rfl)) dX5_add_11 (by decide) (fun _ hk => ?_) (fun _ hk => ?_)
    · cases hk
      exact tw_vret hC hR hL rfl dX5_add_25
    · refine lv_iload_n hC.1 hC.2.1 dX5_add_14 rfl (lv_at hl 2 rfl) ?_
      refine lv_iconst (v := tw_I 4) hC.1 hC.2.1 dX5_add_15 rfl ?_
      refine tw_cgt (tgt := 25) hC hk ga2 ((tw_rgL rfl)) dX5_add_16 (by decide) (fun _ hk => ?_) (fun _ hk => ?_)
      · cases hk
        exact tw_vret hC hR hL rfl dX5_add_25
      · refine lv_iload_n hC.1 hC.2.1 dX5_add_19 rfl (lv_at hl 2 rfl) ?_
        refine lv_aload_n hC.1 hC.2.1 dX5_add_20 rfl (lv_at hl 1 rfl) ?_
        refine tw_alen hC hR hk dX5_add_21 (fun v2 gv2 hk => ?_)
        refine tw_cle (tgt := 26) hC hk ga2 gv2 dX5_add_22 (by decide) (fun _ hk => ?_) (fun _ hk => ?_)
        · cases hk
          exact tw_vret hC hR hL rfl dX5_add_25
        · refine lv_aload_n hC.1 hC.2.1 dX5_add_26 rfl (lv_at hl 1 rfl) ?_
          refine lv_iconst (v := tw_I 0) hC.1 hC.2.1 dX5_add_27 rfl ?_
          refine lv_aload_n hC.1 hC.2.1 dX5_add_28 rfl (lv_at hl 0 rfl) ?_
          refine tw_getR hC hR hk flX5_13 dX5_add_29 (fun r3 hk => ?_)
          refine lv_aload_n hC.1 hC.2.1 dX5_add_32 rfl (lv_at hl 0 rfl) ?_
          refine tw_getI hC hR hk flX5_24 dX5_add_33 (fun v4 gv4 hk => ?_)
          refine tw_aald hC hR hk dX5_add_36 (fun r5 hk => ?_)
          refine lv_iconst (v := tw_I 0) hC.1 hC.2.1 dX5_add_37 rfl ?_
          refine lv_iload_n hC.1 hC.2.1 dX5_add_38 rfl (lv_at hl 2 rfl) ?_
          refine tw_cpi hC hR hL (tw_in_TB 318 (by decide +kernel) rfl) tw_acN hl.1 hk (by decide) (Nat.le_of_ble_eq_true rfl) dX5_add_39 (fun h6 H locs hR hL hk => ?_)
          refine lv_aload_n hC.1 hC.2.1 dX5_add_42 rfl (lv_at hl 0 rfl) ?_
          refine tw_getR hC hR hk flX5_16 dX5_add_43 (fun r7 hk => ?_)
          refine lv_aload_n hC.1 hC.2.1 dX5_add_46 rfl (lv_at hl 0 rfl) ?_
          refine tw_getI hC hR hk flX5_24 dX5_add_47 (fun v8 gv8 hk => ?_)
          refine lv_iload_n hC.1 hC.2.1 dX5_add_50 rfl (lv_at hl 2 rfl) ?_
          refine tw_iast hC hR hL ga2 hk dX5_add_51 (fun h9 H locs hR hL hk => ?_)
          refine lv_aload_n hC.1 hC.2.1 dX5_add_52 rfl (lv_at hl 0 rfl) ?_
          refine tw_getR hC hR hk flX5_20 dX5_add_53 (fun r10 hk => ?_)
          refine lv_aload_n hC.1 hC.2.1 dX5_add_56 rfl (lv_at hl 0 rfl) ?_
          refine tw_getI hC hR hk flX5_24 dX5_add_57 (fun v11 gv11 hk => ?_)
          refine lv_iconst (v := tw_I 0) hC.1 hC.2.1 dX5_add_60 rfl ?_
          refine tw_zast hC hR hL hk dX5_add_61 (fun h12 H locs hR hL hk => ?_)
          refine lv_aload_n hC.1 hC.2.1 dX5_add_62 rfl (lv_at hl 0 rfl) ?_
          refine lv_dup hC.1 hC.2.1 dX5_add_63 rfl ?_
          refine tw_getI hC hR hk flX5_24 dX5_add_64 (fun v13 gv13 hk => ?_)
          refine lv_iconst (v := tw_I 1) hC.1 hC.2.1 dX5_add_67 rfl ?_
          refine tw_iadd hC dX5_add_68 ?_
          refine tw_putI hC hR hL ((tm_wr_rg _)) hk fpX5_24 dX5_add_69 (fun h14 H locs hR hL hk => ?_)
          cases hk
          exact tw_vret hC hR hL rfl dX5_add_72
  · cases hk
    exact tw_vret hC hR hL rfl dX5_add_25
set_option maxRecDepth 100000 in
theorem kX5_add {l : Launch} {p : Program} {e : Env} {R : Room} {s : State} {m : MethodId} {args : Array Value} {below : List Frame} {meth : Method} {c : Code} {H : Heap} {locs : List Loc} {cells slots : Nat} {Q : State → Prop} {cc : ByteArray} {pc nL idx : Nat} {ls : Array Slot} {rest : List Value} {G : tw_G} {h : tm_H} {own : String} {ret : Option FieldType} {α : Type} {x : α} {sz : Nat} {this : Nat} {a1 : Nat} {a2 : Int} (hC : tw_C G p s m args meth c own cc nL ret) (hR : tw_Rel G sz h H) (hL : tw_L G locs) {F : tm_H → Option α} (hk : (fX5_add this a1 a2 h).bind F = some x) (ga2 : tm_rg a2) (hl : tw_mL own idx yX5_add) (hRm : rmX5_add.frames + 1 ≤ R.frames ∧ 8 + (3 + 11) + rmX5_add.locals ≤ R.locals) (hsz : ls.size = nL) (hW : (rest.map fun v => v.category).sum ≤ 8) (hf : cells + 0 ≤ R.cells ∧ slots + 0 ≤ R.slots) (hdg : decode cc pc = .ok (.invokevirtual idx, 3)) (kk : ∀ (h1 : tm_H) (H1 : Heap) (locs1 : List Loc), tw_Rel G sz h1 H1 → tw_L G locs1 → F h1 = some x → W p l e R s m args below meth c H1 locs1 (cells + 0) (slots + 0) Q (F0 m (pc + 3) ls (rest))) : W p l e R s m args below meth c H locs cells slots Q (F0 m pc ls (.int (tw_I a2) :: .ref a1 :: .ref this :: rest)) := by
  obtain ⟨r, hr, hF⟩ := Option.bind_eq_some_iff.mp hk
  have ob : ∀ r, fX5_add this a1 a2 h = some r → tm_is h 5 this := fun r hr => by
    unfold fX5_add at hr
    exact (tm_th_is hr).1
  exact tw_backv (tw_runV hC hR (cX5_add_ok l G sz this a1 a2 ga2 h r hr) (n := 2) (As := [.ref a1, .int (tw_I a2)]) ⟨tw_in_TB 441 (by decide +kernel) rfl, tw_in_TB 57 (by decide +kernel) rfl, by decide +kernel⟩ (tw_in_TB 439 (by decide +kernel) rfl) (tw_in_TB 440 (by decide +kernel) rfl) hl ⟨rfl, rfl⟩ hRm (ob r hr) (T := TX5) (N := 4) rfl rfl hsz rfl hW hdg hf) hL (fun H1 locs1 a b => kk r H1 locs1 a b hF)
def rmX2_readTerm : Room := { frames := 3, cells := 0, slots := 0, locals := 69 }
set_option maxRecDepth 100000 in
set_option maxHeartbeats 4000000 in
theorem sX2_readTerm_L44 {l : Launch} {p : Program} {e : Env} {s : State} {m : MethodId} {args : Array Value} {below : List Frame} {meth : Method} {c : Code} (G : tw_G) (sz : Nat) (hC : tw_C G p s m args meth c RX2 cX2_readTerm 3 (some .boolean)) (this : Nat)  (x1 : Int) (h : tm_H) (gx1 : tm_rg x1) (out : Int × tm_H) (hk : fX2_readTerm_L44 this x1 h = some out) (H : Heap) (locs : List Loc) (ls : Array Slot) (hR : tw_Rel G sz h H) (hL : tw_L G locs) (hl : lv_has ls 3 [(0, .ref this), (1, .int (tw_I x1))]) : W p l e rmX2_readTerm s m args below meth c H locs 0 0 (MQ below (tw_Qi G sz out.1 out.2) args s 0 0 (tw_F G)) (F0 m 44 ls []) := by
  unfold fX2_readTerm_L44 at hk
  refine lv_iload_n hC.1 hC.2.1 dX2_readTerm_44 rfl (lv_at hl 1 rfl) ?_
  refine tw_zeq (tgt := 64) hC hk gx1 dX2_readTerm_45 (by decide) (fun _ hk => ?_) (fun _ hk => ?_)
  · refine lv_iconst (v := tw_I 0) hC.1 hC.2.1 dX2_readTerm_64 rfl ?_
    cases hk
    exact tw_zret hC hR hL rfl rfl dX2_readTerm_65
  · refine lv_aload_n hC.1 hC.2.1 dX2_readTerm_48 rfl (lv_at hl 0 rfl) ?_
    refine tw_getR hC hR hk flX2_12 dX2_readTerm_49 (fun r6 hk => ?_)
    refine lv_aload_n hC.1 hC.2.1 dX2_readTerm_52 rfl (lv_at hl 0 rfl) ?_
    refine tw_getI hC hR hk flX2_31 dX2_readTerm_53 (fun v7 gv7 hk => ?_)
    refine kX6_at hC hR hL hk gv7 mlX2_69 ⟨by decide, by decide⟩ hl.1 (Nat.le_of_ble_eq_true rfl) ⟨Nat.zero_le _, Nat.zero_le _⟩ dX2_readTerm_56 (fun v8 H locs hR hL gv8 hk => ?_)
    refine lv_bipush (v := tw_I 59) hC.1 hC.2.1 dX2_readTerm_59 (by decide) ?_
    refine tw_ceq (tgt := 66) hC hk gv8 ((tw_rgL rfl)) dX2_readTerm_61 (by decide) (fun _ hk => ?_) (fun _ hk => ?_)
    · refine lv_aload_n hC.1 hC.2.1 dX2_readTerm_66 rfl (lv_at hl 0 rfl) ?_
      refine tw_getR hC hR hk flX2_21 dX2_readTerm_67 (fun r9 hk => ?_)
      refine tw_getR hC hR hk flX2_100 dX2_readTerm_70 (fun r10 hk => ?_)
      refine kX5_size hC hR hL hk mlX2_104 ⟨by decide, by decide⟩ hl.1 (Nat.le_of_ble_eq_true rfl) ⟨Nat.zero_le _, Nat.zero_le _⟩ dX2_readTerm_73 (fun v11 H locs hR hL gv11 hk => ?_)
      refine lv_bipush (v := tw_I 12) hC.1 hC.2.1 dX2_readTerm_76 (by decide) ?_
      refine tw_cge (tgt := 106) hC hk gv11 ((tw_rgL rfl)) dX2_readTerm_78 (by decide) (fun _ hk => ?_) (fun _ hk => ?_)
      · refine lv_aload_n hC.1 hC.2.1 dX2_readTerm_81 rfl (lv_at hl 0 rfl) ?_
        refine tw_getR hC hR hk flX2_21 dX2_readTerm_82 (fun r12 hk => ?_)
        refine tw_getR hC hR hk flX2_100 dX2_readTerm_85 (fun r13 hk => ?_)
        refine lv_aload_n hC.1 hC.2.1 dX2_readTerm_88 rfl (lv_at hl 0 rfl) ?_
        refine tw_getR hC hR hk flX2_21 dX2_readTerm_89 (fun r14 hk => ?_)
        refine tw_getR hC hR hk flX2_107 dX2_readTerm_92 (fun r15 hk => ?_)
        refine lv_aload_n hC.1 hC.2.1 dX2_readTerm_95 rfl (lv_at hl 0 rfl) ?_
        refine tw_getR hC hR hk flX2_27 dX2_readTerm_96 (fun r16 hk => ?_)
        refine lv_iload_n hC.1 hC.2.1 dX2_readTerm_99 rfl (lv_at hl 1 rfl) ?_
        refine kX5_hasLike hC hR hL hk gx1 mlX2_111 ⟨by decide, by decide⟩ hl.1 (Nat.le_of_ble_eq_true rfl) ⟨Nat.zero_le _, Nat.zero_le _⟩ dX2_readTerm_100 (fun v17 H locs hR hL gv17 hk => ?_)
        refine tw_zeq (tgt := 108) hC hk gv17 dX2_readTerm_103 (by decide) (fun _ hk => ?_) (fun _ hk => ?_)
        · refine lv_aload_n hC.1 hC.2.1 dX2_readTerm_108 rfl (lv_at hl 0 rfl) ?_
          refine tw_getR hC hR hk flX2_21 dX2_readTerm_109 (fun r18 hk => ?_)
          refine tw_getR hC hR hk flX2_100 dX2_readTerm_112 (fun r19 hk => ?_)
          refine lv_aload_n hC.1 hC.2.1 dX2_readTerm_115 rfl (lv_at hl 0 rfl) ?_
          refine tw_getR hC hR hk flX2_27 dX2_readTerm_116 (fun r20 hk => ?_)
          refine lv_iload_n hC.1 hC.2.1 dX2_readTerm_119 rfl (lv_at hl 1 rfl) ?_
          refine kX5_add hC hR hL hk gx1 mlX2_115 ⟨by decide, by decide⟩ hl.1 (Nat.le_of_ble_eq_true rfl) ⟨Nat.zero_le _, Nat.zero_le _⟩ dX2_readTerm_120 (fun h21 H locs hR hL hk => ?_)
          refine lv_aload_n hC.1 hC.2.1 dX2_readTerm_123 rfl (lv_at hl 0 rfl) ?_
          refine lv_bipush (v := tw_I 59) hC.1 hC.2.1 dX2_readTerm_124 (by decide) ?_
          refine kX2_pass hC hR hL hk ((tw_rgL rfl)) mlX2_83 ⟨by decide, by decide⟩ hl.1 (Nat.le_of_ble_eq_true rfl) ⟨Nat.zero_le _, Nat.zero_le _⟩ dX2_readTerm_126 (fun v22 h22 H locs hR hL gv22 hk => ?_)
          obtain ⟨z, hz, hk⟩ := Option.bind_eq_some_iff.mp hk
          cases hk
          exact tw_zret hC hR hL hz rfl dX2_readTerm_129
        · refine lv_iconst (v := tw_I 0) hC.1 hC.2.1 dX2_readTerm_106 rfl ?_
          cases hk
          exact tw_zret hC hR hL rfl rfl dX2_readTerm_107
      · refine lv_iconst (v := tw_I 0) hC.1 hC.2.1 dX2_readTerm_106 rfl ?_
        cases hk
        exact tw_zret hC hR hL rfl rfl dX2_readTerm_107
    · refine lv_iconst (v := tw_I 0) hC.1 hC.2.1 dX2_readTerm_64 rfl ?_
      cases hk
      exact tw_zret hC hR hL rfl rfl dX2_readTerm_65
set_option maxRecDepth 100000 in
set_option maxHeartbeats 4000000 in
theorem sX2_readTerm_S1 {l : Launch} {p : Program} {e : Env} {s : State} {m : MethodId} {args : Array Value} {below : List Frame} {meth : Method} {c : Code} (G : tw_G) (sz : Nat) (hC : tw_C G p s m args meth c RX2 cX2_readTerm 3 (some .boolean)) (this : Nat)  : ∀ (k : Nat) (st : (Int × tm_H)) (out : Int × tm_H), tm_wit (fX2_readTerm_S1 this) k st = some out → match st with
    | (x1, h) => ∀ (H : Heap) (locs : List Loc) (ls : Array Slot), tm_rg x1 → tw_Rel G sz h H → tw_L G locs → lv_has ls 3 [(0, .ref this), (1, .int (tw_I x1))] → W p l e rmX2_readTerm s m args below meth c H locs 0 0 (MQ below (tw_Qi G sz out.1 out.2) args s 0 0 (tw_F G)) (F0 m 6 ls []) := by
  intro k
  induction k with
  | zero =>
    intro st out hk
    exact absurd hk (by unfold tm_wit; exact fun z => by cases z)
  | succ k ih =>
    intro st out hk
    obtain ⟨X, hk, hf⟩ := tm_wit_succ hk
    obtain ⟨x1, h⟩ := st
    intro H locs ls gx1 hR hL hl
    dsimp only [fX2_readTerm_S1] at hk
    refine lv_iload_n hC.1 hC.2.1 dX2_readTerm_6 rfl (lv_at hl 1 rfl) ?_
    refine lv_iconst (v := tw_I 4) hC.1 hC.2.1 dX2_readTerm_7 rfl ?_
    refine tw_cge (tgt := 44) hC hk gx1 ((tw_rgL rfl)) dX2_readTerm_8 (by decide) (fun _ hk => ?_) (fun _ hk => ?_)
    · refine lv_aload_n hC.1 hC.2.1 dX2_readTerm_11 rfl (lv_at hl 0 rfl) ?_
      refine kX2_isRun hC hR hL hk mlX2_90 ⟨by decide, by decide⟩ hl.1 (Nat.le_of_ble_eq_true rfl) ⟨Nat.zero_le _, Nat.zero_le _⟩ dX2_readTerm_12 (fun v2 H locs hR hL gv2 hk => ?_)
      refine tw_zeq (tgt := 44) hC hk gv2 dX2_readTerm_15 (by decide) (fun _ hk => ?_) (fun _ hk => ?_)
      · obtain ⟨r, hk2, hX⟩ := tm_out_some hk
        rw [hX] at hf
        have hr : r = out := Option.some.inj hf
        rw [hr] at hk2
        exact sX2_readTerm_L44 G sz hC this x1 h gx1 out hk2 H locs _ hR hL (lv_sub hl [0, 1] rfl)
      · refine lv_aload_n hC.1 hC.2.1 dX2_readTerm_18 rfl (lv_at hl 0 rfl) ?_
        refine kX2_readWord hC hR hL hk mlX2_93 ⟨by decide, by decide⟩ hl.1 (Nat.le_of_ble_eq_true rfl) ⟨Nat.zero_le _, Nat.zero_le _⟩ dX2_readTerm_19 (fun v3 h3 H locs hR hL gv3 hk => ?_)
        refine lv_istore_n (lv' := [(2, .int (tw_I v3)), (0, .ref this), (1, .int (tw_I x1))]) hC.1 hC.2.1 dX2_readTerm_22 rfl hl (by decide) rfl (fun ls hl => ?_)
        refine lv_iload_n hC.1 hC.2.1 dX2_readTerm_23 rfl (lv_at hl 0 rfl) ?_
        refine lv_bipush (v := tw_I (-99)) hC.1 hC.2.1 dX2_readTerm_24 (by decide) ?_
        refine tw_cne (tgt := 31) hC hk gv3 ((tw_rgL rfl)) dX2_readTerm_26 (by decide) (fun _ hk => ?_) (fun _ hk => ?_)
        · refine lv_iconst (v := tw_I 0) hC.1 hC.2.1 dX2_readTerm_29 rfl ?_
          cases hk
          cases hf
          exact tw_zret hC hR hL rfl rfl dX2_readTerm_30
        · refine lv_aload_n hC.1 hC.2.1 dX2_readTerm_31 rfl (lv_at hl 1 rfl) ?_
          refine tw_getR hC hR hk flX2_27 dX2_readTerm_32 (fun r4 hk => ?_)
          refine lv_iload_n hC.1 hC.2.1 dX2_readTerm_35 rfl (lv_at hl 2 rfl) ?_
          refine lv_iload_n hC.1 hC.2.1 dX2_readTerm_36 rfl (lv_at hl 0 rfl) ?_
          refine tw_iast hC hR hL gv3 hk dX2_readTerm_37 (fun h5 H locs hR hL hk => ?_)
          refine tw_iinc (lv' := [(1, .int (tw_I (tm_wr (x1 + 1)))), (2, .int (tw_I v3)), (0, .ref this)]) hC dX2_readTerm_38 hl (k := 2) rfl (by decide) rfl (fun ls hl => ?_)
          refine lv_goto (tgt := 6) hC.1 hC.2.1 dX2_readTerm_41 (by decide) ?_
          cases hk
          exact ih _ out hf H locs _ ((tm_wr_rg _)) hR hL (lv_sub hl [2, 0] rfl)
    · obtain ⟨r, hk2, hX⟩ := tm_out_some hk
      rw [hX] at hf
      have hr : r = out := Option.some.inj hf
      rw [hr] at hk2
      exact sX2_readTerm_L44 G sz hC this x1 h gx1 out hk2 H locs _ hR hL (lv_sub hl [0, 1] rfl)
theorem sX2_readTerm_L6 {l : Launch} {p : Program} {e : Env} {s : State} {m : MethodId} {args : Array Value} {below : List Frame} {meth : Method} {c : Code} (G : tw_G) (sz : Nat) (hC : tw_C G p s m args meth c RX2 cX2_readTerm 3 (some .boolean)) (this : Nat)  (x1 : Int) (h : tm_H) (gx1 : tm_rg x1) (out : Int × tm_H) (hk : fX2_readTerm_L6 this x1 h = some out) (H : Heap) (locs : List Loc) (ls : Array Slot) (hR : tw_Rel G sz h H) (hL : tw_L G locs) (hl : lv_has ls 3 [(0, .ref this), (1, .int (tw_I x1))]) : W p l e rmX2_readTerm s m args below meth c H locs 0 0 (MQ below (tw_Qi G sz out.1 out.2) args s 0 0 (tw_F G)) (F0 m 6 ls []) := by
  obtain ⟨k, hk⟩ := tm_wl_iff.mp hk
  exact sX2_readTerm_S1 G sz hC this  k ((x1, h)) out hk H locs ls gx1 hR hL hl
set_option maxRecDepth 100000 in
set_option maxHeartbeats 4000000 in
theorem cX2_readTerm_ok (l : Launch) (G : tw_G) (sz : Nat) (this : Nat)  (h : tm_H) (out : Int × tm_H) (hk : fX2_readTerm this h = some out) : Met l yX2_readTerm (tw_WS yX2_readTerm cX2_readTerm 3 (some .boolean)) rmX2_readTerm (va_Pc [.ref this] (tw_Pre G sz h)) (tw_Qi G sz out.1 out.2) 0 0 (tw_F G) := by
  refine tw_met (by decide +kernel) (Nat.le_of_ble_eq_true rfl) ?_
  intro p e s m args below meth c H ls hC hnm hR hl
  unfold fX2_readTerm at hk
  obtain ⟨hob, hk⟩ := tm_th_is hk
  have hl : lv_has ls 3 [(0, .ref this)] := hl
  have hL : tw_L G [] := fun q z => by cases z
  generalize hlc : ([] : List Loc) = locs at hL ⊢
  refine lv_aload_n hC.1 hC.2.1 dX2_readTerm_0 rfl (lv_at hl 0 rfl) ?_
  refine kX2_step hC hR hL hk mlX2_42 ⟨by decide, by decide⟩ hl.1 (Nat.le_of_ble_eq_true rfl) ⟨Nat.zero_le _, Nat.zero_le _⟩ dX2_readTerm_1 (fun h1 H locs hR hL hk => ?_)
  refine lv_iconst (v := tw_I 0) hC.1 hC.2.1 dX2_readTerm_4 rfl ?_
  refine lv_istore_n (lv' := [(1, .int (tw_I 0)), (0, .ref this)]) hC.1 hC.2.1 dX2_readTerm_5 rfl hl (by decide) rfl (fun ls hl => ?_)
  exact sX2_readTerm_L6 G sz hC this 0 h1 ((tw_rgL rfl)) out hk H locs _ hR hL (lv_sub hl [1, 0] rfl)
set_option maxRecDepth 100000 in
theorem kX2_readTerm {l : Launch} {p : Program} {e : Env} {R : Room} {s : State} {m : MethodId} {args : Array Value} {below : List Frame} {meth : Method} {c : Code} {H : Heap} {locs : List Loc} {cells slots : Nat} {Q : State → Prop} {cc : ByteArray} {pc nL idx : Nat} {ls : Array Slot} {rest : List Value} {G : tw_G} {h : tm_H} {own : String} {ret : Option FieldType} {α : Type} {x : α} {sz : Nat} {this : Nat} (hC : tw_C G p s m args meth c own cc nL ret) (hR : tw_Rel G sz h H) (hL : tw_L G locs) {F : Int × tm_H → Option α} (hk : (fX2_readTerm this h).bind F = some x)  (hl : tw_mL own idx yX2_readTerm) (hRm : rmX2_readTerm.frames + 1 ≤ R.frames ∧ 8 + (3 + 11) + rmX2_readTerm.locals ≤ R.locals) (hsz : ls.size = nL) (hW : (rest.map fun v => v.category).sum ≤ 8) (hf : cells + 0 ≤ R.cells ∧ slots + 0 ≤ R.slots) (hdg : decode cc pc = .ok (.invokevirtual idx, 3)) (kk : ∀ (r : Int) (h1 : tm_H) (H1 : Heap) (locs1 : List Loc), tw_Rel G sz h1 H1 → tw_L G locs1 → tm_rg r → F (r, h1) = some x → W p l e R s m args below meth c H1 locs1 (cells + 0) (slots + 0) Q (F0 m (pc + 3) ls (.int (tw_I r) :: rest))) : W p l e R s m args below meth c H locs cells slots Q (F0 m pc ls (.ref this :: rest)) := by
  obtain ⟨r, hr, hF⟩ := Option.bind_eq_some_iff.mp hk
  have ob : ∀ r, fX2_readTerm this h = some r → tm_is h 2 this := fun r hr => by
    unfold fX2_readTerm at hr
    exact (tm_th_is hr).1
  exact tw_backi (tw_runV hC hR (cX2_readTerm_ok l G sz this  h r hr) (n := 0) (As := []) ⟨tw_in_TB 657 (by decide +kernel) rfl, tw_in_TB 59 (by decide +kernel) rfl, by decide +kernel⟩ (tw_in_TB 656 (by decide +kernel) rfl) (tw_in_TB 13 (by decide +kernel) rfl) hl ⟨rfl, rfl⟩ hRm (ob r hr) (T := TX2) (N := 5) rfl rfl hsz rfl hW hdg hf) hL (fun H1 locs1 a b g => kk r.1 r.2 H1 locs1 a b g hF)
def rmX7_isForm : Room := { frames := 1, cells := 0, slots := 0, locals := 21 }
set_option maxRecDepth 100000 in
set_option maxHeartbeats 4000000 in
theorem cX7_isForm_ok (l : Launch) (G : tw_G) (sz : Nat) (this : Nat) (a1 : Int) (ga1 : tm_rg a1) (h : tm_H) (out : Int) (hk : fX7_isForm this a1 h = some out) : Met l yX7_isForm (tw_WS yX7_isForm cX7_isForm 2 (some .boolean)) rmX7_isForm (va_Pc [.ref this, .int (tw_I a1)] (tw_Pre G sz h)) (tw_Qi G sz out h) 0 0 (tw_F G) := by
  refine tw_met (by decide +kernel) (Nat.le_of_ble_eq_true rfl) ?_
  intro p e s m args below meth c H ls hC hnm hR hl
  unfold fX7_isForm at hk
  obtain ⟨hob, hk⟩ := tm_th_is hk
  have hl : lv_has ls 2 [(0, .ref this), (1, .int (tw_I a1))] := hl
  have hL : tw_L G [] := fun q z => by cases z
  generalize hlc : ([] : List Loc) = locs at hL ⊢
  refine lv_aload_n hC.1 hC.2.1 dX7_isForm_0 rfl (lv_at hl 0 rfl) ?_
  refine lv_iload_n hC.1 hC.2.1 dX7_isForm_1 rfl (lv_at hl 1 rfl) ?_
  refine kX7_baseOf hC hR hL hk ga1 mlX7_31 ⟨by decide, by decide⟩ hl.1 (Nat.le_of_ble_eq_true rfl) ⟨Nat.zero_le _, Nat.zero_le _⟩ dX7_isForm_2 (fun v1 H locs hR hL gv1 hk => ?_)
  refine lv_iload_n hC.1 hC.2.1 dX7_isForm_5 rfl (lv_at hl 1 rfl) ?_
  refine tw_ceq (tgt := 13) hC hk gv1 ga1 dX7_isForm_6 (by decide) (fun _ hk => ?_) (fun _ hk => ?_)
  · refine lv_iconst (v := tw_I 0) hC.1 hC.2.1 dX7_isForm_13 rfl ?_
    cases hk
    exact tw_zret hC hR hL rfl rfl dX7_isForm_14
  · refine lv_iconst (v := tw_I 1) hC.1 hC.2.1 dX7_isForm_9 rfl ?_
    refine lv_goto (tgt := 14) hC.1 hC.2.1 dX7_isForm_10 (by decide) ?_
    cases hk
    exact tw_zret hC hR hL rfl rfl dX7_isForm_14
set_option maxRecDepth 100000 in
theorem kX7_isForm {l : Launch} {p : Program} {e : Env} {R : Room} {s : State} {m : MethodId} {args : Array Value} {below : List Frame} {meth : Method} {c : Code} {H : Heap} {locs : List Loc} {cells slots : Nat} {Q : State → Prop} {cc : ByteArray} {pc nL idx : Nat} {ls : Array Slot} {rest : List Value} {G : tw_G} {h : tm_H} {own : String} {ret : Option FieldType} {α : Type} {x : α} {sz : Nat} {this : Nat} {a1 : Int} (hC : tw_C G p s m args meth c own cc nL ret) (hR : tw_Rel G sz h H) (hL : tw_L G locs) {F : Int → Option α} (hk : (fX7_isForm this a1 h).bind F = some x) (ga1 : tm_rg a1) (hl : tw_mL own idx yX7_isForm) (hRm : rmX7_isForm.frames + 1 ≤ R.frames ∧ 8 + (2 + 11) + rmX7_isForm.locals ≤ R.locals) (hsz : ls.size = nL) (hW : (rest.map fun v => v.category).sum ≤ 8) (hf : cells + 0 ≤ R.cells ∧ slots + 0 ≤ R.slots) (hdg : decode cc pc = .ok (.invokevirtual idx, 3)) (kk : ∀ (r : Int) (H1 : Heap) (locs1 : List Loc), tw_Rel G sz h H1 → tw_L G locs1 → tm_rg r → F r = some x → W p l e R s m args below meth c H1 locs1 (cells + 0) (slots + 0) Q (F0 m (pc + 3) ls (.int (tw_I r) :: rest))) : W p l e R s m args below meth c H locs cells slots Q (F0 m pc ls (.int (tw_I a1) :: .ref this :: rest)) := by
  obtain ⟨r, hr, hF⟩ := Option.bind_eq_some_iff.mp hk
  have ob : ∀ r, fX7_isForm this a1 h = some r → tm_is h 7 this := fun r hr => by
    unfold fX7_isForm at hr
    exact (tm_th_is hr).1
  exact tw_backi (tw_runV hC hR (cX7_isForm_ok l G sz this a1 ga1 h r hr) (n := 1) (As := [.int (tw_I a1)]) ⟨tw_in_TB 470 (by decide +kernel) rfl, tw_in_TB 55 (by decide +kernel) rfl, by decide +kernel⟩ (tw_in_TB 468 (by decide +kernel) rfl) (tw_in_TB 469 (by decide +kernel) rfl) hl ⟨rfl, rfl⟩ hRm (ob r hr) (T := TX7) (N := 3) rfl rfl hsz rfl hW hdg hf) hL (fun H1 locs1 a b g => kk r H1 locs1 a b g hF)
def rmX7_hasForms : Room := { frames := 0, cells := 0, slots := 0, locals := 0 }
set_option maxRecDepth 100000 in
set_option maxHeartbeats 4000000 in
theorem sX7_hasForms_S0 {l : Launch} {p : Program} {e : Env} {s : State} {m : MethodId} {args : Array Value} {below : List Frame} {meth : Method} {c : Code} (G : tw_G) (sz : Nat) (hC : tw_C G p s m args meth c RX7 cX7_hasForms 3 (some .boolean)) (this : Nat) (a1 : Int) (ga1 : tm_rg a1) (h : tm_H) : ∀ (k : Nat) (st : (Int) ⊕ (Int)) (out : Int), tm_wit (fX7_hasForms_S0 this a1 h) k st = some out → match st with
    | .inl ((x2)) => ∀ (H : Heap) (locs : List Loc) (ls : Array Slot), tm_rg x2 → tw_Rel G sz h H → tw_L G locs → lv_has ls 3 [(0, .ref this), (1, .int (tw_I a1)), (2, .int (tw_I x2))] → W p l e rmX7_hasForms s m args below meth c H locs 0 0 (MQ below (tw_Qi G sz out h) args s 0 0 (tw_F G)) (F0 m 2 ls [])
    | .inr ((x2)) => ∀ (H : Heap) (locs : List Loc) (ls : Array Slot), tm_rg x2 → tw_Rel G sz h H → tw_L G locs → lv_has ls 3 [(0, .ref this), (1, .int (tw_I a1)), (2, .int (tw_I x2))] → W p l e rmX7_hasForms s m args below meth c H locs 0 0 (MQ below (tw_Qi G sz out h) args s 0 0 (tw_F G)) (F0 m 27 ls []) := by
  intro k
  induction k with
  | zero =>
    intro st out hk
    exact absurd hk (by unfold tm_wit; exact fun z => by cases z)
  | succ k ih =>
    intro st out hk
    obtain ⟨X, hk, hf⟩ := tm_wit_succ hk
    obtain x2 | x2 := st
    · intro H locs ls gx2 hR hL hl
      dsimp only [fX7_hasForms_S0] at hk
      refine lv_iload_n hC.1 hC.2.1 dX7_hasForms_2 rfl (lv_at hl 2 rfl) ?_
      refine lv_aload_n hC.1 hC.2.1 dX7_hasForms_3 rfl (lv_at hl 0 rfl) ?_
      refine tw_getI hC hR hk flX7_19 dX7_hasForms_4 (fun v1 gv1 hk => ?_)
      refine tw_cge (tgt := 33) hC hk gx2 gv1 dX7_hasForms_7 (by decide) (fun _ hk => ?_) (fun _ hk => ?_)
      · refine lv_iload_n hC.1 hC.2.1 dX7_hasForms_10 rfl (lv_at hl 2 rfl) ?_
        refine lv_iload_n hC.1 hC.2.1 dX7_hasForms_11 rfl (lv_at hl 1 rfl) ?_
        refine tw_ceq (tgt := 27) hC hk gx2 ga1 dX7_hasForms_12 (by decide) (fun _ hk => ?_) (fun _ hk => ?_)
        · cases hk
          exact ih _ out hf H locs _ gx2 hR hL (lv_sub hl [0, 1, 2] rfl)
        · refine lv_aload_n hC.1 hC.2.1 dX7_hasForms_15 rfl (lv_at hl 0 rfl) ?_
          refine tw_getR hC hR hk flX7_15 dX7_hasForms_16 (fun r2 hk => ?_)
          refine lv_iload_n hC.1 hC.2.1 dX7_hasForms_19 rfl (lv_at hl 2 rfl) ?_
          refine tw_iald hC hR hk dX7_hasForms_20 (fun v3 gv3 hk => ?_)
          refine lv_iload_n hC.1 hC.2.1 dX7_hasForms_21 rfl (lv_at hl 1 rfl) ?_
          refine tw_cne (tgt := 27) hC hk gv3 ga1 dX7_hasForms_22 (by decide) (fun _ hk => ?_) (fun _ hk => ?_)
          · refine lv_iconst (v := tw_I 1) hC.1 hC.2.1 dX7_hasForms_25 rfl ?_
            cases hk
            cases hf
            exact tw_zret hC hR hL rfl rfl dX7_hasForms_26
          · cases hk
            exact ih _ out hf H locs _ gx2 hR hL (lv_sub hl [0, 1, 2] rfl)
      · refine lv_iconst (v := tw_I 0) hC.1 hC.2.1 dX7_hasForms_33 rfl ?_
        cases hk
        cases hf
        exact tw_zret hC hR hL rfl rfl dX7_hasForms_34
    · intro H locs ls gx2 hR hL hl
      dsimp only [fX7_hasForms_S0] at hk
      refine tw_iinc (lv' := [(2, .int (tw_I (tm_wr (x2 + 1)))), (0, .ref this), (1, .int (tw_I a1))]) hC dX7_hasForms_27 hl (k := 2) rfl (by decide) rfl (fun ls hl => ?_)
      refine lv_goto (tgt := 2) hC.1 hC.2.1 dX7_hasForms_30 (by decide) ?_
      cases hk
      exact ih _ out hf H locs _ ((tm_wr_rg _)) hR hL (lv_sub hl [1, 2, 0] rfl)
theorem sX7_hasForms_L2 {l : Launch} {p : Program} {e : Env} {s : State} {m : MethodId} {args : Array Value} {below : List Frame} {meth : Method} {c : Code} (G : tw_G) (sz : Nat) (hC : tw_C G p s m args meth c RX7 cX7_hasForms 3 (some .boolean)) (this : Nat) (a1 : Int) (ga1 : tm_rg a1) (h : tm_H) (x2 : Int) (gx2 : tm_rg x2) (out : Int) (hk : fX7_hasForms_L2 this a1 h x2 = some out) (H : Heap) (locs : List Loc) (ls : Array Slot) (hR : tw_Rel G sz h H) (hL : tw_L G locs) (hl : lv_has ls 3 [(0, .ref this), (1, .int (tw_I a1)), (2, .int (tw_I x2))]) : W p l e rmX7_hasForms s m args below meth c H locs 0 0 (MQ below (tw_Qi G sz out h) args s 0 0 (tw_F G)) (F0 m 2 ls []) := by
  obtain ⟨k, hk⟩ := tm_wl_iff.mp hk
  exact sX7_hasForms_S0 G sz hC this a1 ga1 h k (.inl ((x2))) out hk H locs ls gx2 hR hL hl
theorem sX7_hasForms_L27 {l : Launch} {p : Program} {e : Env} {s : State} {m : MethodId} {args : Array Value} {below : List Frame} {meth : Method} {c : Code} (G : tw_G) (sz : Nat) (hC : tw_C G p s m args meth c RX7 cX7_hasForms 3 (some .boolean)) (this : Nat) (a1 : Int) (ga1 : tm_rg a1) (h : tm_H) (x2 : Int) (gx2 : tm_rg x2) (out : Int) (hk : fX7_hasForms_L27 this a1 h x2 = some out) (H : Heap) (locs : List Loc) (ls : Array Slot) (hR : tw_Rel G sz h H) (hL : tw_L G locs) (hl : lv_has ls 3 [(0, .ref this), (1, .int (tw_I a1)), (2, .int (tw_I x2))]) : W p l e rmX7_hasForms s m args below meth c H locs 0 0 (MQ below (tw_Qi G sz out h) args s 0 0 (tw_F G)) (F0 m 27 ls []) := by
  obtain ⟨k, hk⟩ := tm_wl_iff.mp hk
  exact sX7_hasForms_S0 G sz hC this a1 ga1 h k (.inr ((x2))) out hk H locs ls gx2 hR hL hl
set_option maxRecDepth 100000 in
set_option maxHeartbeats 4000000 in
theorem cX7_hasForms_ok (l : Launch) (G : tw_G) (sz : Nat) (this : Nat) (a1 : Int) (ga1 : tm_rg a1) (h : tm_H) (out : Int) (hk : fX7_hasForms this a1 h = some out) : Met l yX7_hasForms (tw_WS yX7_hasForms cX7_hasForms 3 (some .boolean)) rmX7_hasForms (va_Pc [.ref this, .int (tw_I a1)] (tw_Pre G sz h)) (tw_Qi G sz out h) 0 0 (tw_F G) := by
  refine tw_met (by decide +kernel) (Nat.le_of_ble_eq_true rfl) ?_
  intro p e s m args below meth c H ls hC hnm hR hl
  unfold fX7_hasForms at hk
  obtain ⟨hob, hk⟩ := tm_th_is hk
  have hl : lv_has ls 3 [(0, .ref this), (1, .int (tw_I a1))] := hl
  have hL : tw_L G [] := fun q z => by cases z
  generalize hlc : ([] : List Loc) = locs at hL ⊢
  refine lv_iconst (v := tw_I 0) hC.1 hC.2.1 dX7_hasForms_0 rfl ?_
  refine lv_istore_n (lv' := [(2, .int (tw_I 0)), (0, .ref this), (1, .int (tw_I a1))]) hC.1 hC.2.1 dX7_hasForms_1 rfl hl (by decide) rfl (fun ls hl => ?_)
  exact sX7_hasForms_L2 G sz hC this a1 ga1 h 0 ((tw_rgL rfl)) out hk H locs _ hR hL (lv_sub hl [1, 2, 0] rfl)
set_option maxRecDepth 100000 in
theorem kX7_hasForms {l : Launch} {p : Program} {e : Env} {R : Room} {s : State} {m : MethodId} {args : Array Value} {below : List Frame} {meth : Method} {c : Code} {H : Heap} {locs : List Loc} {cells slots : Nat} {Q : State → Prop} {cc : ByteArray} {pc nL idx : Nat} {ls : Array Slot} {rest : List Value} {G : tw_G} {h : tm_H} {own : String} {ret : Option FieldType} {α : Type} {x : α} {sz : Nat} {this : Nat} {a1 : Int} (hC : tw_C G p s m args meth c own cc nL ret) (hR : tw_Rel G sz h H) (hL : tw_L G locs) {F : Int → Option α} (hk : (fX7_hasForms this a1 h).bind F = some x) (ga1 : tm_rg a1) (hl : tw_mL own idx yX7_hasForms) (hRm : rmX7_hasForms.frames + 1 ≤ R.frames ∧ 8 + (3 + 11) + rmX7_hasForms.locals ≤ R.locals) (hsz : ls.size = nL) (hW : (rest.map fun v => v.category).sum ≤ 8) (hf : cells + 0 ≤ R.cells ∧ slots + 0 ≤ R.slots) (hdg : decode cc pc = .ok (.invokevirtual idx, 3)) (kk : ∀ (r : Int) (H1 : Heap) (locs1 : List Loc), tw_Rel G sz h H1 → tw_L G locs1 → tm_rg r → F r = some x → W p l e R s m args below meth c H1 locs1 (cells + 0) (slots + 0) Q (F0 m (pc + 3) ls (.int (tw_I r) :: rest))) : W p l e R s m args below meth c H locs cells slots Q (F0 m pc ls (.int (tw_I a1) :: .ref this :: rest)) := by
  obtain ⟨r, hr, hF⟩ := Option.bind_eq_some_iff.mp hk
  have ob : ∀ r, fX7_hasForms this a1 h = some r → tm_is h 7 this := fun r hr => by
    unfold fX7_hasForms at hr
    exact (tm_th_is hr).1
  exact tw_backi (tw_runV hC hR (cX7_hasForms_ok l G sz this a1 ga1 h r hr) (n := 1) (As := [.int (tw_I a1)]) ⟨tw_in_TB 475 (by decide +kernel) rfl, tw_in_TB 55 (by decide +kernel) rfl, by decide +kernel⟩ (tw_in_TB 473 (by decide +kernel) rfl) (tw_in_TB 474 (by decide +kernel) rfl) hl ⟨rfl, rfl⟩ hRm (ob r hr) (T := TX7) (N := 3) rfl rfl hsz rfl hW hdg hf) hL (fun H1 locs1 a b g => kk r H1 locs1 a b g hF)
def rmX7_has : Room := { frames := 0, cells := 0, slots := 0, locals := 0 }
set_option maxRecDepth 100000 in
set_option maxHeartbeats 4000000 in
theorem cX7_has_ok (l : Launch) (G : tw_G) (sz : Nat) (this : Nat) (a1 : Int) (ga1 : tm_rg a1) (h : tm_H) (out : Int) (hk : fX7_has this a1 h = some out) : Met l yX7_has (tw_WS yX7_has cX7_has 2 (some .boolean)) rmX7_has (va_Pc [.ref this, .int (tw_I a1)] (tw_Pre G sz h)) (tw_Qi G sz out h) 0 0 (tw_F G) := by
  refine tw_met (by decide +kernel) (Nat.le_of_ble_eq_true rfl) ?_
  intro p e s m args below meth c H ls hC hnm hR hl
  unfold fX7_has at hk
  obtain ⟨hob, hk⟩ := tm_th_is hk
  have hl : lv_has ls 2 [(0, .ref this), (1, .int (tw_I a1))] := hl
  have hL : tw_L G [] := fun q z => by cases z
  generalize hlc : ([] : List Loc) = locs at hL ⊢
  refine lv_iload_n hC.1 hC.2.1 dX7_has_0 rfl (lv_at hl 1 rfl) ?_
  refine tw_zlt (tgt := 16) hC hk ga1 dX7_has_1 (by decide) (fun _ hk => ?_) (fun _ hk => ?_)
  · refine lv_iconst (v := tw_I 0) hC.1 hC.2.1 dX7_has_16 rfl ?_
    cases hk
    exact tw_zret hC hR hL rfl rfl dX7_has_17
  · refine lv_iload_n hC.1 hC.2.1 dX7_has_4 rfl (lv_at hl 1 rfl) ?_
    refine lv_aload_n hC.1 hC.2.1 dX7_has_5 rfl (lv_at hl 0 rfl) ?_
    refine tw_getI hC hR hk flX7_19 dX7_has_6 (fun v1 gv1 hk => ?_)
    refine tw_cge (tgt := 16) hC hk ga1 gv1 dX7_has_9 (by decide) (fun _ hk => ?_) (fun _ hk => ?_)
    · refine lv_iconst (v := tw_I 1) hC.1 hC.2.1 dX7_has_12 rfl ?_
      refine lv_goto (tgt := 17) hC.1 hC.2.1 dX7_has_13 (by decide) ?_
      cases hk
      exact tw_zret hC hR hL rfl rfl dX7_has_17
    · refine lv_iconst (v := tw_I 0) hC.1 hC.2.1 dX7_has_16 rfl ?_
      cases hk
      exact tw_zret hC hR hL rfl rfl dX7_has_17
set_option maxRecDepth 100000 in
theorem kX7_has {l : Launch} {p : Program} {e : Env} {R : Room} {s : State} {m : MethodId} {args : Array Value} {below : List Frame} {meth : Method} {c : Code} {H : Heap} {locs : List Loc} {cells slots : Nat} {Q : State → Prop} {cc : ByteArray} {pc nL idx : Nat} {ls : Array Slot} {rest : List Value} {G : tw_G} {h : tm_H} {own : String} {ret : Option FieldType} {α : Type} {x : α} {sz : Nat} {this : Nat} {a1 : Int} (hC : tw_C G p s m args meth c own cc nL ret) (hR : tw_Rel G sz h H) (hL : tw_L G locs) {F : Int → Option α} (hk : (fX7_has this a1 h).bind F = some x) (ga1 : tm_rg a1) (hl : tw_mL own idx yX7_has) (hRm : rmX7_has.frames + 1 ≤ R.frames ∧ 8 + (2 + 11) + rmX7_has.locals ≤ R.locals) (hsz : ls.size = nL) (hW : (rest.map fun v => v.category).sum ≤ 8) (hf : cells + 0 ≤ R.cells ∧ slots + 0 ≤ R.slots) (hdg : decode cc pc = .ok (.invokevirtual idx, 3)) (kk : ∀ (r : Int) (H1 : Heap) (locs1 : List Loc), tw_Rel G sz h H1 → tw_L G locs1 → tm_rg r → F r = some x → W p l e R s m args below meth c H1 locs1 (cells + 0) (slots + 0) Q (F0 m (pc + 3) ls (.int (tw_I r) :: rest))) : W p l e R s m args below meth c H locs cells slots Q (F0 m pc ls (.int (tw_I a1) :: .ref this :: rest)) := by
  obtain ⟨r, hr, hF⟩ := Option.bind_eq_some_iff.mp hk
  have ob : ∀ r, fX7_has this a1 h = some r → tm_is h 7 this := fun r hr => by
    unfold fX7_has at hr
    exact (tm_th_is hr).1
  exact tw_backi (tw_runV hC hR (cX7_has_ok l G sz this a1 ga1 h r hr) (n := 1) (As := [.int (tw_I a1)]) ⟨tw_in_TB 289 (by decide +kernel) rfl, tw_in_TB 55 (by decide +kernel) rfl, by decide +kernel⟩ (tw_in_TB 287 (by decide +kernel) rfl) (tw_in_TB 288 (by decide +kernel) rfl) hl ⟨rfl, rfl⟩ hRm (ob r hr) (T := TX7) (N := 3) rfl rfl hsz rfl hW hdg hf) hL (fun H1 locs1 a b g => kk r H1 locs1 a b g hF)
def rmX7_putBase : Room := { frames := 1, cells := 0, slots := 0, locals := 21 }
set_option maxRecDepth 100000 in
set_option maxHeartbeats 4000000 in
theorem cX7_putBase_ok (l : Launch) (G : tw_G) (sz : Nat) (this : Nat) (a1 : Int) (a2 : Int) (ga1 : tm_rg a1) (ga2 : tm_rg a2) (h : tm_H) (out : tm_H) (hk : fX7_putBase this a1 a2 h = some out) : Met l yX7_putBase (tw_WS yX7_putBase cX7_putBase 3 none) rmX7_putBase (va_Pc [.ref this, .int (tw_I a1), .int (tw_I a2)] (tw_Pre G sz h)) (tw_Qv G sz out) 0 0 (tw_F G) := by
  refine tw_met (by decide +kernel) (Nat.le_of_ble_eq_true rfl) ?_
  intro p e s m args below meth c H ls hC hnm hR hl
  unfold fX7_putBase at hk
  obtain ⟨hob, hk⟩ := tm_th_is hk
  have hl : lv_has ls 3 [(0, .ref this), (1, .int (tw_I a1)), (2, .int (tw_I a2))] := hl
  have hL : tw_L G [] := fun q z => by cases z
  generalize hlc : ([] : List Loc) = locs at hL ⊢
  refine lv_aload_n hC.1 hC.2.1 dX7_putBase_0 rfl (lv_at hl 0 rfl) ?_
  refine lv_iload_n hC.1 hC.2.1 dX7_putBase_1 rfl (lv_at hl 1 rfl) ?_
  refine kX7_has hC hR hL hk ga1 mlX7_27 ⟨by decide, by decide⟩ hl.1 (Nat.le_of_ble_eq_true rfl) ⟨Nat.zero_le _, Nat.zero_le _⟩ dX7_putBase_2 (fun v1 H locs hR hL gv1 hk => ?_)
  refine tw_zeq (tgt := 23) hC hk gv1 dX7_putBase_5 (by decide) (fun _ hk => ?_) (fun _ hk => ?_)
  · cases hk
    exact tw_vret hC hR hL rfl dX7_putBase_23
  · refine lv_aload_n hC.1 hC.2.1 dX7_putBase_8 rfl (lv_at hl 0 rfl) ?_
    refine lv_iload_n hC.1 hC.2.1 dX7_putBase_9 rfl (lv_at hl 2 rfl) ?_
    refine kX7_has hC hR hL hk ga2 mlX7_27 ⟨by decide, by decide⟩ hl.1 (Nat.le_of_ble_eq_true rfl) ⟨Nat.zero_le _, Nat.zero_le _⟩ dX7_putBase_10 (fun v2 H locs hR hL gv2 hk => ?_)
    refine tw_zeq (tgt := 23) hC hk gv2 dX7_putBase_13 (by decide) (fun _ hk => ?_) (fun _ hk => ?_)
    · cases hk
      exact tw_vret hC hR hL rfl dX7_putBase_23
    · refine lv_aload_n hC.1 hC.2.1 dX7_putBase_16 rfl (lv_at hl 0 rfl) ?_
      refine tw_getR hC hR hk flX7_15 dX7_putBase_17 (fun r3 hk => ?_)
      refine lv_iload_n hC.1 hC.2.1 dX7_putBase_20 rfl (lv_at hl 1 rfl) ?_
      refine lv_iload_n hC.1 hC.2.1 dX7_putBase_21 rfl (lv_at hl 2 rfl) ?_
      refine tw_iast hC hR hL ga2 hk dX7_putBase_22 (fun h4 H locs hR hL hk => ?_)
      cases hk
      exact tw_vret hC hR hL rfl dX7_putBase_23
set_option maxRecDepth 100000 in
theorem kX7_putBase {l : Launch} {p : Program} {e : Env} {R : Room} {s : State} {m : MethodId} {args : Array Value} {below : List Frame} {meth : Method} {c : Code} {H : Heap} {locs : List Loc} {cells slots : Nat} {Q : State → Prop} {cc : ByteArray} {pc nL idx : Nat} {ls : Array Slot} {rest : List Value} {G : tw_G} {h : tm_H} {own : String} {ret : Option FieldType} {α : Type} {x : α} {sz : Nat} {this : Nat} {a1 : Int} {a2 : Int} (hC : tw_C G p s m args meth c own cc nL ret) (hR : tw_Rel G sz h H) (hL : tw_L G locs) {F : tm_H → Option α} (hk : (fX7_putBase this a1 a2 h).bind F = some x) (ga1 : tm_rg a1) (ga2 : tm_rg a2) (hl : tw_mL own idx yX7_putBase) (hRm : rmX7_putBase.frames + 1 ≤ R.frames ∧ 8 + (3 + 11) + rmX7_putBase.locals ≤ R.locals) (hsz : ls.size = nL) (hW : (rest.map fun v => v.category).sum ≤ 8) (hf : cells + 0 ≤ R.cells ∧ slots + 0 ≤ R.slots) (hdg : decode cc pc = .ok (.invokevirtual idx, 3)) (kk : ∀ (h1 : tm_H) (H1 : Heap) (locs1 : List Loc), tw_Rel G sz h1 H1 → tw_L G locs1 → F h1 = some x → W p l e R s m args below meth c H1 locs1 (cells + 0) (slots + 0) Q (F0 m (pc + 3) ls (rest))) : W p l e R s m args below meth c H locs cells slots Q (F0 m pc ls (.int (tw_I a2) :: .int (tw_I a1) :: .ref this :: rest)) := by
  obtain ⟨r, hr, hF⟩ := Option.bind_eq_some_iff.mp hk
  have ob : ∀ r, fX7_putBase this a1 a2 h = some r → tm_is h 7 this := fun r hr => by
    unfold fX7_putBase at hr
    exact (tm_th_is hr).1
  exact tw_backv (tw_runV hC hR (cX7_putBase_ok l G sz this a1 a2 ga1 ga2 h r hr) (n := 2) (As := [.int (tw_I a1), .int (tw_I a2)]) ⟨tw_in_TB 479 (by decide +kernel) rfl, tw_in_TB 55 (by decide +kernel) rfl, by decide +kernel⟩ (tw_in_TB 477 (by decide +kernel) rfl) (tw_in_TB 478 (by decide +kernel) rfl) hl ⟨rfl, rfl⟩ hRm (ob r hr) (T := TX7) (N := 3) rfl rfl hsz rfl hW hdg hf) hL (fun H1 locs1 a b => kk r H1 locs1 a b hF)
