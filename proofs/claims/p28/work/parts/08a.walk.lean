def rmX0_init : Room := { frames := 1, cells := 8, slots := 252, locals := 20 }
set_option maxRecDepth 100000 in
set_option maxHeartbeats 4000000 in
theorem cX0_init_ok (l : Launch) (G : tw_G) (n : Nat) (this : Nat)  (h : tm_H) (out : tm_H × Nat) (hk : fX0_init this h n = some out) : Met l yX0_init (tw_WS yX0_init cX0_init 1 none) rmX0_init (va_Pc [.ref this] (tw_Pre G n h)) (tw_Qv G out.2 out.1) 8 252 (tw_F G) := by
  refine tw_met (by decide +kernel) (Nat.le_of_ble_eq_true rfl) ?_
  intro p e s m args below meth c H ls hC hnm hR hl
  unfold fX0_init at hk
  obtain ⟨hob, hk⟩ := tm_th_is hk
  have hl : lv_has ls 1 [(0, .ref this)] := hl
  have hL : tw_L G [] := fun q z => by cases z
  generalize hlc : ([] : List Loc) = locs at hL ⊢
  refine lv_aload_n hC.1 hC.2.1 dX0_init_0 rfl (lv_at hl 0 rfl) ?_
  refine tw_objInit hC (tw_in_TB 60 (by decide +kernel) rfl) tw_oiI tw_oiC hl.1 dX0_init_1 (by decide) (Nat.le_of_ble_eq_true rfl) ?_
  refine lv_aload_n hC.1 hC.2.1 dX0_init_4 rfl (lv_at hl 0 rfl) ?_
  refine lv_bipush (v := tw_I 6) hC.1 hC.2.1 dX0_init_5 (by decide) ?_
  refine lv_bipush (v := tw_I 40) hC.1 hC.2.1 dX0_init_7 (by decide) ?_
  refine tw_nm hC hR mnX0_11 tw_ari 6 40 (by decide) (by decide) hk ⟨by decide, by decide⟩ dX0_init_9 (fun h1 H hR hk => ?_)
  refine tw_putR hC hR hL hnm rfl rfl hk fpX0_13 dX0_init_13 (fun h2 H locs hR hL hk => ?_)
  refine lv_aload_n hC.1 hC.2.1 dX0_init_16 rfl (lv_at hl 0 rfl) ?_
  refine lv_bipush (v := tw_I 6) hC.1 hC.2.1 dX0_init_17 (by decide) ?_
  refine tw_nai hC hR tw_ari 6 (by decide) hk ⟨by decide, by decide⟩ dX0_init_19 (fun h3 H hR hk => ?_)
  refine tw_putR hC hR hL hnm rfl rfl hk fpX0_16 dX0_init_21 (fun h4 H locs hR hL hk => ?_)
  cases hk
  exact tw_vret hC hR hL rfl dX0_init_24
set_option maxRecDepth 100000 in
theorem kX0_init {l : Launch} {p : Program} {e : Env} {R : Room} {s : State} {m : MethodId} {args : Array Value} {below : List Frame} {meth : Method} {c : Code} {H : Heap} {locs : List Loc} {cells slots : Nat} {Q : State → Prop} {cc : ByteArray} {pc nL idx : Nat} {ls : Array Slot} {rest : List Value} {G : tw_G} {h : tm_H} {own : String} {ret : Option FieldType} {α : Type} {x : α} {n : Nat} {this : Nat} (hC : tw_C G p s m args meth c own cc nL ret) (hR : tw_Rel G n h H) (hL : tw_L G locs) {F : tm_H × Nat → Option α} (hk : (fX0_init this h n).bind F = some x)  (hl : tw_mL own idx yX0_init) (hRm : rmX0_init.frames + 1 ≤ R.frames ∧ 8 + (1 + 11) + rmX0_init.locals ≤ R.locals) (hsz : ls.size = nL) (hW : (rest.map fun v => v.category).sum ≤ 8) (hf : cells + 8 ≤ R.cells ∧ slots + 252 ≤ R.slots) (hdg : decode cc pc = .ok (.invokespecial idx, 3)) (kk : ∀ (h1 : tm_H) (n1 : Nat) (H1 : Heap) (locs1 : List Loc), tw_Rel G n1 h1 H1 → tw_L G locs1 → F (h1, n1) = some x → W p l e R s m args below meth c H1 locs1 (cells + 8) (slots + 252) Q (F0 m (pc + 3) ls (rest))) : W p l e R s m args below meth c H locs cells slots Q (F0 m pc ls (.ref this :: rest)) := by
  obtain ⟨r, hr, hF⟩ := Option.bind_eq_some_iff.mp hk
  exact tw_backv (tw_runI hC hR (cX0_init_ok l G n this  h r hr) (n := 0) (As := []) ⟨tw_in_TB 59 (by decide +kernel) rfl, tw_in_TB 12 (by decide +kernel) rfl, by decide +kernel⟩ (tw_in_TB 58 (by decide +kernel) rfl) rfl hl ⟨rfl, rfl⟩ hRm rfl hsz rfl hW hdg hf) hL (fun H1 locs1 a b => kk r.1 r.2 H1 locs1 a b hF)
def rmX0_has : Room := { frames := 0, cells := 0, slots := 0, locals := 0 }
set_option maxRecDepth 100000 in
set_option maxHeartbeats 4000000 in
theorem cX0_has_ok (l : Launch) (G : tw_G) (sz : Nat) (this : Nat) (a1 : Int) (ga1 : tm_rg a1) (h : tm_H) (out : Int) (hk : fX0_has this a1 h = some out) : Met l yX0_has (tw_WS yX0_has cX0_has 2 (some .boolean)) rmX0_has (va_Pc [.ref this, .int (tw_I a1)] (tw_Pre G sz h)) (tw_Qi G sz out h) 0 0 (tw_F G) := by
  refine tw_met (by decide +kernel) (Nat.le_of_ble_eq_true rfl) ?_
  intro p e s m args below meth c H ls hC hnm hR hl
  unfold fX0_has at hk
  obtain ⟨hob, hk⟩ := tm_th_is hk
  have hl : lv_has ls 2 [(0, .ref this), (1, .int (tw_I a1))] := hl
  have hL : tw_L G [] := fun q z => by cases z
  generalize hlc : ([] : List Loc) = locs at hL ⊢
  refine lv_iload_n hC.1 hC.2.1 dX0_has_0 rfl (lv_at hl 1 rfl) ?_
  refine tw_zlt (tgt := 14) hC hk ga1 dX0_has_1 (by decide) (fun _ hk => ?_) (fun _ hk => ?_)
  · refine lv_iconst (v := tw_I 0) hC.1 hC.2.1 dX0_has_14 rfl ?_
    cases hk
    exact tw_zret hC hR hL rfl rfl dX0_has_15
  · refine lv_iload_n hC.1 hC.2.1 dX0_has_4 rfl (lv_at hl 1 rfl) ?_
    refine lv_bipush (v := tw_I 6) hC.1 hC.2.1 dX0_has_5 (by decide) ?_
    refine tw_cge (tgt := 14) hC hk ga1 ((tw_rgL rfl)) dX0_has_7 (by decide) (fun _ hk => ?_) (fun _ hk => ?_)
    · refine lv_iconst (v := tw_I 1) hC.1 hC.2.1 dX0_has_10 rfl ?_
      refine lv_goto (tgt := 15) hC.1 hC.2.1 dX0_has_11 (by decide) ?_
      cases hk
      exact tw_zret hC hR hL rfl rfl dX0_has_15
    · refine lv_iconst (v := tw_I 0) hC.1 hC.2.1 dX0_has_14 rfl ?_
      cases hk
      exact tw_zret hC hR hL rfl rfl dX0_has_15
set_option maxRecDepth 100000 in
theorem kX0_has {l : Launch} {p : Program} {e : Env} {R : Room} {s : State} {m : MethodId} {args : Array Value} {below : List Frame} {meth : Method} {c : Code} {H : Heap} {locs : List Loc} {cells slots : Nat} {Q : State → Prop} {cc : ByteArray} {pc nL idx : Nat} {ls : Array Slot} {rest : List Value} {G : tw_G} {h : tm_H} {own : String} {ret : Option FieldType} {α : Type} {x : α} {sz : Nat} {this : Nat} {a1 : Int} (hC : tw_C G p s m args meth c own cc nL ret) (hR : tw_Rel G sz h H) (hL : tw_L G locs) {F : Int → Option α} (hk : (fX0_has this a1 h).bind F = some x) (ga1 : tm_rg a1) (hl : tw_mL own idx yX0_has) (hRm : rmX0_has.frames + 1 ≤ R.frames ∧ 8 + (2 + 11) + rmX0_has.locals ≤ R.locals) (hsz : ls.size = nL) (hW : (rest.map fun v => v.category).sum ≤ 8) (hf : cells + 0 ≤ R.cells ∧ slots + 0 ≤ R.slots) (hdg : decode cc pc = .ok (.invokevirtual idx, 3)) (kk : ∀ (r : Int) (H1 : Heap) (locs1 : List Loc), tw_Rel G sz h H1 → tw_L G locs1 → tm_rg r → F r = some x → W p l e R s m args below meth c H1 locs1 (cells + 0) (slots + 0) Q (F0 m (pc + 3) ls (.int (tw_I r) :: rest))) : W p l e R s m args below meth c H locs cells slots Q (F0 m pc ls (.int (tw_I a1) :: .ref this :: rest)) := by
  obtain ⟨r, hr, hF⟩ := Option.bind_eq_some_iff.mp hk
  have ob : ∀ r, fX0_has this a1 h = some r → tm_is h 0 this := fun r hr => by
    unfold fX0_has at hr
    exact (tm_th_is hr).1
  exact tw_backi (tw_runV hC hR (cX0_has_ok l G sz this a1 ga1 h r hr) (n := 1) (As := [.int (tw_I a1)]) ⟨tw_in_TB 374 (by decide +kernel) rfl, tw_in_TB 12 (by decide +kernel) rfl, by decide +kernel⟩ (tw_in_TB 372 (by decide +kernel) rfl) (tw_in_TB 373 (by decide +kernel) rfl) hl ⟨rfl, rfl⟩ hRm (ob r hr) (T := TX0) (N := 2) rfl rfl hsz rfl hW hdg hf) hL (fun H1 locs1 a b g => kk r H1 locs1 a b g hF)
def rmX0_hasPlace : Room := { frames := 0, cells := 0, slots := 0, locals := 0 }
set_option maxRecDepth 100000 in
set_option maxHeartbeats 4000000 in
theorem cX0_hasPlace_ok (l : Launch) (G : tw_G) (sz : Nat) (this : Nat) (a1 : Int) (a2 : Int) (ga1 : tm_rg a1) (ga2 : tm_rg a2) (h : tm_H) (out : Int) (hk : fX0_hasPlace this a1 a2 h = some out) : Met l yX0_hasPlace (tw_WS yX0_hasPlace cX0_hasPlace 3 (some .boolean)) rmX0_hasPlace (va_Pc [.ref this, .int (tw_I a1), .int (tw_I a2)] (tw_Pre G sz h)) (tw_Qi G sz out h) 0 0 (tw_F G) := by
  refine tw_met (by decide +kernel) (Nat.le_of_ble_eq_true rfl) ?_
  intro p e s m args below meth c H ls hC hnm hR hl
  unfold fX0_hasPlace at hk
  obtain ⟨hob, hk⟩ := tm_th_is hk
  have hl : lv_has ls 3 [(0, .ref this), (1, .int (tw_I a1)), (2, .int (tw_I a2))] := hl
  have hL : tw_L G [] := fun q z => by cases z
  generalize hlc : ([] : List Loc) = locs at hL ⊢
  refine lv_iload_n hC.1 hC.2.1 dX0_hasPlace_0 rfl (lv_at hl 1 rfl) ?_
  refine tw_zlt (tgt := 28) hC hk ga1 dX0_hasPlace_1 (by decide) (fun _ hk => ?_) (fun _ hk => ?_)
  · refine lv_iconst (v := tw_I 0) hC.1 hC.2.1 dX0_hasPlace_28 rfl ?_
    cases hk
    exact tw_zret hC hR hL rfl rfl dX0_hasPlace_29
  · refine lv_iload_n hC.1 hC.2.1 dX0_hasPlace_4 rfl (lv_at hl 1 rfl) ?_
    refine lv_bipush (v := tw_I 6) hC.1 hC.2.1 dX0_hasPlace_5 (by decide) ?_
    refine tw_cge (tgt := 28) hC hk ga1 ((tw_rgL rfl)) dX0_hasPlace_7 (by decide) (fun _ hk => ?_) (fun _ hk => ?_)
    · refine lv_iload_n hC.1 hC.2.1 dX0_hasPlace_10 rfl (lv_at hl 2 rfl) ?_
      refine tw_zlt (tgt := 28) hC hk ga2 dX0_hasPlace_11 (by decide) (fun _ hk => ?_) (fun _ hk => ?_)
      · refine lv_iconst (v := tw_I 0) hC.1 hC.2.1 dX0_hasPlace_28 rfl ?_
        cases hk
        exact tw_zret hC hR hL rfl rfl dX0_hasPlace_29
      · refine lv_iload_n hC.1 hC.2.1 dX0_hasPlace_14 rfl (lv_at hl 2 rfl) ?_
        refine lv_aload_n hC.1 hC.2.1 dX0_hasPlace_15 rfl (lv_at hl 0 rfl) ?_
        refine tw_getR hC hR hk flX0_16 dX0_hasPlace_16 (fun r1 hk => ?_)
        refine lv_iload_n hC.1 hC.2.1 dX0_hasPlace_19 rfl (lv_at hl 1 rfl) ?_
        refine tw_iald hC hR hk dX0_hasPlace_20 (fun v2 gv2 hk => ?_)
        refine tw_cge (tgt := 28) hC hk ga2 gv2 dX0_hasPlace_21 (by decide) (fun _ hk => ?_) (fun _ hk => ?_)
        · refine lv_iconst (v := tw_I 1) hC.1 hC.2.1 dX0_hasPlace_24 rfl ?_
          refine lv_goto (tgt := 29) hC.1 hC.2.1 dX0_hasPlace_25 (by decide) ?_
          cases hk
          exact tw_zret hC hR hL rfl rfl dX0_hasPlace_29
        · refine lv_iconst (v := tw_I 0) hC.1 hC.2.1 dX0_hasPlace_28 rfl ?_
          cases hk
          exact tw_zret hC hR hL rfl rfl dX0_hasPlace_29
    · refine lv_iconst (v := tw_I 0) hC.1 hC.2.1 dX0_hasPlace_28 rfl ?_
      cases hk
      exact tw_zret hC hR hL rfl rfl dX0_hasPlace_29
set_option maxRecDepth 100000 in
theorem kX0_hasPlace {l : Launch} {p : Program} {e : Env} {R : Room} {s : State} {m : MethodId} {args : Array Value} {below : List Frame} {meth : Method} {c : Code} {H : Heap} {locs : List Loc} {cells slots : Nat} {Q : State → Prop} {cc : ByteArray} {pc nL idx : Nat} {ls : Array Slot} {rest : List Value} {G : tw_G} {h : tm_H} {own : String} {ret : Option FieldType} {α : Type} {x : α} {sz : Nat} {this : Nat} {a1 : Int} {a2 : Int} (hC : tw_C G p s m args meth c own cc nL ret) (hR : tw_Rel G sz h H) (hL : tw_L G locs) {F : Int → Option α} (hk : (fX0_hasPlace this a1 a2 h).bind F = some x) (ga1 : tm_rg a1) (ga2 : tm_rg a2) (hl : tw_mL own idx yX0_hasPlace) (hRm : rmX0_hasPlace.frames + 1 ≤ R.frames ∧ 8 + (3 + 11) + rmX0_hasPlace.locals ≤ R.locals) (hsz : ls.size = nL) (hW : (rest.map fun v => v.category).sum ≤ 8) (hf : cells + 0 ≤ R.cells ∧ slots + 0 ≤ R.slots) (hdg : decode cc pc = .ok (.invokevirtual idx, 3)) (kk : ∀ (r : Int) (H1 : Heap) (locs1 : List Loc), tw_Rel G sz h H1 → tw_L G locs1 → tm_rg r → F r = some x → W p l e R s m args below meth c H1 locs1 (cells + 0) (slots + 0) Q (F0 m (pc + 3) ls (.int (tw_I r) :: rest))) : W p l e R s m args below meth c H locs cells slots Q (F0 m pc ls (.int (tw_I a2) :: .int (tw_I a1) :: .ref this :: rest)) := by
  obtain ⟨r, hr, hF⟩ := Option.bind_eq_some_iff.mp hk
  have ob : ∀ r, fX0_hasPlace this a1 a2 h = some r → tm_is h 0 this := fun r hr => by
    unfold fX0_hasPlace at hr
    exact (tm_th_is hr).1
  exact tw_backi (tw_runV hC hR (cX0_hasPlace_ok l G sz this a1 a2 ga1 ga2 h r hr) (n := 2) (As := [.int (tw_I a1), .int (tw_I a2)]) ⟨tw_in_TB 378 (by decide +kernel) rfl, tw_in_TB 12 (by decide +kernel) rfl, by decide +kernel⟩ (tw_in_TB 376 (by decide +kernel) rfl) (tw_in_TB 377 (by decide +kernel) rfl) hl ⟨rfl, rfl⟩ hRm (ob r hr) (T := TX0) (N := 2) rfl rfl hsz rfl hW hdg hf) hL (fun H1 locs1 a b g => kk r H1 locs1 a b g hF)
def rmX0_lengthOf : Room := { frames := 0, cells := 0, slots := 0, locals := 0 }
set_option maxRecDepth 100000 in
set_option maxHeartbeats 4000000 in
theorem cX0_lengthOf_ok (l : Launch) (G : tw_G) (sz : Nat) (this : Nat) (a1 : Int) (ga1 : tm_rg a1) (h : tm_H) (out : Int) (hk : fX0_lengthOf this a1 h = some out) : Met l yX0_lengthOf (tw_WS yX0_lengthOf cX0_lengthOf 2 (some .int)) rmX0_lengthOf (va_Pc [.ref this, .int (tw_I a1)] (tw_Pre G sz h)) (tw_Qi G sz out h) 0 0 (tw_F G) := by
  refine tw_met (by decide +kernel) (Nat.le_of_ble_eq_true rfl) ?_
  intro p e s m args below meth c H ls hC hnm hR hl
  unfold fX0_lengthOf at hk
  obtain ⟨hob, hk⟩ := tm_th_is hk
  have hl : lv_has ls 2 [(0, .ref this), (1, .int (tw_I a1))] := hl
  have hL : tw_L G [] := fun q z => by cases z
  generalize hlc : ([] : List Loc) = locs at hL ⊢
  refine lv_iload_n hC.1 hC.2.1 dX0_lengthOf_0 rfl (lv_at hl 1 rfl) ?_
  refine tw_zlt (tgt := 19) hC hk ga1 dX0_lengthOf_1 (by decide) (fun _ hk => ?_) (fun _ hk => ?_)
  · refine lv_iconst (v := tw_I 0) hC.1 hC.2.1 dX0_lengthOf_19 rfl ?_
    cases hk
    exact tw_iret hC hR hL ((tw_rgL rfl)) rfl rfl dX0_lengthOf_20
  · refine lv_iload_n hC.1 hC.2.1 dX0_lengthOf_4 rfl (lv_at hl 1 rfl) ?_
    refine lv_bipush (v := tw_I 6) hC.1 hC.2.1 dX0_lengthOf_5 (by decide) ?_
    refine tw_cge (tgt := 19) hC hk ga1 ((tw_rgL rfl)) dX0_lengthOf_7 (by decide) (fun _ hk => ?_) (fun _ hk => ?_)
    · refine lv_aload_n hC.1 hC.2.1 dX0_lengthOf_10 rfl (lv_at hl 0 rfl) ?_
      refine tw_getR hC hR hk flX0_16 dX0_lengthOf_11 (fun r1 hk => ?_)
      refine lv_iload_n hC.1 hC.2.1 dX0_lengthOf_14 rfl (lv_at hl 1 rfl) ?_
      refine tw_iald hC hR hk dX0_lengthOf_15 (fun v2 gv2 hk => ?_)
      refine lv_goto (tgt := 20) hC.1 hC.2.1 dX0_lengthOf_16 (by decide) ?_
      cases hk
      exact tw_iret hC hR hL gv2 rfl rfl dX0_lengthOf_20
    · refine lv_iconst (v := tw_I 0) hC.1 hC.2.1 dX0_lengthOf_19 rfl ?_
      cases hk
      exact tw_iret hC hR hL ((tw_rgL rfl)) rfl rfl dX0_lengthOf_20
set_option maxRecDepth 100000 in
theorem kX0_lengthOf {l : Launch} {p : Program} {e : Env} {R : Room} {s : State} {m : MethodId} {args : Array Value} {below : List Frame} {meth : Method} {c : Code} {H : Heap} {locs : List Loc} {cells slots : Nat} {Q : State → Prop} {cc : ByteArray} {pc nL idx : Nat} {ls : Array Slot} {rest : List Value} {G : tw_G} {h : tm_H} {own : String} {ret : Option FieldType} {α : Type} {x : α} {sz : Nat} {this : Nat} {a1 : Int} (hC : tw_C G p s m args meth c own cc nL ret) (hR : tw_Rel G sz h H) (hL : tw_L G locs) {F : Int → Option α} (hk : (fX0_lengthOf this a1 h).bind F = some x) (ga1 : tm_rg a1) (hl : tw_mL own idx yX0_lengthOf) (hRm : rmX0_lengthOf.frames + 1 ≤ R.frames ∧ 8 + (2 + 11) + rmX0_lengthOf.locals ≤ R.locals) (hsz : ls.size = nL) (hW : (rest.map fun v => v.category).sum ≤ 8) (hf : cells + 0 ≤ R.cells ∧ slots + 0 ≤ R.slots) (hdg : decode cc pc = .ok (.invokevirtual idx, 3)) (kk : ∀ (r : Int) (H1 : Heap) (locs1 : List Loc), tw_Rel G sz h H1 → tw_L G locs1 → tm_rg r → F r = some x → W p l e R s m args below meth c H1 locs1 (cells + 0) (slots + 0) Q (F0 m (pc + 3) ls (.int (tw_I r) :: rest))) : W p l e R s m args below meth c H locs cells slots Q (F0 m pc ls (.int (tw_I a1) :: .ref this :: rest)) := by
  obtain ⟨r, hr, hF⟩ := Option.bind_eq_some_iff.mp hk
  have ob : ∀ r, fX0_lengthOf this a1 h = some r → tm_is h 0 this := fun r hr => by
    unfold fX0_lengthOf at hr
    exact (tm_th_is hr).1
  exact tw_backi (tw_runV hC hR (cX0_lengthOf_ok l G sz this a1 ga1 h r hr) (n := 1) (As := [.int (tw_I a1)]) ⟨tw_in_TB 293 (by decide +kernel) rfl, tw_in_TB 12 (by decide +kernel) rfl, by decide +kernel⟩ (tw_in_TB 291 (by decide +kernel) rfl) (tw_in_TB 292 (by decide +kernel) rfl) hl ⟨rfl, rfl⟩ hRm (ob r hr) (T := TX0) (N := 2) rfl rfl hsz rfl hW hdg hf) hL (fun H1 locs1 a b g => kk r H1 locs1 a b g hF)
def rmX0_wordAt : Room := { frames := 0, cells := 0, slots := 0, locals := 0 }
set_option maxRecDepth 100000 in
set_option maxHeartbeats 4000000 in
theorem cX0_wordAt_ok (l : Launch) (G : tw_G) (sz : Nat) (this : Nat) (a1 : Int) (a2 : Int) (ga1 : tm_rg a1) (ga2 : tm_rg a2) (h : tm_H) (out : Int) (hk : fX0_wordAt this a1 a2 h = some out) : Met l yX0_wordAt (tw_WS yX0_wordAt cX0_wordAt 3 (some .int)) rmX0_wordAt (va_Pc [.ref this, .int (tw_I a1), .int (tw_I a2)] (tw_Pre G sz h)) (tw_Qi G sz out h) 0 0 (tw_F G) := by
  refine tw_met (by decide +kernel) (Nat.le_of_ble_eq_true rfl) ?_
  intro p e s m args below meth c H ls hC hnm hR hl
  unfold fX0_wordAt at hk
  obtain ⟨hob, hk⟩ := tm_th_is hk
  have hl : lv_has ls 3 [(0, .ref this), (1, .int (tw_I a1)), (2, .int (tw_I a2))] := hl
  have hL : tw_L G [] := fun q z => by cases z
  generalize hlc : ([] : List Loc) = locs at hL ⊢
  refine lv_iload_n hC.1 hC.2.1 dX0_wordAt_0 rfl (lv_at hl 1 rfl) ?_
  refine tw_zlt (tgt := 24) hC hk ga1 dX0_wordAt_1 (by decide) (fun _ hk => ?_) (fun _ hk => ?_)
  · refine lv_bipush (v := tw_I (-99)) hC.1 hC.2.1 dX0_wordAt_24 (by decide) ?_
    cases hk
    exact tw_iret hC hR hL ((tw_rgL rfl)) rfl rfl dX0_wordAt_26
  · refine lv_iload_n hC.1 hC.2.1 dX0_wordAt_4 rfl (lv_at hl 1 rfl) ?_
    refine lv_bipush (v := tw_I 6) hC.1 hC.2.1 dX0_wordAt_5 (by decide) ?_
    refine tw_cge (tgt := 24) hC hk ga1 ((tw_rgL rfl)) dX0_wordAt_7 (by decide) (fun _ hk => ?_) (fun _ hk => ?_)
    · refine lv_iload_n hC.1 hC.2.1 dX0_wordAt_10 rfl (lv_at hl 2 rfl) ?_
      refine tw_zlt (tgt := 24) hC hk ga2 dX0_wordAt_11 (by decide) (fun _ hk => ?_) (fun _ hk => ?_)
      · refine lv_bipush (v := tw_I (-99)) hC.1 hC.2.1 dX0_wordAt_24 (by decide) ?_
        cases hk
        exact tw_iret hC hR hL ((tw_rgL rfl)) rfl rfl dX0_wordAt_26
      · refine lv_iload_n hC.1 hC.2.1 dX0_wordAt_14 rfl (lv_at hl 2 rfl) ?_
        refine lv_aload_n hC.1 hC.2.1 dX0_wordAt_15 rfl (lv_at hl 0 rfl) ?_
        refine tw_getR hC hR hk flX0_16 dX0_wordAt_16 (fun r1 hk => ?_)
        refine lv_iload_n hC.1 hC.2.1 dX0_wordAt_19 rfl (lv_at hl 1 rfl) ?_
        refine tw_iald hC hR hk dX0_wordAt_20 (fun v2 gv2 hk => ?_)
        refine tw_clt (tgt := 27) hC hk ga2 gv2 dX0_wordAt_21 (by decide) (fun _ hk => ?_) (fun _ hk => ?_)
        · refine lv_aload_n hC.1 hC.2.1 dX0_wordAt_27 rfl (lv_at hl 0 rfl) ?_
          refine tw_getR hC hR hk flX0_13 dX0_wordAt_28 (fun r3 hk => ?_)
          refine lv_iload_n hC.1 hC.2.1 dX0_wordAt_31 rfl (lv_at hl 1 rfl) ?_
          refine tw_aald hC hR hk dX0_wordAt_32 (fun r4 hk => ?_)
          refine lv_iload_n hC.1 hC.2.1 dX0_wordAt_33 rfl (lv_at hl 2 rfl) ?_
          refine tw_iald hC hR hk dX0_wordAt_34 (fun v5 gv5 hk => ?_)
          cases hk
          exact tw_iret hC hR hL gv5 rfl rfl dX0_wordAt_35
        · refine lv_bipush (v := tw_I (-99)) hC.1 hC.2.1 dX0_wordAt_24 (by decide) ?_
          cases hk
          exact tw_iret hC hR hL ((tw_rgL rfl)) rfl rfl dX0_wordAt_26
    · refine lv_bipush (v := tw_I (-99)) hC.1 hC.2.1 dX0_wordAt_24 (by decide) ?_
      cases hk
      exact tw_iret hC hR hL ((tw_rgL rfl)) rfl rfl dX0_wordAt_26
set_option maxRecDepth 100000 in
theorem kX0_wordAt {l : Launch} {p : Program} {e : Env} {R : Room} {s : State} {m : MethodId} {args : Array Value} {below : List Frame} {meth : Method} {c : Code} {H : Heap} {locs : List Loc} {cells slots : Nat} {Q : State → Prop} {cc : ByteArray} {pc nL idx : Nat} {ls : Array Slot} {rest : List Value} {G : tw_G} {h : tm_H} {own : String} {ret : Option FieldType} {α : Type} {x : α} {sz : Nat} {this : Nat} {a1 : Int} {a2 : Int} (hC : tw_C G p s m args meth c own cc nL ret) (hR : tw_Rel G sz h H) (hL : tw_L G locs) {F : Int → Option α} (hk : (fX0_wordAt this a1 a2 h).bind F = some x) (ga1 : tm_rg a1) (ga2 : tm_rg a2) (hl : tw_mL own idx yX0_wordAt) (hRm : rmX0_wordAt.frames + 1 ≤ R.frames ∧ 8 + (3 + 11) + rmX0_wordAt.locals ≤ R.locals) (hsz : ls.size = nL) (hW : (rest.map fun v => v.category).sum ≤ 8) (hf : cells + 0 ≤ R.cells ∧ slots + 0 ≤ R.slots) (hdg : decode cc pc = .ok (.invokevirtual idx, 3)) (kk : ∀ (r : Int) (H1 : Heap) (locs1 : List Loc), tw_Rel G sz h H1 → tw_L G locs1 → tm_rg r → F r = some x → W p l e R s m args below meth c H1 locs1 (cells + 0) (slots + 0) Q (F0 m (pc + 3) ls (.int (tw_I r) :: rest))) : W p l e R s m args below meth c H locs cells slots Q (F0 m pc ls (.int (tw_I a2) :: .int (tw_I a1) :: .ref this :: rest)) := by
  obtain ⟨r, hr, hF⟩ := Option.bind_eq_some_iff.mp hk
  have ob : ∀ r, fX0_wordAt this a1 a2 h = some r → tm_is h 0 this := fun r hr => by
    unfold fX0_wordAt at hr
    exact (tm_th_is hr).1
  exact tw_backi (tw_runV hC hR (cX0_wordAt_ok l G sz this a1 a2 ga1 ga2 h r hr) (n := 2) (As := [.int (tw_I a1), .int (tw_I a2)]) ⟨tw_in_TB 319 (by decide +kernel) rfl, tw_in_TB 12 (by decide +kernel) rfl, by decide +kernel⟩ (tw_in_TB 317 (by decide +kernel) rfl) (tw_in_TB 318 (by decide +kernel) rfl) hl ⟨rfl, rfl⟩ hRm (ob r hr) (T := TX0) (N := 2) rfl rfl hsz rfl hW hdg hf) hL (fun H1 locs1 a b g => kk r H1 locs1 a b g hF)
def rmX0_put : Room := { frames := 1, cells := 0, slots := 0, locals := 21 }
set_option maxRecDepth 100000 in
set_option maxHeartbeats 4000000 in
theorem sX0_put_S0 {l : Launch} {p : Program} {e : Env} {s : State} {m : MethodId} {args : Array Value} {below : List Frame} {meth : Method} {c : Code} (G : tw_G) (sz : Nat) (hC : tw_C G p s m args meth c RX0 cX0_put 6 none) (this : Nat) (a1 : Int) (a2 : Int) (a3 : Int) (ga1 : tm_rg a1) (ga2 : tm_rg a2) (ga3 : tm_rg a3) : ∀ (k : Nat) (st : (Nat × Int × tm_H)) (out : tm_H), tm_wit (fX0_put_S0 this a1 a2 a3) k st = some out → match st with
    | (x4, x5, h) => ∀ (H : Heap) (locs : List Loc) (ls : Array Slot), tm_rg x5 → tw_Rel G sz h H → tw_L G locs → lv_has ls 6 [(0, .ref this), (1, .int (tw_I a1)), (2, .int (tw_I a2)), (3, .int (tw_I a3)), (4, .ref x4), (5, .int (tw_I x5))] → W p l e rmX0_put s m args below meth c H locs 0 0 (MQ below (tw_Qv G sz out) args s 0 0 (tw_F G)) (F0 m 50 ls []) := by
  intro k
  induction k with
  | zero =>
    intro st out hk
    exact absurd hk (by unfold tm_wit; exact fun z => by cases z)
  | succ k ih =>
    intro st out hk
    obtain ⟨X, hk, hf⟩ := tm_wit_succ hk
    obtain ⟨x4, x5, h⟩ := st
    intro H locs ls gx5 hR hL hl
    dsimp only [fX0_put_S0] at hk
    refine lv_iload hC.1 hC.2.1 dX0_put_50 (lv_at hl 5 rfl) ?_
    refine lv_iload_n hC.1 hC.2.1 dX0_put_52 rfl (lv_at hl 2 rfl) ?_
    refine tw_cle (tgt := 74) hC hk gx5 ga2 dX0_put_53 (by decide) (fun _ hk => ?_) (fun _ hk => ?_)
    · refine lv_aload hC.1 hC.2.1 dX0_put_56 (lv_at hl 4 rfl) ?_
      refine lv_iload hC.1 hC.2.1 dX0_put_58 (lv_at hl 5 rfl) ?_
      refine lv_aload hC.1 hC.2.1 dX0_put_60 (lv_at hl 4 rfl) ?_
      refine lv_iload hC.1 hC.2.1 dX0_put_62 (lv_at hl 5 rfl) ?_
      refine lv_iconst (v := tw_I 1) hC.1 hC.2.1 dX0_put_64 rfl ?_
      refine tw_isub hC dX0_put_65 ?_
      refine tw_iald hC hR hk dX0_put_66 (fun v10 gv10 hk => ?_)
      refine tw_iast hC hR hL gv10 hk dX0_put_67 (fun h11 H locs hR hL hk => ?_)
      refine tw_iinc (lv' := [(5, .int (tw_I (tm_wr (x5 + (-1))))), (0, .ref this), (1, .int (tw_I a1)), (2, .int (tw_I a2)), (3, .int (tw_I a3)), (4, .ref x4)]) hC dX0_put_68 hl (k := 5) rfl (by decide) rfl (fun ls hl => ?_)
      refine lv_goto (tgt := 50) hC.1 hC.2.1 dX0_put_71 (by decide) ?_
      cases hk
      exact ih _ out hf H locs _ ((tm_wr_rg _)) hR hL (lv_sub hl [1, 2, 3, 4, 5, 0] rfl)
    · refine lv_aload hC.1 hC.2.1 dX0_put_74 (lv_at hl 4 rfl) ?_
      refine lv_iload_n hC.1 hC.2.1 dX0_put_76 rfl (lv_at hl 2 rfl) ?_
      refine lv_iload_n hC.1 hC.2.1 dX0_put_77 rfl (lv_at hl 3 rfl) ?_
      refine tw_iast hC hR hL ga3 hk dX0_put_78 (fun h12 H locs hR hL hk => ?_)
      refine lv_aload_n hC.1 hC.2.1 dX0_put_79 rfl (lv_at hl 0 rfl) ?_
      refine tw_getR hC hR hk flX0_16 dX0_put_80 (fun r13 hk => ?_)
      refine lv_iload_n hC.1 hC.2.1 dX0_put_83 rfl (lv_at hl 1 rfl) ?_
      refine lv_dup2_11 hC.1 hC.2.1 dX0_put_84 rfl rfl ?_
      refine tw_iald hC hR hk dX0_put_85 (fun v14 gv14 hk => ?_)
      refine lv_iconst (v := tw_I 1) hC.1 hC.2.1 dX0_put_86 rfl ?_
      refine tw_iadd hC dX0_put_87 ?_
      refine tw_iast hC hR hL ((tm_wr_rg _)) hk dX0_put_88 (fun h15 H locs hR hL hk => ?_)
      cases hk
      cases hf
      exact tw_vret hC hR hL rfl dX0_put_89
theorem sX0_put_L50 {l : Launch} {p : Program} {e : Env} {s : State} {m : MethodId} {args : Array Value} {below : List Frame} {meth : Method} {c : Code} (G : tw_G) (sz : Nat) (hC : tw_C G p s m args meth c RX0 cX0_put 6 none) (this : Nat) (a1 : Int) (a2 : Int) (a3 : Int) (ga1 : tm_rg a1) (ga2 : tm_rg a2) (ga3 : tm_rg a3) (x4 : Nat) (x5 : Int) (h : tm_H) (gx5 : tm_rg x5) (out : tm_H) (hk : fX0_put_L50 this a1 a2 a3 x4 x5 h = some out) (H : Heap) (locs : List Loc) (ls : Array Slot) (hR : tw_Rel G sz h H) (hL : tw_L G locs) (hl : lv_has ls 6 [(0, .ref this), (1, .int (tw_I a1)), (2, .int (tw_I a2)), (3, .int (tw_I a3)), (4, .ref x4), (5, .int (tw_I x5))]) : W p l e rmX0_put s m args below meth c H locs 0 0 (MQ below (tw_Qv G sz out) args s 0 0 (tw_F G)) (F0 m 50 ls []) := by
  obtain ⟨k, hk⟩ := tm_wl_iff.mp hk
  exact sX0_put_S0 G sz hC this a1 a2 a3 ga1 ga2 ga3 k ((x4, x5, h)) out hk H locs ls gx5 hR hL hl
set_option maxRecDepth 100000 in
set_option maxHeartbeats 4000000 in
theorem cX0_put_ok (l : Launch) (G : tw_G) (sz : Nat) (this : Nat) (a1 : Int) (a2 : Int) (a3 : Int) (ga1 : tm_rg a1) (ga2 : tm_rg a2) (ga3 : tm_rg a3) (h : tm_H) (out : tm_H) (hk : fX0_put this a1 a2 a3 h = some out) : Met l yX0_put (tw_WS yX0_put cX0_put 6 none) rmX0_put (va_Pc [.ref this, .int (tw_I a1), .int (tw_I a2), .int (tw_I a3)] (tw_Pre G sz h)) (tw_Qv G sz out) 0 0 (tw_F G) := by
  refine tw_met (by decide +kernel) (Nat.le_of_ble_eq_true rfl) ?_
  intro p e s m args below meth c H ls hC hnm hR hl
  unfold fX0_put at hk
  obtain ⟨hob, hk⟩ := tm_th_is hk
  have hl : lv_has ls 6 [(0, .ref this), (1, .int (tw_I a1)), (2, .int (tw_I a2)), (3, .int (tw_I a3))] := hl
  have hL : tw_L G [] := fun q z => by cases z
  generalize hlc : ([] : List Loc) = locs at hL ⊢
  refine lv_aload_n hC.1 hC.2.1 dX0_put_0 rfl (lv_at hl 0 rfl) ?_
  refine lv_iload_n hC.1 hC.2.1 dX0_put_1 rfl (lv_at hl 1 rfl) ?_
  refine kX0_has hC hR hL hk ga1 mlX0_20 ⟨by decide, by decide⟩ hl.1 (Nat.le_of_ble_eq_true rfl) ⟨Nat.zero_le _, Nat.zero_le _⟩ dX0_put_2 (fun v1 H locs hR hL gv1 hk => ?_)
  refine tw_zeq (tgt := 33) hC hk gv1 dX0_put_5 (by decide) (fun _ hk => ?_) (fun _ hk => ?_)
  · cases hk
    exact tw_vret hC hR hL rfl dX0_put_33
  · refine lv_iload_n hC.1 hC.2.1 dX0_put_8 rfl (lv_at hl 2 rfl) ?_
    refine tw_zlt (tgt := 33) hC hk ga2 dX0_put_9 (by decide) (fun _ hk => ?_) (fun _ hk => ?_)
    · cases hk
      exact tw_vret hC hR hL rfl dX0_put_33
    · refine lv_iload_n hC.1 hC.2.1 dX0_put_12 rfl (lv_at hl 2 rfl) ?_
      refine lv_aload_n hC.1 hC.2.1 dX0_put_13 rfl (lv_at hl 0 rfl) ?_
      refine tw_getR hC hR hk flX0_16 dX0_put_14 (fun r2 hk => ?_)
      refine lv_iload_n hC.1 hC.2.1 dX0_put_17 rfl (lv_at hl 1 rfl) ?_
      refine tw_iald hC hR hk dX0_put_18 (fun v3 gv3 hk => ?_)
      refine tw_cgt (tgt := 33) hC hk ga2 gv3 dX0_put_19 (by decide) (fun _ hk => ?_) (fun _ hk => ?_)
      · cases hk
        exact tw_vret hC hR hL rfl dX0_put_33
      · refine lv_aload_n hC.1 hC.2.1 dX0_put_22 rfl (lv_at hl 0 rfl) ?_
        refine tw_getR hC hR hk flX0_16 dX0_put_23 (fun r4 hk => ?_)
        refine lv_iload_n hC.1 hC.2.1 dX0_put_26 rfl (lv_at hl 1 rfl) ?_
        refine tw_iald hC hR hk dX0_put_27 (fun v5 gv5 hk => ?_)
        refine lv_bipush (v := tw_I 40) hC.1 hC.2.1 dX0_put_28 (by decide) ?_
        refine tw_clt (tgt := 34) hC hk gv5 ((tw_rgL rfl)) dX0_put_30 (by decide) (fun _ hk => ?_) (fun _ hk => ?_)
        · refine lv_aload_n hC.1 hC.2.1 dX0_put_34 rfl (lv_at hl 0 rfl) ?_
          refine tw_getR hC hR hk flX0_13 dX0_put_35 (fun r6 hk => ?_)
          refine lv_iload_n hC.1 hC.2.1 dX0_put_38 rfl (lv_at hl 1 rfl) ?_
          refine tw_aald hC hR hk dX0_put_39 (fun r7 hk => ?_)
          refine lv_astore (lv' := [(4, .ref r7), (0, .ref this), (1, .int (tw_I a1)), (2, .int (tw_I a2)), (3, .int (tw_I a3))]) hC.1 hC.2.1 dX0_put_40 hl (by decide) rfl (fun ls hl => ?_)
          refine lv_aload_n hC.1 hC.2.1 dX0_put_42 rfl (lv_at hl 1 rfl) ?_
          refine tw_getR hC hR hk flX0_16 dX0_put_43 (fun r8 hk => ?_)
          refine lv_iload_n hC.1 hC.2.1 dX0_put_46 rfl (lv_at hl 2 rfl) ?_
          refine tw_iald hC hR hk dX0_put_47 (fun v9 gv9 hk => ?_)
          refine lv_istore (lv' := [(5, .int (tw_I v9)), (4, .ref r7), (0, .ref this), (1, .int (tw_I a1)), (2, .int (tw_I a2)), (3, .int (tw_I a3))]) hC.1 hC.2.1 dX0_put_48 hl (by decide) rfl (fun ls hl => ?_)
          exact sX0_put_L50 G sz hC this a1 a2 a3 ga1 ga2 ga3 r7 v9 h gv9 out hk H locs _ hR hL (lv_sub hl [2, 3, 4, 5, 1, 0] rfl)
        · cases hk
          exact tw_vret hC hR hL rfl dX0_put_33
set_option maxRecDepth 100000 in
theorem kX0_put {l : Launch} {p : Program} {e : Env} {R : Room} {s : State} {m : MethodId} {args : Array Value} {below : List Frame} {meth : Method} {c : Code} {H : Heap} {locs : List Loc} {cells slots : Nat} {Q : State → Prop} {cc : ByteArray} {pc nL idx : Nat} {ls : Array Slot} {rest : List Value} {G : tw_G} {h : tm_H} {own : String} {ret : Option FieldType} {α : Type} {x : α} {sz : Nat} {this : Nat} {a1 : Int} {a2 : Int} {a3 : Int} (hC : tw_C G p s m args meth c own cc nL ret) (hR : tw_Rel G sz h H) (hL : tw_L G locs) {F : tm_H → Option α} (hk : (fX0_put this a1 a2 a3 h).bind F = some x) (ga1 : tm_rg a1) (ga2 : tm_rg a2) (ga3 : tm_rg a3) (hl : tw_mL own idx yX0_put) (hRm : rmX0_put.frames + 1 ≤ R.frames ∧ 8 + (6 + 11) + rmX0_put.locals ≤ R.locals) (hsz : ls.size = nL) (hW : (rest.map fun v => v.category).sum ≤ 8) (hf : cells + 0 ≤ R.cells ∧ slots + 0 ≤ R.slots) (hdg : decode cc pc = .ok (.invokevirtual idx, 3)) (kk : ∀ (h1 : tm_H) (H1 : Heap) (locs1 : List Loc), tw_Rel G sz h1 H1 → tw_L G locs1 → F h1 = some x → W p l e R s m args below meth c H1 locs1 (cells + 0) (slots + 0) Q (F0 m (pc + 3) ls (rest))) : W p l e R s m args below meth c H locs cells slots Q (F0 m pc ls (.int (tw_I a3) :: .int (tw_I a2) :: .int (tw_I a1) :: .ref this :: rest)) := by
  obtain ⟨r, hr, hF⟩ := Option.bind_eq_some_iff.mp hk
  have ob : ∀ r, fX0_put this a1 a2 a3 h = some r → tm_is h 0 this := fun r hr => by
    unfold fX0_put at hr
    exact (tm_th_is hr).1
  exact tw_backv (tw_runV hC hR (cX0_put_ok l G sz this a1 a2 a3 ga1 ga2 ga3 h r hr) (n := 3) (As := [.int (tw_I a1), .int (tw_I a2), .int (tw_I a3)]) ⟨tw_in_TB 443 (by decide +kernel) rfl, tw_in_TB 12 (by decide +kernel) rfl, by decide +kernel⟩ (tw_in_TB 441 (by decide +kernel) rfl) (tw_in_TB 442 (by decide +kernel) rfl) hl ⟨rfl, rfl⟩ hRm (ob r hr) (T := TX0) (N := 2) rfl rfl hsz rfl hW hdg hf) hL (fun H1 locs1 a b => kk r H1 locs1 a b hF)
def rmX0_cut : Room := { frames := 1, cells := 0, slots := 0, locals := 22 }
set_option maxRecDepth 100000 in
set_option maxHeartbeats 4000000 in
theorem sX0_cut_S0 {l : Launch} {p : Program} {e : Env} {s : State} {m : MethodId} {args : Array Value} {below : List Frame} {meth : Method} {c : Code} (G : tw_G) (sz : Nat) (hC : tw_C G p s m args meth c RX0 cX0_cut 7 none) (this : Nat) (a1 : Int) (a2 : Int) (a3 : Int) (ga1 : tm_rg a1) (ga2 : tm_rg a2) (ga3 : tm_rg a3) : ∀ (k : Nat) (st : (Nat × Int × Int × tm_H)) (out : tm_H), tm_wit (fX0_cut_S0 this a1 a2 a3) k st = some out → match st with
    | (x4, x5, x6, h) => ∀ (H : Heap) (locs : List Loc) (ls : Array Slot), tm_rg x5 → tm_rg x6 → tw_Rel G sz h H → tw_L G locs → lv_has ls 7 [(0, .ref this), (1, .int (tw_I a1)), (2, .int (tw_I a2)), (3, .int (tw_I a3)), (4, .ref x4), (5, .int (tw_I x5)), (6, .int (tw_I x6))] → W p l e rmX0_cut s m args below meth c H locs 0 0 (MQ below (tw_Qv G sz out) args s 0 0 (tw_F G)) (F0 m 44 ls []) := by
  intro k
  induction k with
  | zero =>
    intro st out hk
    exact absurd hk (by unfold tm_wit; exact fun z => by cases z)
  | succ k ih =>
    intro st out hk
    obtain ⟨X, hk, hf⟩ := tm_wit_succ hk
    obtain ⟨x4, x5, x6, h⟩ := st
    intro H locs ls gx5 gx6 hR hL hl
    dsimp only [fX0_cut_S0] at hk
    refine lv_iload hC.1 hC.2.1 dX0_cut_44 (lv_at hl 6 rfl) ?_
    refine lv_aload_n hC.1 hC.2.1 dX0_cut_46 rfl (lv_at hl 0 rfl) ?_
    refine tw_getR hC hR hk flX0_16 dX0_cut_47 (fun r5 hk => ?_)
    refine lv_iload_n hC.1 hC.2.1 dX0_cut_50 rfl (lv_at hl 1 rfl) ?_
    refine tw_iald hC hR hk dX0_cut_51 (fun v6 gv6 hk => ?_)
    refine tw_cge (tgt := 74) hC hk gx6 gv6 dX0_cut_52 (by decide) (fun _ hk => ?_) (fun _ hk => ?_)
    · refine lv_aload hC.1 hC.2.1 dX0_cut_55 (lv_at hl 4 rfl) ?_
      refine lv_iload hC.1 hC.2.1 dX0_cut_57 (lv_at hl 6 rfl) ?_
      refine lv_iload hC.1 hC.2.1 dX0_cut_59 (lv_at hl 5 rfl) ?_
      refine tw_isub hC dX0_cut_61 ?_
      refine lv_aload hC.1 hC.2.1 dX0_cut_62 (lv_at hl 4 rfl) ?_
      refine lv_iload hC.1 hC.2.1 dX0_cut_64 (lv_at hl 6 rfl) ?_
      refine tw_iald hC hR hk dX0_cut_66 (fun v7 gv7 hk => ?_)
      refine tw_iast hC hR hL gv7 hk dX0_cut_67 (fun h8 H locs hR hL hk => ?_)
      refine tw_iinc (lv' := [(6, .int (tw_I (tm_wr (x6 + 1)))), (0, .ref this), (1, .int (tw_I a1)), (2, .int (tw_I a2)), (3, .int (tw_I a3)), (4, .ref x4), (5, .int (tw_I x5))]) hC dX0_cut_68 hl (k := 6) rfl (by decide) rfl (fun ls hl => ?_)
      refine lv_goto (tgt := 44) hC.1 hC.2.1 dX0_cut_71 (by decide) ?_
      cases hk
      exact ih _ out hf H locs _ gx5 ((tm_wr_rg _)) hR hL (lv_sub hl [1, 2, 3, 4, 5, 6, 0] rfl)
    · refine lv_aload_n hC.1 hC.2.1 dX0_cut_74 rfl (lv_at hl 0 rfl) ?_
      refine tw_getR hC hR hk flX0_16 dX0_cut_75 (fun r9 hk => ?_)
      refine lv_iload_n hC.1 hC.2.1 dX0_cut_78 rfl (lv_at hl 1 rfl) ?_
      refine lv_dup2_11 hC.1 hC.2.1 dX0_cut_79 rfl rfl ?_
      refine tw_iald hC hR hk dX0_cut_80 (fun v10 gv10 hk => ?_)
      refine lv_iload hC.1 hC.2.1 dX0_cut_81 (lv_at hl 5 rfl) ?_
      refine tw_isub hC dX0_cut_83 ?_
      refine tw_iast hC hR hL ((tm_wr_rg _)) hk dX0_cut_84 (fun h11 H locs hR hL hk => ?_)
      cases hk
      cases hf
      exact tw_vret hC hR hL rfl dX0_cut_85
theorem sX0_cut_L44 {l : Launch} {p : Program} {e : Env} {s : State} {m : MethodId} {args : Array Value} {below : List Frame} {meth : Method} {c : Code} (G : tw_G) (sz : Nat) (hC : tw_C G p s m args meth c RX0 cX0_cut 7 none) (this : Nat) (a1 : Int) (a2 : Int) (a3 : Int) (ga1 : tm_rg a1) (ga2 : tm_rg a2) (ga3 : tm_rg a3) (x4 : Nat) (x5 : Int) (x6 : Int) (h : tm_H) (gx5 : tm_rg x5) (gx6 : tm_rg x6) (out : tm_H) (hk : fX0_cut_L44 this a1 a2 a3 x4 x5 x6 h = some out) (H : Heap) (locs : List Loc) (ls : Array Slot) (hR : tw_Rel G sz h H) (hL : tw_L G locs) (hl : lv_has ls 7 [(0, .ref this), (1, .int (tw_I a1)), (2, .int (tw_I a2)), (3, .int (tw_I a3)), (4, .ref x4), (5, .int (tw_I x5)), (6, .int (tw_I x6))]) : W p l e rmX0_cut s m args below meth c H locs 0 0 (MQ below (tw_Qv G sz out) args s 0 0 (tw_F G)) (F0 m 44 ls []) := by
  obtain ⟨k, hk⟩ := tm_wl_iff.mp hk
  exact sX0_cut_S0 G sz hC this a1 a2 a3 ga1 ga2 ga3 k ((x4, x5, x6, h)) out hk H locs ls gx5 gx6 hR hL hl
set_option maxRecDepth 100000 in
set_option maxHeartbeats 4000000 in
theorem cX0_cut_ok (l : Launch) (G : tw_G) (sz : Nat) (this : Nat) (a1 : Int) (a2 : Int) (a3 : Int) (ga1 : tm_rg a1) (ga2 : tm_rg a2) (ga3 : tm_rg a3) (h : tm_H) (out : tm_H) (hk : fX0_cut this a1 a2 a3 h = some out) : Met l yX0_cut (tw_WS yX0_cut cX0_cut 7 none) rmX0_cut (va_Pc [.ref this, .int (tw_I a1), .int (tw_I a2), .int (tw_I a3)] (tw_Pre G sz h)) (tw_Qv G sz out) 0 0 (tw_F G) := by
  refine tw_met (by decide +kernel) (Nat.le_of_ble_eq_true rfl) ?_
  intro p e s m args below meth c H ls hC hnm hR hl
  unfold fX0_cut at hk
  obtain ⟨hob, hk⟩ := tm_th_is hk
  have hl : lv_has ls 7 [(0, .ref this), (1, .int (tw_I a1)), (2, .int (tw_I a2)), (3, .int (tw_I a3))] := hl
  have hL : tw_L G [] := fun q z => by cases z
  generalize hlc : ([] : List Loc) = locs at hL ⊢
  refine lv_aload_n hC.1 hC.2.1 dX0_cut_0 rfl (lv_at hl 0 rfl) ?_
  refine lv_iload_n hC.1 hC.2.1 dX0_cut_1 rfl (lv_at hl 1 rfl) ?_
  refine lv_iload_n hC.1 hC.2.1 dX0_cut_2 rfl (lv_at hl 2 rfl) ?_
  refine kX0_hasPlace hC hR hL hk ga1 ga2 mlX0_24 ⟨by decide, by decide⟩ hl.1 (Nat.le_of_ble_eq_true rfl) ⟨Nat.zero_le _, Nat.zero_le _⟩ dX0_cut_3 (fun v1 H locs hR hL gv1 hk => ?_)
  refine tw_zeq (tgt := 23) hC hk gv1 dX0_cut_6 (by decide) (fun _ hk => ?_) (fun _ hk => ?_)
  · cases hk
    exact tw_vret hC hR hL rfl dX0_cut_23
  · refine lv_aload_n hC.1 hC.2.1 dX0_cut_9 rfl (lv_at hl 0 rfl) ?_
    refine lv_iload_n hC.1 hC.2.1 dX0_cut_10 rfl (lv_at hl 1 rfl) ?_
    refine lv_iload_n hC.1 hC.2.1 dX0_cut_11 rfl (lv_at hl 3 rfl) ?_
    refine kX0_hasPlace hC hR hL hk ga1 ga3 mlX0_24 ⟨by decide, by decide⟩ hl.1 (Nat.le_of_ble_eq_true rfl) ⟨Nat.zero_le _, Nat.zero_le _⟩ dX0_cut_12 (fun v2 H locs hR hL gv2 hk => ?_)
    refine tw_zeq (tgt := 23) hC hk gv2 dX0_cut_15 (by decide) (fun _ hk => ?_) (fun _ hk => ?_)
    · cases hk
      exact tw_vret hC hR hL rfl dX0_cut_23
    · refine lv_iload_n hC.1 hC.2.1 dX0_cut_18 rfl (lv_at hl 3 rfl) ?_
      refine lv_iload_n hC.1 hC.2.1 dX0_cut_19 rfl (lv_at hl 2 rfl) ?_
      refine tw_cge (tgt := 24) hC hk ga3 ga2 dX0_cut_20 (by decide) (fun _ hk => ?_) (fun _ hk => ?_)
      · cases hk
        exact tw_vret hC hR hL rfl dX0_cut_23
      · refine lv_aload_n hC.1 hC.2.1 dX0_cut_24 rfl (lv_at hl 0 rfl) ?_
        refine tw_getR hC hR hk flX0_13 dX0_cut_25 (fun r3 hk => ?_)
        refine lv_iload_n hC.1 hC.2.1 dX0_cut_28 rfl (lv_at hl 1 rfl) ?_
        refine tw_aald hC hR hk dX0_cut_29 (fun r4 hk => ?_)
        refine lv_astore (lv' := [(4, .ref r4), (0, .ref this), (1, .int (tw_I a1)), (2, .int (tw_I a2)), (3, .int (tw_I a3))]) hC.1 hC.2.1 dX0_cut_30 hl (by decide) rfl (fun ls hl => ?_)
        refine lv_iload_n hC.1 hC.2.1 dX0_cut_32 rfl (lv_at hl 4 rfl) ?_
        refine lv_iload_n hC.1 hC.2.1 dX0_cut_33 rfl (lv_at hl 3 rfl) ?_
        refine tw_isub hC dX0_cut_34 ?_
        refine lv_iconst (v := tw_I 1) hC.1 hC.2.1 dX0_cut_35 rfl ?_
        refine tw_iadd hC dX0_cut_36 ?_
        refine lv_istore (lv' := [(5, .int (tw_I (tm_wr ((tm_wr (a3 - a2)) + 1)))), (4, .ref r4), (0, .ref this), (1, .int (tw_I a1)), (2, .int (tw_I a2)), (3, .int (tw_I a3))]) hC.1 hC.2.1 dX0_cut_37 hl (by decide) rfl (fun ls hl => ?_)
        refine lv_iload_n hC.1 hC.2.1 dX0_cut_39 rfl (lv_at hl 5 rfl) ?_
        refine lv_iconst (v := tw_I 1) hC.1 hC.2.1 dX0_cut_40 rfl ?_
        refine tw_iadd hC dX0_cut_41 ?_
        refine lv_istore (lv' := [(6, .int (tw_I (tm_wr (a3 + 1)))), (5, .int (tw_I (tm_wr ((tm_wr (a3 - a2)) + 1)))), (4, .ref r4), (0, .ref this), (1, .int (tw_I a1)), (2, .int (tw_I a2)), (3, .int (tw_I a3))]) hC.1 hC.2.1 dX0_cut_42 hl (by decide) rfl (fun ls hl => ?_)
        exact sX0_cut_L44 G sz hC this a1 a2 a3 ga1 ga2 ga3 r4 (tm_wr ((tm_wr (a3 - a2)) + 1)) (tm_wr (a3 + 1)) h ((tm_wr_rg _)) ((tm_wr_rg _)) out hk H locs _ hR hL (lv_sub hl [3, 4, 5, 6, 2, 1, 0] rfl)
set_option maxRecDepth 100000 in
theorem kX0_cut {l : Launch} {p : Program} {e : Env} {R : Room} {s : State} {m : MethodId} {args : Array Value} {below : List Frame} {meth : Method} {c : Code} {H : Heap} {locs : List Loc} {cells slots : Nat} {Q : State → Prop} {cc : ByteArray} {pc nL idx : Nat} {ls : Array Slot} {rest : List Value} {G : tw_G} {h : tm_H} {own : String} {ret : Option FieldType} {α : Type} {x : α} {sz : Nat} {this : Nat} {a1 : Int} {a2 : Int} {a3 : Int} (hC : tw_C G p s m args meth c own cc nL ret) (hR : tw_Rel G sz h H) (hL : tw_L G locs) {F : tm_H → Option α} (hk : (fX0_cut this a1 a2 a3 h).bind F = some x) (ga1 : tm_rg a1) (ga2 : tm_rg a2) (ga3 : tm_rg a3) (hl : tw_mL own idx yX0_cut) (hRm : rmX0_cut.frames + 1 ≤ R.frames ∧ 8 + (7 + 11) + rmX0_cut.locals ≤ R.locals) (hsz : ls.size = nL) (hW : (rest.map fun v => v.category).sum ≤ 8) (hf : cells + 0 ≤ R.cells ∧ slots + 0 ≤ R.slots) (hdg : decode cc pc = .ok (.invokevirtual idx, 3)) (kk : ∀ (h1 : tm_H) (H1 : Heap) (locs1 : List Loc), tw_Rel G sz h1 H1 → tw_L G locs1 → F h1 = some x → W p l e R s m args below meth c H1 locs1 (cells + 0) (slots + 0) Q (F0 m (pc + 3) ls (rest))) : W p l e R s m args below meth c H locs cells slots Q (F0 m pc ls (.int (tw_I a3) :: .int (tw_I a2) :: .int (tw_I a1) :: .ref this :: rest)) := by
  obtain ⟨r, hr, hF⟩ := Option.bind_eq_some_iff.mp hk
  have ob : ∀ r, fX0_cut this a1 a2 a3 h = some r → tm_is h 0 this := fun r hr => by
    unfold fX0_cut at hr
    exact (tm_th_is hr).1
  exact tw_backv (tw_runV hC hR (cX0_cut_ok l G sz this a1 a2 a3 ga1 ga2 ga3 h r hr) (n := 3) (As := [.int (tw_I a1), .int (tw_I a2), .int (tw_I a3)]) ⟨tw_in_TB 452 (by decide +kernel) rfl, tw_in_TB 12 (by decide +kernel) rfl, by decide +kernel⟩ (tw_in_TB 450 (by decide +kernel) rfl) (tw_in_TB 451 (by decide +kernel) rfl) hl ⟨rfl, rfl⟩ hRm (ob r hr) (T := TX0) (N := 2) rfl rfl hsz rfl hW hdg hf) hL (fun H1 locs1 a b => kk r H1 locs1 a b hF)
def rmX0_exchange : Room := { frames := 0, cells := 0, slots := 0, locals := 0 }
set_option maxRecDepth 100000 in
set_option maxHeartbeats 4000000 in
theorem sX0_exchange_S0 {l : Launch} {p : Program} {e : Env} {s : State} {m : MethodId} {args : Array Value} {below : List Frame} {meth : Method} {c : Code} (G : tw_G) (sz : Nat) (hC : tw_C G p s m args meth c RX0 cX0_exchange 6 (some .int)) (this : Nat) (a1 : Int) (a2 : Int) (ga1 : tm_rg a1) (ga2 : tm_rg a2) : ∀ (k : Nat) (st : (Int × Int × tm_H) ⊕ (Int × Int × Int × tm_H) ⊕ (Int × Int × Int × tm_H)) (out : Int × tm_H), tm_wit (fX0_exchange_S0 this a1 a2) k st = some out → match st with
    | .inl ((x3, x4, h)) => ∀ (H : Heap) (locs : List Loc) (ls : Array Slot), tm_rg x3 → tm_rg x4 → tw_Rel G sz h H → tw_L G locs → lv_has ls 6 [(0, .ref this), (1, .int (tw_I a1)), (2, .int (tw_I a2)), (3, .int (tw_I x3)), (4, .int (tw_I x4))] → W p l e rmX0_exchange s m args below meth c H locs 0 0 (MQ below (tw_Qi G sz out.1 out.2) args s 0 0 (tw_F G)) (F0 m 5 ls [])
    | .inr (.inl ((x3, x4, x5, h))) => ∀ (H : Heap) (locs : List Loc) (ls : Array Slot), tm_rg x3 → tm_rg x4 → tm_rg x5 → tw_Rel G sz h H → tw_L G locs → lv_has ls 6 [(0, .ref this), (1, .int (tw_I a1)), (2, .int (tw_I a2)), (3, .int (tw_I x3)), (4, .int (tw_I x4)), (5, .int (tw_I x5))] → W p l e rmX0_exchange s m args below meth c H locs 0 0 (MQ below (tw_Qi G sz out.1 out.2) args s 0 0 (tw_F G)) (F0 m 15 ls [])
    | .inr (.inr ((x3, x4, x5, h))) => ∀ (H : Heap) (locs : List Loc) (ls : Array Slot), tm_rg x3 → tm_rg x4 → tm_rg x5 → tw_Rel G sz h H → tw_L G locs → lv_has ls 6 [(0, .ref this), (1, .int (tw_I a1)), (2, .int (tw_I a2)), (3, .int (tw_I x3)), (4, .int (tw_I x4)), (5, .int (tw_I x5))] → W p l e rmX0_exchange s m args below meth c H locs 0 0 (MQ below (tw_Qi G sz out.1 out.2) args s 0 0 (tw_F G)) (F0 m 55 ls []) := by
  intro k
  induction k with
  | zero =>
    intro st out hk
    exact absurd hk (by unfold tm_wit; exact fun z => by cases z)
  | succ k ih =>
    intro st out hk
    obtain ⟨X, hk, hf⟩ := tm_wit_succ hk
    obtain ⟨x3, x4, h⟩ | ⟨x3, x4, x5, h⟩ | ⟨x3, x4, x5, h⟩ := st
    · intro H locs ls gx3 gx4 hR hL hl
      dsimp only [fX0_exchange_S0] at hk
      refine lv_iload hC.1 hC.2.1 dX0_exchange_5 (lv_at hl 4 rfl) ?_
      refine lv_bipush (v := tw_I 6) hC.1 hC.2.1 dX0_exchange_7 (by decide) ?_
      refine tw_cge (tgt := 67) hC hk gx4 ((tw_rgL rfl)) dX0_exchange_9 (by decide) (fun _ hk => ?_) (fun _ hk => ?_)
      · refine lv_iconst (v := tw_I 0) hC.1 hC.2.1 dX0_exchange_12 rfl ?_
        refine lv_istore (lv' := [(5, .int (tw_I 0)), (0, .ref this), (1, .int (tw_I a1)), (2, .int (tw_I a2)), (3, .int (tw_I x3)), (4, .int (tw_I x4))]) hC.1 hC.2.1 dX0_exchange_13 hl (by decide) rfl (fun ls hl => ?_)
        cases hk
        exact ih _ out hf H locs _ gx3 gx4 ((tw_rgL rfl)) hR hL (lv_sub hl [1, 2, 3, 4, 5, 0] rfl)
      · refine lv_iload_n hC.1 hC.2.1 dX0_exchange_67 rfl (lv_at hl 3 rfl) ?_
        cases hk
        cases hf
        exact tw_iret hC hR hL gx3 rfl rfl dX0_exchange_68
    · intro H locs ls gx3 gx4 gx5 hR hL hl
      dsimp only [fX0_exchange_S0] at hk
      refine lv_iload hC.1 hC.2.1 dX0_exchange_15 (lv_at hl 5 rfl) ?_
      refine lv_aload_n hC.1 hC.2.1 dX0_exchange_17 rfl (lv_at hl 0 rfl) ?_
      refine tw_getR hC hR hk flX0_16 dX0_exchange_18 (fun r1 hk => ?_)
      refine lv_iload hC.1 hC.2.1 dX0_exchange_21 (lv_at hl 4 rfl) ?_
      refine tw_iald hC hR hk dX0_exchange_23 (fun v2 gv2 hk => ?_)
      refine tw_cge (tgt := 61) hC hk gx5 gv2 dX0_exchange_24 (by decide) (fun _ hk => ?_) (fun _ hk => ?_)
      · refine lv_aload_n hC.1 hC.2.1 dX0_exchange_27 rfl (lv_at hl 0 rfl) ?_
        refine tw_getR hC hR hk flX0_13 dX0_exchange_28 (fun r3 hk => ?_)
        refine lv_iload hC.1 hC.2.1 dX0_exchange_31 (lv_at hl 4 rfl) ?_
        refine tw_aald hC hR hk dX0_exchange_33 (fun r4 hk => ?_)
        refine lv_iload hC.1 hC.2.1 dX0_exchange_34 (lv_at hl 5 rfl) ?_
        refine tw_iald hC hR hk dX0_exchange_36 (fun v5 gv5 hk => ?_)
        refine lv_iload_n hC.1 hC.2.1 dX0_exchange_37 rfl (lv_at hl 1 rfl) ?_
        refine tw_cne (tgt := 55) hC hk gv5 ga1 dX0_exchange_38 (by decide) (fun _ hk => ?_) (fun _ hk => ?_)
        · refine lv_aload_n hC.1 hC.2.1 dX0_exchange_41 rfl (lv_at hl 0 rfl) ?_
          refine tw_getR hC hR hk flX0_13 dX0_exchange_42 (fun r6 hk => ?_)
          refine lv_iload hC.1 hC.2.1 dX0_exchange_45 (lv_at hl 4 rfl) ?_
          refine tw_aald hC hR hk dX0_exchange_47 (fun r7 hk => ?_)
          refine lv_iload hC.1 hC.2.1 dX0_exchange_48 (lv_at hl 5 rfl) ?_
          refine lv_iload_n hC.1 hC.2.1 dX0_exchange_50 rfl (lv_at hl 2 rfl) ?_
          refine tw_iast hC hR hL ga2 hk dX0_exchange_51 (fun h8 H locs hR hL hk => ?_)
          refine tw_iinc (lv' := [(3, .int (tw_I (tm_wr (x3 + 1)))), (0, .ref this), (1, .int (tw_I a1)), (2, .int (tw_I a2)), (4, .int (tw_I x4)), (5, .int (tw_I x5))]) hC dX0_exchange_52 hl (k := 3) rfl (by decide) rfl (fun ls hl => ?_)
          cases hk
          exact ih _ out hf H locs _ ((tm_wr_rg _)) gx4 gx5 hR hL (lv_sub hl [1, 2, 3, 0, 4, 5] rfl)
        · cases hk
          exact ih _ out hf H locs _ gx3 gx4 gx5 hR hL (lv_sub hl [0, 1, 2, 3, 4, 5] rfl)
      · refine tw_iinc (lv' := [(4, .int (tw_I (tm_wr (x4 + 1)))), (0, .ref this), (1, .int (tw_I a1)), (2, .int (tw_I a2)), (3, .int (tw_I x3)), (5, .int (tw_I x5))]) hC dX0_exchange_61 hl (k := 4) rfl (by decide) rfl (fun ls hl => ?_)
        refine lv_goto (tgt := 5) hC.1 hC.2.1 dX0_exchange_64 (by decide) ?_
        cases hk
        exact ih _ out hf H locs _ gx3 ((tm_wr_rg _)) hR hL (lv_sub hl [1, 2, 3, 4, 0] rfl)
    · intro H locs ls gx3 gx4 gx5 hR hL hl
      dsimp only [fX0_exchange_S0] at hk
      refine tw_iinc (lv' := [(5, .int (tw_I (tm_wr (x5 + 1)))), (0, .ref this), (1, .int (tw_I a1)), (2, .int (tw_I a2)), (3, .int (tw_I x3)), (4, .int (tw_I x4))]) hC dX0_exchange_55 hl (k := 5) rfl (by decide) rfl (fun ls hl => ?_)
      refine lv_goto (tgt := 15) hC.1 hC.2.1 dX0_exchange_58 (by decide) ?_
      cases hk
      exact ih _ out hf H locs _ gx3 gx4 ((tm_wr_rg _)) hR hL (lv_sub hl [1, 2, 3, 4, 5, 0] rfl)
theorem sX0_exchange_L5 {l : Launch} {p : Program} {e : Env} {s : State} {m : MethodId} {args : Array Value} {below : List Frame} {meth : Method} {c : Code} (G : tw_G) (sz : Nat) (hC : tw_C G p s m args meth c RX0 cX0_exchange 6 (some .int)) (this : Nat) (a1 : Int) (a2 : Int) (ga1 : tm_rg a1) (ga2 : tm_rg a2) (x3 : Int) (x4 : Int) (h : tm_H) (gx3 : tm_rg x3) (gx4 : tm_rg x4) (out : Int × tm_H) (hk : fX0_exchange_L5 this a1 a2 x3 x4 h = some out) (H : Heap) (locs : List Loc) (ls : Array Slot) (hR : tw_Rel G sz h H) (hL : tw_L G locs) (hl : lv_has ls 6 [(0, .ref this), (1, .int (tw_I a1)), (2, .int (tw_I a2)), (3, .int (tw_I x3)), (4, .int (tw_I x4))]) : W p l e rmX0_exchange s m args below meth c H locs 0 0 (MQ below (tw_Qi G sz out.1 out.2) args s 0 0 (tw_F G)) (F0 m 5 ls []) := by
  obtain ⟨k, hk⟩ := tm_wl_iff.mp hk
  exact sX0_exchange_S0 G sz hC this a1 a2 ga1 ga2 k (.inl ((x3, x4, h))) out hk H locs ls gx3 gx4 hR hL hl
theorem sX0_exchange_L15 {l : Launch} {p : Program} {e : Env} {s : State} {m : MethodId} {args : Array Value} {below : List Frame} {meth : Method} {c : Code} (G : tw_G) (sz : Nat) (hC : tw_C G p s m args meth c RX0 cX0_exchange 6 (some .int)) (this : Nat) (a1 : Int) (a2 : Int) (ga1 : tm_rg a1) (ga2 : tm_rg a2) (x3 : Int) (x4 : Int) (x5 : Int) (h : tm_H) (gx3 : tm_rg x3) (gx4 : tm_rg x4) (gx5 : tm_rg x5) (out : Int × tm_H) (hk : fX0_exchange_L15 this a1 a2 x3 x4 x5 h = some out) (H : Heap) (locs : List Loc) (ls : Array Slot) (hR : tw_Rel G sz h H) (hL : tw_L G locs) (hl : lv_has ls 6 [(0, .ref this), (1, .int (tw_I a1)), (2, .int (tw_I a2)), (3, .int (tw_I x3)), (4, .int (tw_I x4)), (5, .int (tw_I x5))]) : W p l e rmX0_exchange s m args below meth c H locs 0 0 (MQ below (tw_Qi G sz out.1 out.2) args s 0 0 (tw_F G)) (F0 m 15 ls []) := by
  obtain ⟨k, hk⟩ := tm_wl_iff.mp hk
  exact sX0_exchange_S0 G sz hC this a1 a2 ga1 ga2 k (.inr (.inl ((x3, x4, x5, h)))) out hk H locs ls gx3 gx4 gx5 hR hL hl
theorem sX0_exchange_L55 {l : Launch} {p : Program} {e : Env} {s : State} {m : MethodId} {args : Array Value} {below : List Frame} {meth : Method} {c : Code} (G : tw_G) (sz : Nat) (hC : tw_C G p s m args meth c RX0 cX0_exchange 6 (some .int)) (this : Nat) (a1 : Int) (a2 : Int) (ga1 : tm_rg a1) (ga2 : tm_rg a2) (x3 : Int) (x4 : Int) (x5 : Int) (h : tm_H) (gx3 : tm_rg x3) (gx4 : tm_rg x4) (gx5 : tm_rg x5) (out : Int × tm_H) (hk : fX0_exchange_L55 this a1 a2 x3 x4 x5 h = some out) (H : Heap) (locs : List Loc) (ls : Array Slot) (hR : tw_Rel G sz h H) (hL : tw_L G locs) (hl : lv_has ls 6 [(0, .ref this), (1, .int (tw_I a1)), (2, .int (tw_I a2)), (3, .int (tw_I x3)), (4, .int (tw_I x4)), (5, .int (tw_I x5))]) : W p l e rmX0_exchange s m args below meth c H locs 0 0 (MQ below (tw_Qi G sz out.1 out.2) args s 0 0 (tw_F G)) (F0 m 55 ls []) := by
  obtain ⟨k, hk⟩ := tm_wl_iff.mp hk
  exact sX0_exchange_S0 G sz hC this a1 a2 ga1 ga2 k (.inr (.inr ((x3, x4, x5, h)))) out hk H locs ls gx3 gx4 gx5 hR hL hl
set_option maxRecDepth 100000 in
set_option maxHeartbeats 4000000 in
theorem cX0_exchange_ok (l : Launch) (G : tw_G) (sz : Nat) (this : Nat) (a1 : Int) (a2 : Int) (ga1 : tm_rg a1) (ga2 : tm_rg a2) (h : tm_H) (out : Int × tm_H) (hk : fX0_exchange this a1 a2 h = some out) : Met l yX0_exchange (tw_WS yX0_exchange cX0_exchange 6 (some .int)) rmX0_exchange (va_Pc [.ref this, .int (tw_I a1), .int (tw_I a2)] (tw_Pre G sz h)) (tw_Qi G sz out.1 out.2) 0 0 (tw_F G) := by
  refine tw_met (by decide +kernel) (Nat.le_of_ble_eq_true rfl) ?_
  intro p e s m args below meth c H ls hC hnm hR hl
  unfold fX0_exchange at hk
  obtain ⟨hob, hk⟩ := tm_th_is hk
  have hl : lv_has ls 6 [(0, .ref this), (1, .int (tw_I a1)), (2, .int (tw_I a2))] := hl
  have hL : tw_L G [] := fun q z => by cases z
  generalize hlc : ([] : List Loc) = locs at hL ⊢
  refine lv_iconst (v := tw_I 0) hC.1 hC.2.1 dX0_exchange_0 rfl ?_
  refine lv_istore_n (lv' := [(3, .int (tw_I 0)), (0, .ref this), (1, .int (tw_I a1)), (2, .int (tw_I a2))]) hC.1 hC.2.1 dX0_exchange_1 rfl hl (by decide) rfl (fun ls hl => ?_)
  refine lv_iconst (v := tw_I 0) hC.1 hC.2.1 dX0_exchange_2 rfl ?_
  refine lv_istore (lv' := [(4, .int (tw_I 0)), (3, .int (tw_I 0)), (0, .ref this), (1, .int (tw_I a1)), (2, .int (tw_I a2))]) hC.1 hC.2.1 dX0_exchange_3 hl (by decide) rfl (fun ls hl => ?_)
  exact sX0_exchange_L5 G sz hC this a1 a2 ga1 ga2 0 0 h ((tw_rgL rfl)) ((tw_rgL rfl)) out hk H locs _ hR hL (lv_sub hl [2, 3, 4, 1, 0] rfl)
set_option maxRecDepth 100000 in
theorem kX0_exchange {l : Launch} {p : Program} {e : Env} {R : Room} {s : State} {m : MethodId} {args : Array Value} {below : List Frame} {meth : Method} {c : Code} {H : Heap} {locs : List Loc} {cells slots : Nat} {Q : State → Prop} {cc : ByteArray} {pc nL idx : Nat} {ls : Array Slot} {rest : List Value} {G : tw_G} {h : tm_H} {own : String} {ret : Option FieldType} {α : Type} {x : α} {sz : Nat} {this : Nat} {a1 : Int} {a2 : Int} (hC : tw_C G p s m args meth c own cc nL ret) (hR : tw_Rel G sz h H) (hL : tw_L G locs) {F : Int × tm_H → Option α} (hk : (fX0_exchange this a1 a2 h).bind F = some x) (ga1 : tm_rg a1) (ga2 : tm_rg a2) (hl : tw_mL own idx yX0_exchange) (hRm : rmX0_exchange.frames + 1 ≤ R.frames ∧ 8 + (6 + 11) + rmX0_exchange.locals ≤ R.locals) (hsz : ls.size = nL) (hW : (rest.map fun v => v.category).sum ≤ 8) (hf : cells + 0 ≤ R.cells ∧ slots + 0 ≤ R.slots) (hdg : decode cc pc = .ok (.invokevirtual idx, 3)) (kk : ∀ (r : Int) (h1 : tm_H) (H1 : Heap) (locs1 : List Loc), tw_Rel G sz h1 H1 → tw_L G locs1 → tm_rg r → F (r, h1) = some x → W p l e R s m args below meth c H1 locs1 (cells + 0) (slots + 0) Q (F0 m (pc + 3) ls (.int (tw_I r) :: rest))) : W p l e R s m args below meth c H locs cells slots Q (F0 m pc ls (.int (tw_I a2) :: .int (tw_I a1) :: .ref this :: rest)) := by
  obtain ⟨r, hr, hF⟩ := Option.bind_eq_some_iff.mp hk
  have ob : ∀ r, fX0_exchange this a1 a2 h = some r → tm_is h 0 this := fun r hr => by
    unfold fX0_exchange at hr
    exact (tm_th_is hr).1
  exact tw_backi (tw_runV hC hR (cX0_exchange_ok l G sz this a1 a2 ga1 ga2 h r hr) (n := 2) (As := [.int (tw_I a1), .int (tw_I a2)]) ⟨tw_in_TB 461 (by decide +kernel) rfl, tw_in_TB 12 (by decide +kernel) rfl, by decide +kernel⟩ (tw_in_TB 459 (by decide +kernel) rfl) (tw_in_TB 460 (by decide +kernel) rfl) hl ⟨rfl, rfl⟩ hRm (ob r hr) (T := TX0) (N := 2) rfl rfl hsz rfl hW hdg hf) hL (fun H1 locs1 a b g => kk r.1 r.2 H1 locs1 a b g hF)
def rmX0_trade : Room := { frames := 1, cells := 0, slots := 0, locals := 21 }
set_option maxRecDepth 100000 in
set_option maxHeartbeats 4000000 in
theorem cX0_trade_ok (l : Launch) (G : tw_G) (sz : Nat) (this : Nat) (a1 : Int) (a2 : Int) (ga1 : tm_rg a1) (ga2 : tm_rg a2) (h : tm_H) (out : tm_H) (hk : fX0_trade this a1 a2 h = some out) : Met l yX0_trade (tw_WS yX0_trade cX0_trade 5 none) rmX0_trade (va_Pc [.ref this, .int (tw_I a1), .int (tw_I a2)] (tw_Pre G sz h)) (tw_Qv G sz out) 0 0 (tw_F G) := by
  refine tw_met (by decide +kernel) (Nat.le_of_ble_eq_true rfl) ?_
  intro p e s m args below meth c H ls hC hnm hR hl
  unfold fX0_trade at hk
  obtain ⟨hob, hk⟩ := tm_th_is hk
  have hl : lv_has ls 5 [(0, .ref this), (1, .int (tw_I a1)), (2, .int (tw_I a2))] := hl
  have hL : tw_L G [] := fun q z => by cases z
  generalize hlc : ([] : List Loc) = locs at hL ⊢
  refine lv_aload_n hC.1 hC.2.1 dX0_trade_0 rfl (lv_at hl 0 rfl) ?_
  refine lv_iload_n hC.1 hC.2.1 dX0_trade_1 rfl (lv_at hl 1 rfl) ?_
  refine kX0_has hC hR hL hk ga1 mlX0_20 ⟨by decide, by decide⟩ hl.1 (Nat.le_of_ble_eq_true rfl) ⟨Nat.zero_le _, Nat.zero_le _⟩ dX0_trade_2 (fun v1 H locs hR hL gv1 hk => ?_)
  refine tw_zeq (tgt := 16) hC hk gv1 dX0_trade_5 (by decide) (fun _ hk => ?_) (fun _ hk => ?_)
  · cases hk
    exact tw_vret hC hR hL rfl dX0_trade_16
  · refine lv_aload_n hC.1 hC.2.1 dX0_trade_8 rfl (lv_at hl 0 rfl) ?_
    refine lv_iload_n hC.1 hC.2.1 dX0_trade_9 rfl (lv_at hl 2 rfl) ?_
    refine kX0_has hC hR hL hk ga2 mlX0_20 ⟨by decide, by decide⟩ hl.1 (Nat.le_of_ble_eq_true rfl) ⟨Nat.zero_le _, Nat.zero_le _⟩ dX0_trade_10 (fun v2 H locs hR hL gv2 hk => ?_)
    refine tw_zne (tgt := 17) hC hk gv2 dX0_trade_13 (by decide) (fun _ hk => ?_) (fun _ hk => ?_)
    · cases hk
      exact tw_vret hC hR hL rfl dX0_trade_16
    · refine lv_aload_n hC.1 hC.2.1 dX0_trade_17 rfl (lv_at hl 0 rfl) ?_
      refine tw_getR hC hR hk flX0_13 dX0_trade_18 (fun r3 hk => ?_)
      refine lv_iload_n hC.1 hC.2.1 dX0_trade_21 rfl (lv_at hl 1 rfl) ?_
      refine tw_aald hC hR hk dX0_trade_22 (fun r4 hk => ?_)
      refine lv_astore_n (lv' := [(3, .ref r4), (0, .ref this), (1, .int (tw_I a1)), (2, .int (tw_I a2))]) hC.1 hC.2.1 dX0_trade_23 rfl hl (by decide) rfl (fun ls hl => ?_)
      refine lv_aload_n hC.1 hC.2.1 dX0_trade_24 rfl (lv_at hl 1 rfl) ?_
      refine tw_getR hC hR hk flX0_13 dX0_trade_25 (fun r5 hk => ?_)
      refine lv_iload_n hC.1 hC.2.1 dX0_trade_28 rfl (lv_at hl 2 rfl) ?_
      refine lv_aload_n hC.1 hC.2.1 dX0_trade_29 rfl (lv_at hl 1 rfl) ?_
      refine tw_getR hC hR hk flX0_13 dX0_trade_30 (fun r6 hk => ?_)
      refine lv_iload_n hC.1 hC.2.1 dX0_trade_33 rfl (lv_at hl 3 rfl) ?_
      refine tw_aald hC hR hk dX0_trade_34 (fun r7 hk => ?_)
      refine tw_aast hC hR hL tw_ks5 hk dX0_trade_35 (fun h8 H locs hR hL hk => ?_)
      refine lv_aload_n hC.1 hC.2.1 dX0_trade_36 rfl (lv_at hl 1 rfl) ?_
      refine tw_getR hC hR hk flX0_13 dX0_trade_37 (fun r9 hk => ?_)
      refine lv_iload_n hC.1 hC.2.1 dX0_trade_40 rfl (lv_at hl 3 rfl) ?_
      refine lv_aload_n hC.1 hC.2.1 dX0_trade_41 rfl (lv_at hl 0 rfl) ?_
      refine tw_aast hC hR hL tw_ks5 hk dX0_trade_42 (fun h10 H locs hR hL hk => ?_)
      refine lv_aload_n hC.1 hC.2.1 dX0_trade_43 rfl (lv_at hl 1 rfl) ?_
      refine tw_getR hC hR hk flX0_16 dX0_trade_44 (fun r11 hk => ?_)
      refine lv_iload_n hC.1 hC.2.1 dX0_trade_47 rfl (lv_at hl 2 rfl) ?_
      refine tw_iald hC hR hk dX0_trade_48 (fun v12 gv12 hk => ?_)
      refine lv_istore (lv' := [(4, .int (tw_I v12)), (3, .ref r4), (0, .ref this), (1, .int (tw_I a1)), (2, .int (tw_I a2))]) hC.1 hC.2.1 dX0_trade_49 hl (by decide) rfl (fun ls hl => ?_)
      refine lv_aload_n hC.1 hC.2.1 dX0_trade_51 rfl (lv_at hl 2 rfl) ?_
      refine tw_getR hC hR hk flX0_16 dX0_trade_52 (fun r13 hk => ?_)
      refine lv_iload_n hC.1 hC.2.1 dX0_trade_55 rfl (lv_at hl 3 rfl) ?_
      refine lv_aload_n hC.1 hC.2.1 dX0_trade_56 rfl (lv_at hl 2 rfl) ?_
      refine tw_getR hC hR hk flX0_16 dX0_trade_57 (fun r14 hk => ?_)
      refine lv_iload_n hC.1 hC.2.1 dX0_trade_60 rfl (lv_at hl 4 rfl) ?_
      refine tw_iald hC hR hk dX0_trade_61 (fun v15 gv15 hk => ?_)
      refine tw_iast hC hR hL gv15 hk dX0_trade_62 (fun h16 H locs hR hL hk => ?_)
      refine lv_aload_n hC.1 hC.2.1 dX0_trade_63 rfl (lv_at hl 2 rfl) ?_
      refine tw_getR hC hR hk flX0_16 dX0_trade_64 (fun r17 hk => ?_)
      refine lv_iload_n hC.1 hC.2.1 dX0_trade_67 rfl (lv_at hl 4 rfl) ?_
      refine lv_iload hC.1 hC.2.1 dX0_trade_68 (lv_at hl 0 rfl) ?_
      refine tw_iast hC hR hL gv12 hk dX0_trade_70 (fun h18 H locs hR hL hk => ?_)
      cases hk
      exact tw_vret hC hR hL rfl dX0_trade_71
set_option maxRecDepth 100000 in
theorem kX0_trade {l : Launch} {p : Program} {e : Env} {R : Room} {s : State} {m : MethodId} {args : Array Value} {below : List Frame} {meth : Method} {c : Code} {H : Heap} {locs : List Loc} {cells slots : Nat} {Q : State → Prop} {cc : ByteArray} {pc nL idx : Nat} {ls : Array Slot} {rest : List Value} {G : tw_G} {h : tm_H} {own : String} {ret : Option FieldType} {α : Type} {x : α} {sz : Nat} {this : Nat} {a1 : Int} {a2 : Int} (hC : tw_C G p s m args meth c own cc nL ret) (hR : tw_Rel G sz h H) (hL : tw_L G locs) {F : tm_H → Option α} (hk : (fX0_trade this a1 a2 h).bind F = some x) (ga1 : tm_rg a1) (ga2 : tm_rg a2) (hl : tw_mL own idx yX0_trade) (hRm : rmX0_trade.frames + 1 ≤ R.frames ∧ 8 + (5 + 11) + rmX0_trade.locals ≤ R.locals) (hsz : ls.size = nL) (hW : (rest.map fun v => v.category).sum ≤ 8) (hf : cells + 0 ≤ R.cells ∧ slots + 0 ≤ R.slots) (hdg : decode cc pc = .ok (.invokevirtual idx, 3)) (kk : ∀ (h1 : tm_H) (H1 : Heap) (locs1 : List Loc), tw_Rel G sz h1 H1 → tw_L G locs1 → F h1 = some x → W p l e R s m args below meth c H1 locs1 (cells + 0) (slots + 0) Q (F0 m (pc + 3) ls (rest))) : W p l e R s m args below meth c H locs cells slots Q (F0 m pc ls (.int (tw_I a2) :: .int (tw_I a1) :: .ref this :: rest)) := by
  obtain ⟨r, hr, hF⟩ := Option.bind_eq_some_iff.mp hk
  have ob : ∀ r, fX0_trade this a1 a2 h = some r → tm_is h 0 this := fun r hr => by
    unfold fX0_trade at hr
    exact (tm_th_is hr).1
  exact tw_backv (tw_runV hC hR (cX0_trade_ok l G sz this a1 a2 ga1 ga2 h r hr) (n := 2) (As := [.int (tw_I a1), .int (tw_I a2)]) ⟨tw_in_TB 469 (by decide +kernel) rfl, tw_in_TB 12 (by decide +kernel) rfl, by decide +kernel⟩ (tw_in_TB 467 (by decide +kernel) rfl) (tw_in_TB 468 (by decide +kernel) rfl) hl ⟨rfl, rfl⟩ hRm (ob r hr) (T := TX0) (N := 2) rfl rfl hsz rfl hW hdg hf) hL (fun H1 locs1 a b => kk r H1 locs1 a b hF)
def rmX0_total : Room := { frames := 0, cells := 0, slots := 0, locals := 0 }
set_option maxRecDepth 100000 in
set_option maxHeartbeats 4000000 in
theorem sX0_total_S0 {l : Launch} {p : Program} {e : Env} {s : State} {m : MethodId} {args : Array Value} {below : List Frame} {meth : Method} {c : Code} (G : tw_G) (sz : Nat) (hC : tw_C G p s m args meth c RX0 cX0_total 3 (some .int)) (this : Nat)  (h : tm_H) : ∀ (k : Nat) (st : (Int × Int)) (out : Int), tm_wit (fX0_total_S0 this h) k st = some out → match st with
    | (x1, x2) => ∀ (H : Heap) (locs : List Loc) (ls : Array Slot), tm_rg x1 → tm_rg x2 → tw_Rel G sz h H → tw_L G locs → lv_has ls 3 [(0, .ref this), (1, .int (tw_I x1)), (2, .int (tw_I x2))] → W p l e rmX0_total s m args below meth c H locs 0 0 (MQ below (tw_Qi G sz out h) args s 0 0 (tw_F G)) (F0 m 4 ls []) := by
  intro k
  induction k with
  | zero =>
    intro st out hk
    exact absurd hk (by unfold tm_wit; exact fun z => by cases z)
  | succ k ih =>
    intro st out hk
    obtain ⟨X, hk, hf⟩ := tm_wit_succ hk
    obtain ⟨x1, x2⟩ := st
    intro H locs ls gx1 gx2 hR hL hl
    dsimp only [fX0_total_S0] at hk
    refine lv_iload_n hC.1 hC.2.1 dX0_total_4 rfl (lv_at hl 2 rfl) ?_
    refine lv_bipush (v := tw_I 6) hC.1 hC.2.1 dX0_total_5 (by decide) ?_
    refine tw_cge (tgt := 25) hC hk gx2 ((tw_rgL rfl)) dX0_total_7 (by decide) (fun _ hk => ?_) (fun _ hk => ?_)
    · refine lv_iload_n hC.1 hC.2.1 dX0_total_10 rfl (lv_at hl 1 rfl) ?_
      refine lv_aload_n hC.1 hC.2.1 dX0_total_11 rfl (lv_at hl 0 rfl) ?_
      refine tw_getR hC hR hk flX0_16 dX0_total_12 (fun r1 hk => ?_)
      refine lv_iload_n hC.1 hC.2.1 dX0_total_15 rfl (lv_at hl 2 rfl) ?_
      refine tw_iald hC hR hk dX0_total_16 (fun v2 gv2 hk => ?_)
      refine tw_iadd hC dX0_total_17 ?_
      refine lv_istore_n (lv' := [(1, .int (tw_I (tm_wr (x1 + v2)))), (0, .ref this), (2, .int (tw_I x2))]) hC.1 hC.2.1 dX0_total_18 rfl hl (by decide) rfl (fun ls hl => ?_)
      refine tw_iinc (lv' := [(2, .int (tw_I (tm_wr (x2 + 1)))), (1, .int (tw_I (tm_wr (x1 + v2)))), (0, .ref this)]) hC dX0_total_19 hl (k := 2) rfl (by decide) rfl (fun ls hl => ?_)
      refine lv_goto (tgt := 4) hC.1 hC.2.1 dX0_total_22 (by decide) ?_
      cases hk
      exact ih _ out hf H locs _ ((tm_wr_rg _)) ((tm_wr_rg _)) hR hL (lv_sub hl [2, 1, 0] rfl)
    · refine lv_iload_n hC.1 hC.2.1 dX0_total_25 rfl (lv_at hl 1 rfl) ?_
      cases hk
      cases hf
      exact tw_iret hC hR hL gx1 rfl rfl dX0_total_26
theorem sX0_total_L4 {l : Launch} {p : Program} {e : Env} {s : State} {m : MethodId} {args : Array Value} {below : List Frame} {meth : Method} {c : Code} (G : tw_G) (sz : Nat) (hC : tw_C G p s m args meth c RX0 cX0_total 3 (some .int)) (this : Nat)  (h : tm_H) (x1 : Int) (x2 : Int) (gx1 : tm_rg x1) (gx2 : tm_rg x2) (out : Int) (hk : fX0_total_L4 this h x1 x2 = some out) (H : Heap) (locs : List Loc) (ls : Array Slot) (hR : tw_Rel G sz h H) (hL : tw_L G locs) (hl : lv_has ls 3 [(0, .ref this), (1, .int (tw_I x1)), (2, .int (tw_I x2))]) : W p l e rmX0_total s m args below meth c H locs 0 0 (MQ below (tw_Qi G sz out h) args s 0 0 (tw_F G)) (F0 m 4 ls []) := by
  obtain ⟨k, hk⟩ := tm_wl_iff.mp hk
  exact sX0_total_S0 G sz hC this  h k ((x1, x2)) out hk H locs ls gx1 gx2 hR hL hl
set_option maxRecDepth 100000 in
set_option maxHeartbeats 4000000 in
theorem cX0_total_ok (l : Launch) (G : tw_G) (sz : Nat) (this : Nat)  (h : tm_H) (out : Int) (hk : fX0_total this h = some out) : Met l yX0_total (tw_WS yX0_total cX0_total 3 (some .int)) rmX0_total (va_Pc [.ref this] (tw_Pre G sz h)) (tw_Qi G sz out h) 0 0 (tw_F G) := by
  refine tw_met (by decide +kernel) (Nat.le_of_ble_eq_true rfl) ?_
  intro p e s m args below meth c H ls hC hnm hR hl
  unfold fX0_total at hk
  obtain ⟨hob, hk⟩ := tm_th_is hk
  have hl : lv_has ls 3 [(0, .ref this)] := hl
  have hL : tw_L G [] := fun q z => by cases z
  generalize hlc : ([] : List Loc) = locs at hL ⊢
  refine lv_iconst (v := tw_I 0) hC.1 hC.2.1 dX0_total_0 rfl ?_
  refine lv_istore_n (lv' := [(1, .int (tw_I 0)), (0, .ref this)]) hC.1 hC.2.1 dX0_total_1 rfl hl (by decide) rfl (fun ls hl => ?_)
  refine lv_iconst (v := tw_I 0) hC.1 hC.2.1 dX0_total_2 rfl ?_
  refine lv_istore_n (lv' := [(2, .int (tw_I 0)), (1, .int (tw_I 0)), (0, .ref this)]) hC.1 hC.2.1 dX0_total_3 rfl hl (by decide) rfl (fun ls hl => ?_)
  exact sX0_total_L4 G sz hC this h 0 0 ((tw_rgL rfl)) ((tw_rgL rfl)) out hk H locs _ hR hL (lv_sub hl [2, 1, 0] rfl)
set_option maxRecDepth 100000 in
theorem kX0_total {l : Launch} {p : Program} {e : Env} {R : Room} {s : State} {m : MethodId} {args : Array Value} {below : List Frame} {meth : Method} {c : Code} {H : Heap} {locs : List Loc} {cells slots : Nat} {Q : State → Prop} {cc : ByteArray} {pc nL idx : Nat} {ls : Array Slot} {rest : List Value} {G : tw_G} {h : tm_H} {own : String} {ret : Option FieldType} {α : Type} {x : α} {sz : Nat} {this : Nat} (hC : tw_C G p s m args meth c own cc nL ret) (hR : tw_Rel G sz h H) (hL : tw_L G locs) {F : Int → Option α} (hk : (fX0_total this h).bind F = some x)  (hl : tw_mL own idx yX0_total) (hRm : rmX0_total.frames + 1 ≤ R.frames ∧ 8 + (3 + 11) + rmX0_total.locals ≤ R.locals) (hsz : ls.size = nL) (hW : (rest.map fun v => v.category).sum ≤ 8) (hf : cells + 0 ≤ R.cells ∧ slots + 0 ≤ R.slots) (hdg : decode cc pc = .ok (.invokevirtual idx, 3)) (kk : ∀ (r : Int) (H1 : Heap) (locs1 : List Loc), tw_Rel G sz h H1 → tw_L G locs1 → tm_rg r → F r = some x → W p l e R s m args below meth c H1 locs1 (cells + 0) (slots + 0) Q (F0 m (pc + 3) ls (.int (tw_I r) :: rest))) : W p l e R s m args below meth c H locs cells slots Q (F0 m pc ls (.ref this :: rest)) := by
  obtain ⟨r, hr, hF⟩ := Option.bind_eq_some_iff.mp hk
  have ob : ∀ r, fX0_total this h = some r → tm_is h 0 this := fun r hr => by
    unfold fX0_total at hr
    exact (tm_th_is hr).1
  exact tw_backi (tw_runV hC hR (cX0_total_ok l G sz this  h r hr) (n := 0) (As := []) ⟨tw_in_TB 265 (by decide +kernel) rfl, tw_in_TB 12 (by decide +kernel) rfl, by decide +kernel⟩ (tw_in_TB 263 (by decide +kernel) rfl) (tw_in_TB 264 (by decide +kernel) rfl) hl ⟨rfl, rfl⟩ hRm (ob r hr) (T := TX0) (N := 2) rfl rfl hsz rfl hW hdg hf) hL (fun H1 locs1 a b g => kk r H1 locs1 a b g hF)
def rmX0_copyFrom : Room := { frames := 1, cells := 0, slots := 0, locals := 26 }
set_option maxRecDepth 100000 in
set_option maxHeartbeats 4000000 in
theorem sX0_copyFrom_S0 {l : Launch} {p : Program} {e : Env} {s : State} {m : MethodId} {args : Array Value} {below : List Frame} {meth : Method} {c : Code} (G : tw_G) (sz : Nat) (hC : tw_C G p s m args meth c RX0 cX0_copyFrom 3 none) (this : Nat) (a1 : Nat)  : ∀ (k : Nat) (st : (Int × tm_H)) (out : tm_H), tm_wit (fX0_copyFrom_S0 this a1) k st = some out → match st with
    | (x2, h) => ∀ (H : Heap) (locs : List Loc) (ls : Array Slot), tm_rg x2 → tw_Rel G sz h H → tw_L G locs → lv_has ls 3 [(0, .ref this), (1, .ref a1), (2, .int (tw_I x2))] → W p l e rmX0_copyFrom s m args below meth c H locs 0 0 (MQ below (tw_Qv G sz out) args s 0 0 (tw_F G)) (F0 m 2 ls []) := by
  intro k
  induction k with
  | zero =>
    intro st out hk
    exact absurd hk (by unfold tm_wit; exact fun z => by cases z)
  | succ k ih =>
    intro st out hk
    obtain ⟨X, hk, hf⟩ := tm_wit_succ hk
    obtain ⟨x2, h⟩ := st
    intro H locs ls gx2 hR hL hl
    dsimp only [fX0_copyFrom_S0] at hk
    refine lv_iload_n hC.1 hC.2.1 dX0_copyFrom_2 rfl (lv_at hl 2 rfl) ?_
    refine lv_bipush (v := tw_I 6) hC.1 hC.2.1 dX0_copyFrom_3 (by decide) ?_
    refine tw_cge (tgt := 33) hC hk gx2 ((tw_rgL rfl)) dX0_copyFrom_5 (by decide) (fun _ hk => ?_) (fun _ hk => ?_)
    · refine lv_aload_n hC.1 hC.2.1 dX0_copyFrom_8 rfl (lv_at hl 1 rfl) ?_
      refine tw_getR hC hR hk flX0_13 dX0_copyFrom_9 (fun r1 hk => ?_)
      refine lv_iload_n hC.1 hC.2.1 dX0_copyFrom_12 rfl (lv_at hl 2 rfl) ?_
      refine tw_aald hC hR hk dX0_copyFrom_13 (fun r2 hk => ?_)
      refine lv_iconst (v := tw_I 0) hC.1 hC.2.1 dX0_copyFrom_14 rfl ?_
      refine lv_aload_n hC.1 hC.2.1 dX0_copyFrom_15 rfl (lv_at hl 0 rfl) ?_
      refine tw_getR hC hR hk flX0_13 dX0_copyFrom_16 (fun r3 hk => ?_)
      refine lv_iload_n hC.1 hC.2.1 dX0_copyFrom_19 rfl (lv_at hl 2 rfl) ?_
      refine tw_aald hC hR hk dX0_copyFrom_20 (fun r4 hk => ?_)
      refine lv_iconst (v := tw_I 0) hC.1 hC.2.1 dX0_copyFrom_21 rfl ?_
      refine lv_bipush (v := tw_I 40) hC.1 hC.2.1 dX0_copyFrom_22 (by decide) ?_
      refine tw_cpi hC hR hL (tw_in_TB 248 (by decide +kernel) rfl) tw_acN hl.1 hk (by decide) (Nat.le_of_ble_eq_true rfl) dX0_copyFrom_24 (fun h5 H locs hR hL hk => ?_)
      refine tw_iinc (lv' := [(2, .int (tw_I (tm_wr (x2 + 1)))), (0, .ref this), (1, .ref a1)]) hC dX0_copyFrom_27 hl (k := 2) rfl (by decide) rfl (fun ls hl => ?_)
      refine lv_goto (tgt := 2) hC.1 hC.2.1 dX0_copyFrom_30 (by decide) ?_
      cases hk
      exact ih _ out hf H locs _ ((tm_wr_rg _)) hR hL (lv_sub hl [1, 2, 0] rfl)
    · refine lv_aload_n hC.1 hC.2.1 dX0_copyFrom_33 rfl (lv_at hl 1 rfl) ?_
      refine tw_getR hC hR hk flX0_16 dX0_copyFrom_34 (fun r6 hk => ?_)
      refine lv_iconst (v := tw_I 0) hC.1 hC.2.1 dX0_copyFrom_37 rfl ?_
      refine lv_aload_n hC.1 hC.2.1 dX0_copyFrom_38 rfl (lv_at hl 0 rfl) ?_
      refine tw_getR hC hR hk flX0_16 dX0_copyFrom_39 (fun r7 hk => ?_)
      refine lv_iconst (v := tw_I 0) hC.1 hC.2.1 dX0_copyFrom_42 rfl ?_
      refine lv_bipush (v := tw_I 6) hC.1 hC.2.1 dX0_copyFrom_43 (by decide) ?_
      refine tw_cpi hC hR hL (tw_in_TB 248 (by decide +kernel) rfl) tw_acN hl.1 hk (by decide) (Nat.le_of_ble_eq_true rfl) dX0_copyFrom_45 (fun h8 H locs hR hL hk => ?_)
      cases hk
      cases hf
      exact tw_vret hC hR hL rfl dX0_copyFrom_48
theorem sX0_copyFrom_L2 {l : Launch} {p : Program} {e : Env} {s : State} {m : MethodId} {args : Array Value} {below : List Frame} {meth : Method} {c : Code} (G : tw_G) (sz : Nat) (hC : tw_C G p s m args meth c RX0 cX0_copyFrom 3 none) (this : Nat) (a1 : Nat)  (x2 : Int) (h : tm_H) (gx2 : tm_rg x2) (out : tm_H) (hk : fX0_copyFrom_L2 this a1 x2 h = some out) (H : Heap) (locs : List Loc) (ls : Array Slot) (hR : tw_Rel G sz h H) (hL : tw_L G locs) (hl : lv_has ls 3 [(0, .ref this), (1, .ref a1), (2, .int (tw_I x2))]) : W p l e rmX0_copyFrom s m args below meth c H locs 0 0 (MQ below (tw_Qv G sz out) args s 0 0 (tw_F G)) (F0 m 2 ls []) := by
  obtain ⟨k, hk⟩ := tm_wl_iff.mp hk
  exact sX0_copyFrom_S0 G sz hC this a1  k ((x2, h)) out hk H locs ls gx2 hR hL hl
set_option maxRecDepth 100000 in
set_option maxHeartbeats 4000000 in
theorem cX0_copyFrom_ok (l : Launch) (G : tw_G) (sz : Nat) (this : Nat) (a1 : Nat)  (h : tm_H) (out : tm_H) (hk : fX0_copyFrom this a1 h = some out) : Met l yX0_copyFrom (tw_WS yX0_copyFrom cX0_copyFrom 3 none) rmX0_copyFrom (va_Pc [.ref this, .ref a1] (tw_Pre G sz h)) (tw_Qv G sz out) 0 0 (tw_F G) := by
  refine tw_met (by decide +kernel) (Nat.le_of_ble_eq_true rfl) ?_
  intro p e s m args below meth c H ls hC hnm hR hl
  unfold fX0_copyFrom at hk
  obtain ⟨hob, hk⟩ := tm_th_is hk
  have hl : lv_has ls 3 [(0, .ref this), (1, .ref a1)] := hl
  have hL : tw_L G [] := fun q z => by cases z
  generalize hlc : ([] : List Loc) = locs at hL ⊢
  refine lv_iconst (v := tw_I 0) hC.1 hC.2.1 dX0_copyFrom_0 rfl ?_
  refine lv_istore_n (lv' := [(2, .int (tw_I 0)), (0, .ref this), (1, .ref a1)]) hC.1 hC.2.1 dX0_copyFrom_1 rfl hl (by decide) rfl (fun ls hl => ?_)
  exact sX0_copyFrom_L2 G sz hC this a1 0 h ((tw_rgL rfl)) out hk H locs _ hR hL (lv_sub hl [1, 2, 0] rfl)
set_option maxRecDepth 100000 in
theorem kX0_copyFrom {l : Launch} {p : Program} {e : Env} {R : Room} {s : State} {m : MethodId} {args : Array Value} {below : List Frame} {meth : Method} {c : Code} {H : Heap} {locs : List Loc} {cells slots : Nat} {Q : State → Prop} {cc : ByteArray} {pc nL idx : Nat} {ls : Array Slot} {rest : List Value} {G : tw_G} {h : tm_H} {own : String} {ret : Option FieldType} {α : Type} {x : α} {sz : Nat} {this : Nat} {a1 : Nat} (hC : tw_C G p s m args meth c own cc nL ret) (hR : tw_Rel G sz h H) (hL : tw_L G locs) {F : tm_H → Option α} (hk : (fX0_copyFrom this a1 h).bind F = some x)  (hl : tw_mL own idx yX0_copyFrom) (hRm : rmX0_copyFrom.frames + 1 ≤ R.frames ∧ 8 + (3 + 11) + rmX0_copyFrom.locals ≤ R.locals) (hsz : ls.size = nL) (hW : (rest.map fun v => v.category).sum ≤ 8) (hf : cells + 0 ≤ R.cells ∧ slots + 0 ≤ R.slots) (hdg : decode cc pc = .ok (.invokevirtual idx, 3)) (kk : ∀ (h1 : tm_H) (H1 : Heap) (locs1 : List Loc), tw_Rel G sz h1 H1 → tw_L G locs1 → F h1 = some x → W p l e R s m args below meth c H1 locs1 (cells + 0) (slots + 0) Q (F0 m (pc + 3) ls (rest))) : W p l e R s m args below meth c H locs cells slots Q (F0 m pc ls (.ref a1 :: .ref this :: rest)) := by
  obtain ⟨r, hr, hF⟩ := Option.bind_eq_some_iff.mp hk
  have ob : ∀ r, fX0_copyFrom this a1 h = some r → tm_is h 0 this := fun r hr => by
    unfold fX0_copyFrom at hr
    exact (tm_th_is hr).1
  exact tw_backv (tw_runV hC hR (cX0_copyFrom_ok l G sz this a1  h r hr) (n := 1) (As := [.ref a1]) ⟨tw_in_TB 247 (by decide +kernel) rfl, tw_in_TB 12 (by decide +kernel) rfl, by decide +kernel⟩ (tw_in_TB 245 (by decide +kernel) rfl) (tw_in_TB 246 (by decide +kernel) rfl) hl ⟨rfl, rfl⟩ hRm (ob r hr) (T := TX0) (N := 2) rfl rfl hsz rfl hW hdg hf) hL (fun H1 locs1 a b => kk r H1 locs1 a b hF)
def rmX7_add : Room := { frames := 0, cells := 0, slots := 0, locals := 0 }
set_option maxRecDepth 100000 in
set_option maxHeartbeats 4000000 in
theorem cX7_add_ok (l : Launch) (G : tw_G) (sz : Nat) (this : Nat) (a1 : Int64)  (h : tm_H) (out : Int × tm_H) (hk : fX7_add this a1 h = some out) : Met l yX7_add (tw_WS yX7_add cX7_add 3 (some .int)) rmX7_add (va_Pc [.ref this, .long a1] (tw_Pre G sz h)) (tw_Qi G sz out.1 out.2) 0 0 (tw_F G) := by
  refine tw_met (by decide +kernel) (Nat.le_of_ble_eq_true rfl) ?_
  intro p e s m args below meth c H ls hC hnm hR hl
  unfold fX7_add at hk
  obtain ⟨hob, hk⟩ := tm_th_is hk
  have hl : lv_has ls 3 [(0, .ref this), (1, .long a1)] := hl
  have hL : tw_L G [] := fun q z => by cases z
  generalize hlc : ([] : List Loc) = locs at hL ⊢
  refine lv_aload_n hC.1 hC.2.1 dX7_add_0 rfl (lv_at hl 0 rfl) ?_
  refine tw_getI hC hR hk flX7_19 dX7_add_1 (fun v1 gv1 hk => ?_)
  refine lv_bipush (v := tw_I 60) hC.1 hC.2.1 dX7_add_4 (by decide) ?_
  refine tw_clt (tgt := 12) hC hk gv1 ((tw_rgL rfl)) dX7_add_6 (by decide) (fun _ hk => ?_) (fun _ hk => ?_)
  · refine lv_aload_n hC.1 hC.2.1 dX7_add_12 rfl (lv_at hl 0 rfl) ?_
    refine tw_getR hC hR hk flX7_11 dX7_add_13 (fun r2 hk => ?_)
    refine lv_aload_n hC.1 hC.2.1 dX7_add_16 rfl (lv_at hl 0 rfl) ?_
    refine tw_getI hC hR hk flX7_19 dX7_add_17 (fun v3 gv3 hk => ?_)
    refine lv_lload_n hC.1 hC.2.1 dX7_add_20 rfl (lv_at hl 1 rfl) ?_
    refine tw_last hC hR hL hk dX7_add_21 (fun h4 H locs hR hL hk => ?_)
    refine lv_aload_n hC.1 hC.2.1 dX7_add_22 rfl (lv_at hl 0 rfl) ?_
    refine tw_getR hC hR hk flX7_15 dX7_add_23 (fun r5 hk => ?_)
    refine lv_aload_n hC.1 hC.2.1 dX7_add_26 rfl (lv_at hl 0 rfl) ?_
    refine tw_getI hC hR hk flX7_19 dX7_add_27 (fun v6 gv6 hk => ?_)
    refine lv_aload_n hC.1 hC.2.1 dX7_add_30 rfl (lv_at hl 0 rfl) ?_
    refine tw_getI hC hR hk flX7_19 dX7_add_31 (fun v7 gv7 hk => ?_)
    refine tw_iast hC hR hL gv7 hk dX7_add_34 (fun h8 H locs hR hL hk => ?_)
    refine lv_aload_n hC.1 hC.2.1 dX7_add_35 rfl (lv_at hl 0 rfl) ?_
    refine lv_dup hC.1 hC.2.1 dX7_add_36 rfl ?_
    refine tw_getI hC hR hk flX7_19 dX7_add_37 (fun v9 gv9 hk => ?_)
    refine lv_iconst (v := tw_I 1) hC.1 hC.2.1 dX7_add_40 rfl ?_
    refine tw_iadd hC dX7_add_41 ?_
    refine tw_putI hC hR hL ((tm_wr_rg _)) hk fpX7_19 dX7_add_42 (fun h10 H locs hR hL hk => ?_)
    refine lv_aload_n hC.1 hC.2.1 dX7_add_45 rfl (lv_at hl 0 rfl) ?_
    refine tw_getI hC hR hk flX7_19 dX7_add_46 (fun v11 gv11 hk => ?_)
    refine lv_iconst (v := tw_I 1) hC.1 hC.2.1 dX7_add_49 rfl ?_
    refine tw_isub hC dX7_add_50 ?_
    cases hk
    exact tw_iret hC hR hL ((tm_wr_rg _)) rfl rfl dX7_add_51
  · refine lv_bipush (v := tw_I (-99)) hC.1 hC.2.1 dX7_add_9 (by decide) ?_
    cases hk
    exact tw_iret hC hR hL ((tw_rgL rfl)) rfl rfl dX7_add_11
set_option maxRecDepth 100000 in
theorem kX7_add {l : Launch} {p : Program} {e : Env} {R : Room} {s : State} {m : MethodId} {args : Array Value} {below : List Frame} {meth : Method} {c : Code} {H : Heap} {locs : List Loc} {cells slots : Nat} {Q : State → Prop} {cc : ByteArray} {pc nL idx : Nat} {ls : Array Slot} {rest : List Value} {G : tw_G} {h : tm_H} {own : String} {ret : Option FieldType} {α : Type} {x : α} {sz : Nat} {this : Nat} {a1 : Int64} (hC : tw_C G p s m args meth c own cc nL ret) (hR : tw_Rel G sz h H) (hL : tw_L G locs) {F : Int × tm_H → Option α} (hk : (fX7_add this a1 h).bind F = some x)  (hl : tw_mL own idx yX7_add) (hRm : rmX7_add.frames + 1 ≤ R.frames ∧ 8 + (3 + 11) + rmX7_add.locals ≤ R.locals) (hsz : ls.size = nL) (hW : (rest.map fun v => v.category).sum ≤ 8) (hf : cells + 0 ≤ R.cells ∧ slots + 0 ≤ R.slots) (hdg : decode cc pc = .ok (.invokevirtual idx, 3)) (kk : ∀ (r : Int) (h1 : tm_H) (H1 : Heap) (locs1 : List Loc), tw_Rel G sz h1 H1 → tw_L G locs1 → tm_rg r → F (r, h1) = some x → W p l e R s m args below meth c H1 locs1 (cells + 0) (slots + 0) Q (F0 m (pc + 3) ls (.int (tw_I r) :: rest))) : W p l e R s m args below meth c H locs cells slots Q (F0 m pc ls (.long a1 :: .ref this :: rest)) := by
  obtain ⟨r, hr, hF⟩ := Option.bind_eq_some_iff.mp hk
  have ob : ∀ r, fX7_add this a1 h = some r → tm_is h 7 this := fun r hr => by
    unfold fX7_add at hr
    exact (tm_th_is hr).1
  exact tw_backi (tw_runV hC hR (cX7_add_ok l G sz this a1  h r hr) (n := 1) (As := [.long a1]) ⟨tw_in_TB 42 (by decide +kernel) rfl, tw_in_TB 11 (by decide +kernel) rfl, by decide +kernel⟩ (tw_in_TB 40 (by decide +kernel) rfl) (tw_in_TB 41 (by decide +kernel) rfl) hl ⟨rfl, rfl⟩ hRm (ob r hr) (T := TX7) (N := 3) rfl rfl hsz rfl hW hdg hf) hL (fun H1 locs1 a b g => kk r.1 r.2 H1 locs1 a b g hF)
def rmX7_init : Room := { frames := 1, cells := 2, slots := 120, locals := 22 }
set_option maxRecDepth 100000 in
set_option maxHeartbeats 4000000 in
theorem sX7_init_S0 {l : Launch} {p : Program} {e : Env} {s : State} {m : MethodId} {args : Array Value} {below : List Frame} {meth : Method} {c : Code} (G : tw_G) (hC : tw_C G p s m args meth c RX7 cX7_init 2 none) (hnm : meth.name = "<init>") (this : Nat) (n : Nat)  : ∀ (k : Nat) (st : (Int × tm_H)) (out : tm_H × Nat), tm_wit (fX7_init_S0 this n) k st = some out → match st with
    | (x1, h) => ∀ (H : Heap) (locs : List Loc) (ls : Array Slot), tm_rg x1 → tw_Rel G (n + 2) h H → tw_L G locs → lv_has ls 2 [(0, .ref this), (1, .int (tw_I x1))] → W p l e rmX7_init s m args below meth c H locs 2 120 (MQ below (tw_Qv G out.2 out.1) args s 2 120 (tw_F G)) (F0 m 28 ls []) := by
  intro k
  induction k with
  | zero =>
    intro st out hk
    exact absurd hk (by unfold tm_wit; exact fun z => by cases z)
  | succ k ih =>
    intro st out hk
    obtain ⟨X, hk, hf⟩ := tm_wit_succ hk
    obtain ⟨x1, h⟩ := st
    intro H locs ls gx1 hR hL hl
    dsimp only [fX7_init_S0] at hk
    refine lv_iload_n hC.1 hC.2.1 dX7_init_28 rfl (lv_at hl 1 rfl) ?_
    refine lv_bipush (v := tw_I 122) hC.1 hC.2.1 dX7_init_29 (by decide) ?_
    refine tw_cgt (tgt := 47) hC hk gx1 ((tw_rgL rfl)) dX7_init_31 (by decide) (fun _ hk => ?_) (fun _ hk => ?_)
    · cases hk
      cases hf
      exact tw_vret hC hR hL rfl dX7_init_47
    · refine lv_aload_n hC.1 hC.2.1 dX7_init_34 rfl (lv_at hl 0 rfl) ?_
      refine lv_iload_n hC.1 hC.2.1 dX7_init_35 rfl (lv_at hl 1 rfl) ?_
      refine tw_i2l hC dX7_init_36 ?_
      refine kX7_add hC hR hL hk mlX7_23 ⟨by decide, by decide⟩ hl.1 (Nat.le_of_ble_eq_true rfl) ⟨by decide, by decide⟩ dX7_init_37 (fun v6 h6 H locs hR hL gv6 hk => ?_)
      refine lv_pop hC.1 hC.2.1 dX7_init_40 rfl ?_
      refine tw_iinc (lv' := [(1, .int (tw_I (tm_wr (x1 + 1)))), (0, .ref this)]) hC dX7_init_41 hl (k := 1) rfl (by decide) rfl (fun ls hl => ?_)
      refine lv_goto (tgt := 28) hC.1 hC.2.1 dX7_init_44 (by decide) ?_
      cases hk
      exact ih _ out hf H locs _ ((tm_wr_rg _)) hR hL (lv_sub hl [1, 0] rfl)
theorem sX7_init_L28 {l : Launch} {p : Program} {e : Env} {s : State} {m : MethodId} {args : Array Value} {below : List Frame} {meth : Method} {c : Code} (G : tw_G) (hC : tw_C G p s m args meth c RX7 cX7_init 2 none) (hnm : meth.name = "<init>") (this : Nat) (n : Nat)  (x1 : Int) (h : tm_H) (gx1 : tm_rg x1) (out : tm_H × Nat) (hk : fX7_init_L28 this n x1 h = some out) (H : Heap) (locs : List Loc) (ls : Array Slot) (hR : tw_Rel G (n + 2) h H) (hL : tw_L G locs) (hl : lv_has ls 2 [(0, .ref this), (1, .int (tw_I x1))]) : W p l e rmX7_init s m args below meth c H locs 2 120 (MQ below (tw_Qv G out.2 out.1) args s 2 120 (tw_F G)) (F0 m 28 ls []) := by
  obtain ⟨k, hk⟩ := tm_wl_iff.mp hk
  exact sX7_init_S0 G hC hnm this n  k ((x1, h)) out hk H locs ls gx1 hR hL hl
set_option maxRecDepth 100000 in
set_option maxHeartbeats 4000000 in
theorem cX7_init_ok (l : Launch) (G : tw_G) (n : Nat) (this : Nat)  (h : tm_H) (out : tm_H × Nat) (hk : fX7_init this h n = some out) : Met l yX7_init (tw_WS yX7_init cX7_init 2 none) rmX7_init (va_Pc [.ref this] (tw_Pre G n h)) (tw_Qv G out.2 out.1) 2 120 (tw_F G) := by
  refine tw_met (by decide +kernel) (Nat.le_of_ble_eq_true rfl) ?_
  intro p e s m args below meth c H ls hC hnm hR hl
  unfold fX7_init at hk
  obtain ⟨hob, hk⟩ := tm_th_is hk
  have hl : lv_has ls 2 [(0, .ref this)] := hl
  have hL : tw_L G [] := fun q z => by cases z
  generalize hlc : ([] : List Loc) = locs at hL ⊢
  refine lv_aload_n hC.1 hC.2.1 dX7_init_0 rfl (lv_at hl 0 rfl) ?_
  refine tw_objInit hC (tw_in_TB 38 (by decide +kernel) rfl) tw_oiI tw_oiC hl.1 dX7_init_1 (by decide) (Nat.le_of_ble_eq_true rfl) ?_
  refine lv_aload_n hC.1 hC.2.1 dX7_init_4 rfl (lv_at hl 0 rfl) ?_
  refine lv_bipush (v := tw_I 60) hC.1 hC.2.1 dX7_init_5 (by decide) ?_
  refine tw_nal hC hR tw_arl 60 (by decide) hk ⟨by decide, by decide⟩ dX7_init_7 (fun h1 H hR hk => ?_)
  refine tw_putR hC hR hL hnm rfl rfl hk fpX7_11 dX7_init_9 (fun h2 H locs hR hL hk => ?_)
  refine lv_aload_n hC.1 hC.2.1 dX7_init_12 rfl (lv_at hl 0 rfl) ?_
  refine lv_bipush (v := tw_I 60) hC.1 hC.2.1 dX7_init_13 (by decide) ?_
  refine tw_nai hC hR tw_ari 60 (by decide) hk ⟨by decide, by decide⟩ dX7_init_15 (fun h3 H hR hk => ?_)
  refine tw_putR hC hR hL hnm rfl rfl hk fpX7_15 dX7_init_17 (fun h4 H locs hR hL hk => ?_)
  refine lv_aload_n hC.1 hC.2.1 dX7_init_20 rfl (lv_at hl 0 rfl) ?_
  refine lv_iconst (v := tw_I 0) hC.1 hC.2.1 dX7_init_21 rfl ?_
  refine tw_putI hC hR hL ((tw_rgL rfl)) hk fpX7_19 dX7_init_22 (fun h5 H locs hR hL hk => ?_)
  refine lv_bipush (v := tw_I 97) hC.1 hC.2.1 dX7_init_25 (by decide) ?_
  refine lv_istore_n (lv' := [(1, .int (tw_I 97)), (0, .ref this)]) hC.1 hC.2.1 dX7_init_27 rfl hl (by decide) rfl (fun ls hl => ?_)
  exact sX7_init_L28 G hC hnm this n 97 h5 ((tw_rgL rfl)) out hk H locs _ hR hL (lv_sub hl [1, 0] rfl)
set_option maxRecDepth 100000 in
theorem kX7_init {l : Launch} {p : Program} {e : Env} {R : Room} {s : State} {m : MethodId} {args : Array Value} {below : List Frame} {meth : Method} {c : Code} {H : Heap} {locs : List Loc} {cells slots : Nat} {Q : State → Prop} {cc : ByteArray} {pc nL idx : Nat} {ls : Array Slot} {rest : List Value} {G : tw_G} {h : tm_H} {own : String} {ret : Option FieldType} {α : Type} {x : α} {n : Nat} {this : Nat} (hC : tw_C G p s m args meth c own cc nL ret) (hR : tw_Rel G n h H) (hL : tw_L G locs) {F : tm_H × Nat → Option α} (hk : (fX7_init this h n).bind F = some x)  (hl : tw_mL own idx yX7_init) (hRm : rmX7_init.frames + 1 ≤ R.frames ∧ 8 + (2 + 11) + rmX7_init.locals ≤ R.locals) (hsz : ls.size = nL) (hW : (rest.map fun v => v.category).sum ≤ 8) (hf : cells + 2 ≤ R.cells ∧ slots + 120 ≤ R.slots) (hdg : decode cc pc = .ok (.invokespecial idx, 3)) (kk : ∀ (h1 : tm_H) (n1 : Nat) (H1 : Heap) (locs1 : List Loc), tw_Rel G n1 h1 H1 → tw_L G locs1 → F (h1, n1) = some x → W p l e R s m args below meth c H1 locs1 (cells + 2) (slots + 120) Q (F0 m (pc + 3) ls (rest))) : W p l e R s m args below meth c H locs cells slots Q (F0 m pc ls (.ref this :: rest)) := by
  obtain ⟨r, hr, hF⟩ := Option.bind_eq_some_iff.mp hk
  exact tw_backv (tw_runI hC hR (cX7_init_ok l G n this  h r hr) (n := 0) (As := []) ⟨tw_in_TB 37 (by decide +kernel) rfl, tw_in_TB 11 (by decide +kernel) rfl, by decide +kernel⟩ (tw_in_TB 36 (by decide +kernel) rfl) rfl hl ⟨rfl, rfl⟩ hRm rfl hsz rfl hW hdg hf) hL (fun H1 locs1 a b => kk r.1 r.2 H1 locs1 a b hF)
def rmX5_init : Room := { frames := 1, cells := 16, slots := 91, locals := 20 }
set_option maxRecDepth 100000 in
set_option maxHeartbeats 4000000 in
theorem cX5_init_ok (l : Launch) (G : tw_G) (n : Nat) (this : Nat)  (h : tm_H) (out : tm_H × Nat) (hk : fX5_init this h n = some out) : Met l yX5_init (tw_WS yX5_init cX5_init 1 none) rmX5_init (va_Pc [.ref this] (tw_Pre G n h)) (tw_Qv G out.2 out.1) 16 91 (tw_F G) := by
  refine tw_met (by decide +kernel) (Nat.le_of_ble_eq_true rfl) ?_
  intro p e s m args below meth c H ls hC hnm hR hl
  unfold fX5_init at hk
  obtain ⟨hob, hk⟩ := tm_th_is hk
  have hl : lv_has ls 1 [(0, .ref this)] := hl
  have hL : tw_L G [] := fun q z => by cases z
  generalize hlc : ([] : List Loc) = locs at hL ⊢
  refine lv_aload_n hC.1 hC.2.1 dX5_init_0 rfl (lv_at hl 0 rfl) ?_
  refine tw_objInit hC (tw_in_TB 75 (by decide +kernel) rfl) tw_oiI tw_oiC hl.1 dX5_init_1 (by decide) (Nat.le_of_ble_eq_true rfl) ?_
  refine lv_aload_n hC.1 hC.2.1 dX5_init_4 rfl (lv_at hl 0 rfl) ?_
  refine lv_bipush (v := tw_I 13) hC.1 hC.2.1 dX5_init_5 (by decide) ?_
  refine lv_iconst (v := tw_I 4) hC.1 hC.2.1 dX5_init_7 rfl ?_
  refine tw_nm hC hR mnX5_11 tw_ari 13 4 (by decide) (by decide) hk ⟨by decide, by decide⟩ dX5_init_8 (fun h1 H hR hk => ?_)
  refine tw_putR hC hR hL hnm rfl rfl hk fpX5_13 dX5_init_12 (fun h2 H locs hR hL hk => ?_)
  refine lv_aload_n hC.1 hC.2.1 dX5_init_15 rfl (lv_at hl 0 rfl) ?_
  refine lv_bipush (v := tw_I 13) hC.1 hC.2.1 dX5_init_16 (by decide) ?_
  refine tw_nai hC hR tw_ari 13 (by decide) hk ⟨by decide, by decide⟩ dX5_init_18 (fun h3 H hR hk => ?_)
  refine tw_putR hC hR hL hnm rfl rfl hk fpX5_16 dX5_init_20 (fun h4 H locs hR hL hk => ?_)
  refine lv_aload_n hC.1 hC.2.1 dX5_init_23 rfl (lv_at hl 0 rfl) ?_
  refine lv_bipush (v := tw_I 13) hC.1 hC.2.1 dX5_init_24 (by decide) ?_
  refine tw_nab hC hR tw_arb 13 (by decide) hk ⟨by decide, by decide⟩ dX5_init_26 (fun h5 H hR hk => ?_)
  refine tw_putR hC hR hL hnm rfl rfl hk fpX5_20 dX5_init_28 (fun h6 H locs hR hL hk => ?_)
  refine lv_aload_n hC.1 hC.2.1 dX5_init_31 rfl (lv_at hl 0 rfl) ?_
  refine lv_iconst (v := tw_I 0) hC.1 hC.2.1 dX5_init_32 rfl ?_
  refine tw_putI hC hR hL ((tw_rgL rfl)) hk fpX5_24 dX5_init_33 (fun h7 H locs hR hL hk => ?_)
  cases hk
  exact tw_vret hC hR hL rfl dX5_init_36
set_option maxRecDepth 100000 in
theorem kX5_init {l : Launch} {p : Program} {e : Env} {R : Room} {s : State} {m : MethodId} {args : Array Value} {below : List Frame} {meth : Method} {c : Code} {H : Heap} {locs : List Loc} {cells slots : Nat} {Q : State → Prop} {cc : ByteArray} {pc nL idx : Nat} {ls : Array Slot} {rest : List Value} {G : tw_G} {h : tm_H} {own : String} {ret : Option FieldType} {α : Type} {x : α} {n : Nat} {this : Nat} (hC : tw_C G p s m args meth c own cc nL ret) (hR : tw_Rel G n h H) (hL : tw_L G locs) {F : tm_H × Nat → Option α} (hk : (fX5_init this h n).bind F = some x)  (hl : tw_mL own idx yX5_init) (hRm : rmX5_init.frames + 1 ≤ R.frames ∧ 8 + (1 + 11) + rmX5_init.locals ≤ R.locals) (hsz : ls.size = nL) (hW : (rest.map fun v => v.category).sum ≤ 8) (hf : cells + 16 ≤ R.cells ∧ slots + 91 ≤ R.slots) (hdg : decode cc pc = .ok (.invokespecial idx, 3)) (kk : ∀ (h1 : tm_H) (n1 : Nat) (H1 : Heap) (locs1 : List Loc), tw_Rel G n1 h1 H1 → tw_L G locs1 → F (h1, n1) = some x → W p l e R s m args below meth c H1 locs1 (cells + 16) (slots + 91) Q (F0 m (pc + 3) ls (rest))) : W p l e R s m args below meth c H locs cells slots Q (F0 m pc ls (.ref this :: rest)) := by
  obtain ⟨r, hr, hF⟩ := Option.bind_eq_some_iff.mp hk
  exact tw_backv (tw_runI hC hR (cX5_init_ok l G n this  h r hr) (n := 0) (As := []) ⟨tw_in_TB 74 (by decide +kernel) rfl, tw_in_TB 13 (by decide +kernel) rfl, by decide +kernel⟩ (tw_in_TB 73 (by decide +kernel) rfl) rfl hl ⟨rfl, rfl⟩ hRm rfl hsz rfl hW hdg hf) hL (fun H1 locs1 a b => kk r.1 r.2 H1 locs1 a b hF)
def rmX4_init : Room := { frames := 2, cells := 49, slots := 984, locals := 43 }
set_option maxRecDepth 100000 in
set_option maxHeartbeats 4000000 in
theorem cX4_init_ok (l : Launch) (G : tw_G) (n : Nat) (this : Nat)  (h : tm_H) (out : tm_H × Nat) (hk : fX4_init this h n = some out) : Met l yX4_init (tw_WS yX4_init cX4_init 2 none) rmX4_init (va_Pc [.ref this] (tw_Pre G n h)) (tw_Qv G out.2 out.1) 49 984 (tw_F G) := by
  refine tw_met (by decide +kernel) (Nat.le_of_ble_eq_true rfl) ?_
  intro p e s m args below meth c H ls hC hnm hR hl
  unfold fX4_init at hk
  obtain ⟨hob, hk⟩ := tm_th_is hk
  have hl : lv_has ls 2 [(0, .ref this)] := hl
  have hL : tw_L G [] := fun q z => by cases z
  generalize hlc : ([] : List Loc) = locs at hL ⊢
  refine lv_aload_n hC.1 hC.2.1 dX4_init_0 rfl (lv_at hl 0 rfl) ?_
  refine tw_objInit hC (tw_in_TB 32 (by decide +kernel) rfl) tw_oiI tw_oiC hl.1 dX4_init_1 (by decide) (Nat.le_of_ble_eq_true rfl) ?_
  refine lv_aload_n hC.1 hC.2.1 dX4_init_4 rfl (lv_at hl 0 rfl) ?_
  refine tw_new hC hR nwX4_9 hk ⟨by decide, by decide⟩ dX4_init_5 (fun h1 H hR hk => ?_)
  refine lv_dup hC.1 hC.2.1 dX4_init_8 rfl ?_
  refine kX7_init hC hR hL hk mlX4_11 ⟨by decide, by decide⟩ hl.1 (Nat.le_of_ble_eq_true rfl) ⟨by decide, by decide⟩ dX4_init_9 (fun h2 n2 H locs hR hL hk => ?_)
  refine tw_putR hC hR hL hnm rfl rfl hk fpX4_12 dX4_init_12 (fun h3 H locs hR hL hk => ?_)
  refine lv_aload_n hC.1 hC.2.1 dX4_init_15 rfl (lv_at hl 0 rfl) ?_
  refine tw_new hC hR nwX4_18 hk ⟨by decide, by decide⟩ dX4_init_16 (fun h4 H hR hk => ?_)
  refine lv_dup hC.1 hC.2.1 dX4_init_19 rfl ?_
  refine kX0_init hC hR hL hk mlX4_20 ⟨by decide, by decide⟩ hl.1 (Nat.le_of_ble_eq_true rfl) ⟨by decide, by decide⟩ dX4_init_20 (fun h5 n5 H locs hR hL hk => ?_)
  refine tw_putR hC hR hL hnm rfl rfl hk fpX4_21 dX4_init_23 (fun h6 H locs hR hL hk => ?_)
  refine lv_aload_n hC.1 hC.2.1 dX4_init_26 rfl (lv_at hl 0 rfl) ?_
  refine tw_new hC hR nwX4_25 hk ⟨by decide, by decide⟩ dX4_init_27 (fun h7 H hR hk => ?_)
  refine lv_dup hC.1 hC.2.1 dX4_init_30 rfl ?_
  refine kX5_init hC hR hL hk mlX4_27 ⟨by decide, by decide⟩ hl.1 (Nat.le_of_ble_eq_true rfl) ⟨by decide, by decide⟩ dX4_init_31 (fun h8 n8 H locs hR hL hk => ?_)
  refine tw_putR hC hR hL hnm rfl rfl hk fpX4_28 dX4_init_34 (fun h9 H locs hR hL hk => ?_)
  refine lv_aload_n hC.1 hC.2.1 dX4_init_37 rfl (lv_at hl 0 rfl) ?_
  refine lv_iconst (v := tw_I 2) hC.1 hC.2.1 dX4_init_38 rfl ?_
  refine tw_naq hC hR anX4_18 2 (by decide) hk ⟨by decide, by decide⟩ dX4_init_39 (fun h10 H hR hk => ?_)
  refine tw_putR hC hR hL hnm rfl rfl hk fpX4_32 dX4_init_42 (fun h11 H locs hR hL hk => ?_)
  refine lv_aload_n hC.1 hC.2.1 dX4_init_45 rfl (lv_at hl 0 rfl) ?_
  refine lv_iconst (v := tw_I 2) hC.1 hC.2.1 dX4_init_46 rfl ?_
  refine tw_nab hC hR tw_arb 2 (by decide) hk ⟨by decide, by decide⟩ dX4_init_47 (fun h12 H hR hk => ?_)
  refine tw_putR hC hR hL hnm rfl rfl hk fpX4_36 dX4_init_49 (fun h13 H locs hR hL hk => ?_)
  refine lv_iconst (v := tw_I 0) hC.1 hC.2.1 dX4_init_52 rfl ?_
  refine lv_istore_n (lv' := [(1, .int (tw_I 0)), (0, .ref this)]) hC.1 hC.2.1 dX4_init_53 rfl hl (by decide) rfl (fun ls hl => ?_)
  refine lv_iload_n hC.1 hC.2.1 dX4_init_54 rfl (lv_at hl 0 rfl) ?_
  refine lv_iconst (v := tw_I 2) hC.1 hC.2.1 dX4_init_55 rfl ?_
  refine lv_icmp_ge (tgt := 78) hC.1 hC.2.1 dX4_init_56 (by decide) (fun z => absurd z (by decide +kernel)) (fun _ => ?_)
  refine lv_aload_n hC.1 hC.2.1 dX4_init_59 rfl (lv_at hl 1 rfl) ?_
  refine tw_getR hC hR hk flX4_32 dX4_init_60 (fun r14 hk => ?_)
  refine lv_iload_n hC.1 hC.2.1 dX4_init_63 rfl (lv_at hl 0 rfl) ?_
  refine tw_new hC hR nwX4_18 hk ⟨by decide, by decide⟩ dX4_init_64 (fun h15 H hR hk => ?_)
  refine lv_dup hC.1 hC.2.1 dX4_init_67 rfl ?_
  refine kX0_init hC hR hL hk mlX4_20 ⟨by decide, by decide⟩ hl.1 (Nat.le_of_ble_eq_true rfl) ⟨by decide, by decide⟩ dX4_init_68 (fun h16 n16 H locs hR hL hk => ?_)
  refine tw_aast hC hR hL tw_ks3 hk dX4_init_71 (fun h17 H locs hR hL hk => ?_)
  refine lv_iinc (v := tw_I 1) (lv' := [(1, .int (tw_I 1)), (0, .ref this)]) hC.1 hC.2.1 dX4_init_72 hl (k := 0) rfl (by decide) (by decide) rfl (fun ls hl => ?_)
  refine lv_goto (tgt := 54) hC.1 hC.2.1 dX4_init_75 (by decide) ?_
  refine lv_iload_n hC.1 hC.2.1 dX4_init_54 rfl (lv_at hl 0 rfl) ?_
  refine lv_iconst (v := tw_I 2) hC.1 hC.2.1 dX4_init_55 rfl ?_
  refine lv_icmp_ge (tgt := 78) hC.1 hC.2.1 dX4_init_56 (by decide) (fun z => absurd z (by decide +kernel)) (fun _ => ?_)
  refine lv_aload_n hC.1 hC.2.1 dX4_init_59 rfl (lv_at hl 1 rfl) ?_
  refine tw_getR hC hR hk flX4_32 dX4_init_60 (fun r18 hk => ?_)
  refine lv_iload_n hC.1 hC.2.1 dX4_init_63 rfl (lv_at hl 0 rfl) ?_
  refine tw_new hC hR nwX4_18 hk ⟨by decide, by decide⟩ dX4_init_64 (fun h19 H hR hk => ?_)
  refine lv_dup hC.1 hC.2.1 dX4_init_67 rfl ?_
  refine kX0_init hC hR hL hk mlX4_20 ⟨by decide, by decide⟩ hl.1 (Nat.le_of_ble_eq_true rfl) ⟨by decide, by decide⟩ dX4_init_68 (fun h20 n20 H locs hR hL hk => ?_)
  refine tw_aast hC hR hL tw_ks3 hk dX4_init_71 (fun h21 H locs hR hL hk => ?_)
  refine lv_iinc (v := tw_I 2) (lv' := [(1, .int (tw_I 2)), (0, .ref this)]) hC.1 hC.2.1 dX4_init_72 hl (k := 0) rfl (by decide) (by decide) rfl (fun ls hl => ?_)
  refine lv_goto (tgt := 54) hC.1 hC.2.1 dX4_init_75 (by decide) ?_
  refine lv_iload_n hC.1 hC.2.1 dX4_init_54 rfl (lv_at hl 0 rfl) ?_
  refine lv_iconst (v := tw_I 2) hC.1 hC.2.1 dX4_init_55 rfl ?_
  refine lv_icmp_ge (tgt := 78) hC.1 hC.2.1 dX4_init_56 (by decide) (fun _ => ?_) (fun z => absurd (by decide +kernel) z)
  cases hk
  exact tw_vret hC hR hL rfl dX4_init_78
set_option maxRecDepth 100000 in
theorem kX4_init {l : Launch} {p : Program} {e : Env} {R : Room} {s : State} {m : MethodId} {args : Array Value} {below : List Frame} {meth : Method} {c : Code} {H : Heap} {locs : List Loc} {cells slots : Nat} {Q : State → Prop} {cc : ByteArray} {pc nL idx : Nat} {ls : Array Slot} {rest : List Value} {G : tw_G} {h : tm_H} {own : String} {ret : Option FieldType} {α : Type} {x : α} {n : Nat} {this : Nat} (hC : tw_C G p s m args meth c own cc nL ret) (hR : tw_Rel G n h H) (hL : tw_L G locs) {F : tm_H × Nat → Option α} (hk : (fX4_init this h n).bind F = some x)  (hl : tw_mL own idx yX4_init) (hRm : rmX4_init.frames + 1 ≤ R.frames ∧ 8 + (2 + 11) + rmX4_init.locals ≤ R.locals) (hsz : ls.size = nL) (hW : (rest.map fun v => v.category).sum ≤ 8) (hf : cells + 49 ≤ R.cells ∧ slots + 984 ≤ R.slots) (hdg : decode cc pc = .ok (.invokespecial idx, 3)) (kk : ∀ (h1 : tm_H) (n1 : Nat) (H1 : Heap) (locs1 : List Loc), tw_Rel G n1 h1 H1 → tw_L G locs1 → F (h1, n1) = some x → W p l e R s m args below meth c H1 locs1 (cells + 49) (slots + 984) Q (F0 m (pc + 3) ls (rest))) : W p l e R s m args below meth c H locs cells slots Q (F0 m pc ls (.ref this :: rest)) := by
  obtain ⟨r, hr, hF⟩ := Option.bind_eq_some_iff.mp hk
  exact tw_backv (tw_runI hC hR (cX4_init_ok l G n this  h r hr) (n := 0) (As := []) ⟨tw_in_TB 31 (by decide +kernel) rfl, tw_in_TB 10 (by decide +kernel) rfl, by decide +kernel⟩ (tw_in_TB 30 (by decide +kernel) rfl) rfl hl ⟨rfl, rfl⟩ hRm rfl hsz rfl hW hdg hf) hL (fun H1 locs1 a b => kk r.1 r.2 H1 locs1 a b hF)
def rmX1_init : Room := { frames := 3, cells := 251, slots := 4950, locals := 64 }
set_option maxRecDepth 100000 in
set_option maxHeartbeats 4000000 in
theorem cX1_init_ok (l : Launch) (G : tw_G) (n : Nat) (this : Nat)  (h : tm_H) (out : tm_H × Nat) (hk : fX1_init this h n = some out) : Met l yX1_init (tw_WS yX1_init cX1_init 2 none) rmX1_init (va_Pc [.ref this] (tw_Pre G n h)) (tw_Qv G out.2 out.1) 251 4950 (tw_F G) := by
  refine tw_met (by decide +kernel) (Nat.le_of_ble_eq_true rfl) ?_
  intro p e s m args below meth c H ls hC hnm hR hl
  unfold fX1_init at hk
  obtain ⟨hob, hk⟩ := tm_th_is hk
  have hl : lv_has ls 2 [(0, .ref this)] := hl
  have hL : tw_L G [] := fun q z => by cases z
  generalize hlc : ([] : List Loc) = locs at hL ⊢
  refine lv_aload_n hC.1 hC.2.1 dX1_init_0 rfl (lv_at hl 0 rfl) ?_
  refine tw_objInit hC (tw_in_TB 118 (by decide +kernel) rfl) tw_oiI tw_oiC hl.1 dX1_init_1 (by decide) (Nat.le_of_ble_eq_true rfl) ?_
  refine lv_aload_n hC.1 hC.2.1 dX1_init_4 rfl (lv_at hl 0 rfl) ?_
  refine lv_iconst (v := tw_I 5) hC.1 hC.2.1 dX1_init_5 rfl ?_
  refine tw_naq hC hR anX1_9 5 (by decide) hk ⟨by decide, by decide⟩ dX1_init_6 (fun h1 H hR hk => ?_)
  refine tw_putR hC hR hL hnm rfl rfl hk fpX1_11 dX1_init_9 (fun h2 H locs hR hL hk => ?_)
  refine lv_aload_n hC.1 hC.2.1 dX1_init_12 rfl (lv_at hl 0 rfl) ?_
  refine lv_iconst (v := tw_I 0) hC.1 hC.2.1 dX1_init_13 rfl ?_
  refine tw_putI hC hR hL ((tw_rgL rfl)) hk fpX1_15 dX1_init_14 (fun h3 H locs hR hL hk => ?_)
  refine lv_iconst (v := tw_I 0) hC.1 hC.2.1 dX1_init_17 rfl ?_
  refine lv_istore_n (lv' := [(1, .int (tw_I 0)), (0, .ref this)]) hC.1 hC.2.1 dX1_init_18 rfl hl (by decide) rfl (fun ls hl => ?_)
  refine lv_iload_n hC.1 hC.2.1 dX1_init_19 rfl (lv_at hl 0 rfl) ?_
  refine lv_iconst (v := tw_I 5) hC.1 hC.2.1 dX1_init_20 rfl ?_
  refine lv_icmp_ge (tgt := 43) hC.1 hC.2.1 dX1_init_21 (by decide) (fun z => absurd z (by decide +kernel)) (fun _ => ?_)
  refine lv_aload_n hC.1 hC.2.1 dX1_init_24 rfl (lv_at hl 1 rfl) ?_
  refine tw_getR hC hR hk flX1_11 dX1_init_25 (fun r4 hk => ?_)
  refine lv_iload_n hC.1 hC.2.1 dX1_init_28 rfl (lv_at hl 0 rfl) ?_
  refine tw_new hC hR nwX1_9 hk ⟨by decide, by decide⟩ dX1_init_29 (fun h5 H hR hk => ?_)
  refine lv_dup hC.1 hC.2.1 dX1_init_32 rfl ?_
  refine kX4_init hC hR hL hk mlX1_19 ⟨by decide, by decide⟩ hl.1 (Nat.le_of_ble_eq_true rfl) ⟨by decide, by decide⟩ dX1_init_33 (fun h6 n6 H locs hR hL hk => ?_)
  refine tw_aast hC hR hL tw_ks4 hk dX1_init_36 (fun h7 H locs hR hL hk => ?_)
  refine lv_iinc (v := tw_I 1) (lv' := [(1, .int (tw_I 1)), (0, .ref this)]) hC.1 hC.2.1 dX1_init_37 hl (k := 0) rfl (by decide) (by decide) rfl (fun ls hl => ?_)
  refine lv_goto (tgt := 19) hC.1 hC.2.1 dX1_init_40 (by decide) ?_
  refine lv_iload_n hC.1 hC.2.1 dX1_init_19 rfl (lv_at hl 0 rfl) ?_
  refine lv_iconst (v := tw_I 5) hC.1 hC.2.1 dX1_init_20 rfl ?_
  refine lv_icmp_ge (tgt := 43) hC.1 hC.2.1 dX1_init_21 (by decide) (fun z => absurd z (by decide +kernel)) (fun _ => ?_)
  refine lv_aload_n hC.1 hC.2.1 dX1_init_24 rfl (lv_at hl 1 rfl) ?_
  refine tw_getR hC hR hk flX1_11 dX1_init_25 (fun r8 hk => ?_)
  refine lv_iload_n hC.1 hC.2.1 dX1_init_28 rfl (lv_at hl 0 rfl) ?_
  refine tw_new hC hR nwX1_9 hk ⟨by decide, by decide⟩ dX1_init_29 (fun h9 H hR hk => ?_)
  refine lv_dup hC.1 hC.2.1 dX1_init_32 rfl ?_
  refine kX4_init hC hR hL hk mlX1_19 ⟨by decide, by decide⟩ hl.1 (Nat.le_of_ble_eq_true rfl) ⟨by decide, by decide⟩ dX1_init_33 (fun h10 n10 H locs hR hL hk => ?_)
  refine tw_aast hC hR hL tw_ks4 hk dX1_init_36 (fun h11 H locs hR hL hk => ?_)
  refine lv_iinc (v := tw_I 2) (lv' := [(1, .int (tw_I 2)), (0, .ref this)]) hC.1 hC.2.1 dX1_init_37 hl (k := 0) rfl (by decide) (by decide) rfl (fun ls hl => ?_)
  refine lv_goto (tgt := 19) hC.1 hC.2.1 dX1_init_40 (by decide) ?_
  refine lv_iload_n hC.1 hC.2.1 dX1_init_19 rfl (lv_at hl 0 rfl) ?_
  refine lv_iconst (v := tw_I 5) hC.1 hC.2.1 dX1_init_20 rfl ?_
  refine lv_icmp_ge (tgt := 43) hC.1 hC.2.1 dX1_init_21 (by decide) (fun z => absurd z (by decide +kernel)) (fun _ => ?_)
  refine lv_aload_n hC.1 hC.2.1 dX1_init_24 rfl (lv_at hl 1 rfl) ?_
  refine tw_getR hC hR hk flX1_11 dX1_init_25 (fun r12 hk => ?_)
  refine lv_iload_n hC.1 hC.2.1 dX1_init_28 rfl (lv_at hl 0 rfl) ?_
  refine tw_new hC hR nwX1_9 hk ⟨by decide, by decide⟩ dX1_init_29 (fun h13 H hR hk => ?_)
  refine lv_dup hC.1 hC.2.1 dX1_init_32 rfl ?_
  refine kX4_init hC hR hL hk mlX1_19 ⟨by decide, by decide⟩ hl.1 (Nat.le_of_ble_eq_true rfl) ⟨by decide, by decide⟩ dX1_init_33 (fun h14 n14 H locs hR hL hk => ?_)
  refine tw_aast hC hR hL tw_ks4 hk dX1_init_36 (fun h15 H locs hR hL hk => ?_)
  refine lv_iinc (v := tw_I 3) (lv' := [(1, .int (tw_I 3)), (0, .ref this)]) hC.1 hC.2.1 dX1_init_37 hl (k := 0) rfl (by decide) (by decide) rfl (fun ls hl => ?_)
  refine lv_goto (tgt := 19) hC.1 hC.2.1 dX1_init_40 (by decide) ?_
  refine lv_iload_n hC.1 hC.2.1 dX1_init_19 rfl (lv_at hl 0 rfl) ?_
  refine lv_iconst (v := tw_I 5) hC.1 hC.2.1 dX1_init_20 rfl ?_
  refine lv_icmp_ge (tgt := 43) hC.1 hC.2.1 dX1_init_21 (by decide) (fun z => absurd z (by decide +kernel)) (fun _ => ?_)
  refine lv_aload_n hC.1 hC.2.1 dX1_init_24 rfl (lv_at hl 1 rfl) ?_
  refine tw_getR hC hR hk flX1_11 dX1_init_25 (fun r16 hk => ?_)
  refine lv_iload_n hC.1 hC.2.1 dX1_init_28 rfl (lv_at hl 0 rfl) ?_
  refine tw_new hC hR nwX1_9 hk ⟨by decide, by decide⟩ dX1_init_29 (fun h17 H hR hk => ?_)
  refine lv_dup hC.1 hC.2.1 dX1_init_32 rfl ?_
  refine kX4_init hC hR hL hk mlX1_19 ⟨by decide, by decide⟩ hl.1 (Nat.le_of_ble_eq_true rfl) ⟨by decide, by decide⟩ dX1_init_33 (fun h18 n18 H locs hR hL hk => ?_)
  refine tw_aast hC hR hL tw_ks4 hk dX1_init_36 (fun h19 H locs hR hL hk => ?_)
  refine lv_iinc (v := tw_I 4) (lv' := [(1, .int (tw_I 4)), (0, .ref this)]) hC.1 hC.2.1 dX1_init_37 hl (k := 0) rfl (by decide) (by decide) rfl (fun ls hl => ?_)
  refine lv_goto (tgt := 19) hC.1 hC.2.1 dX1_init_40 (by decide) ?_
  refine lv_iload_n hC.1 hC.2.1 dX1_init_19 rfl (lv_at hl 0 rfl) ?_
  refine lv_iconst (v := tw_I 5) hC.1 hC.2.1 dX1_init_20 rfl ?_
  refine lv_icmp_ge (tgt := 43) hC.1 hC.2.1 dX1_init_21 (by decide) (fun z => absurd z (by decide +kernel)) (fun _ => ?_)
  refine lv_aload_n hC.1 hC.2.1 dX1_init_24 rfl (lv_at hl 1 rfl) ?_
  refine tw_getR hC hR hk flX1_11 dX1_init_25 (fun r20 hk => ?_)
  refine lv_iload_n hC.1 hC.2.1 dX1_init_28 rfl (lv_at hl 0 rfl) ?_
  refine tw_new hC hR nwX1_9 hk ⟨by decide, by decide⟩ dX1_init_29 (fun h21 H hR hk => ?_)
  refine lv_dup hC.1 hC.2.1 dX1_init_32 rfl ?_
  refine kX4_init hC hR hL hk mlX1_19 ⟨by decide, by decide⟩ hl.1 (Nat.le_of_ble_eq_true rfl) ⟨by decide, by decide⟩ dX1_init_33 (fun h22 n22 H locs hR hL hk => ?_)
  refine tw_aast hC hR hL tw_ks4 hk dX1_init_36 (fun h23 H locs hR hL hk => ?_)
  refine lv_iinc (v := tw_I 5) (lv' := [(1, .int (tw_I 5)), (0, .ref this)]) hC.1 hC.2.1 dX1_init_37 hl (k := 0) rfl (by decide) (by decide) rfl (fun ls hl => ?_)
  refine lv_goto (tgt := 19) hC.1 hC.2.1 dX1_init_40 (by decide) ?_
  refine lv_iload_n hC.1 hC.2.1 dX1_init_19 rfl (lv_at hl 0 rfl) ?_
  refine lv_iconst (v := tw_I 5) hC.1 hC.2.1 dX1_init_20 rfl ?_
  refine lv_icmp_ge (tgt := 43) hC.1 hC.2.1 dX1_init_21 (by decide) (fun _ => ?_) (fun z => absurd (by decide +kernel) z)
  cases hk
  exact tw_vret hC hR hL rfl dX1_init_43
set_option maxRecDepth 100000 in
theorem kX1_init {l : Launch} {p : Program} {e : Env} {R : Room} {s : State} {m : MethodId} {args : Array Value} {below : List Frame} {meth : Method} {c : Code} {H : Heap} {locs : List Loc} {cells slots : Nat} {Q : State → Prop} {cc : ByteArray} {pc nL idx : Nat} {ls : Array Slot} {rest : List Value} {G : tw_G} {h : tm_H} {own : String} {ret : Option FieldType} {α : Type} {x : α} {n : Nat} {this : Nat} (hC : tw_C G p s m args meth c own cc nL ret) (hR : tw_Rel G n h H) (hL : tw_L G locs) {F : tm_H × Nat → Option α} (hk : (fX1_init this h n).bind F = some x)  (hl : tw_mL own idx yX1_init) (hRm : rmX1_init.frames + 1 ≤ R.frames ∧ 8 + (2 + 11) + rmX1_init.locals ≤ R.locals) (hsz : ls.size = nL) (hW : (rest.map fun v => v.category).sum ≤ 8) (hf : cells + 251 ≤ R.cells ∧ slots + 4950 ≤ R.slots) (hdg : decode cc pc = .ok (.invokespecial idx, 3)) (kk : ∀ (h1 : tm_H) (n1 : Nat) (H1 : Heap) (locs1 : List Loc), tw_Rel G n1 h1 H1 → tw_L G locs1 → F (h1, n1) = some x → W p l e R s m args below meth c H1 locs1 (cells + 251) (slots + 4950) Q (F0 m (pc + 3) ls (rest))) : W p l e R s m args below meth c H locs cells slots Q (F0 m pc ls (.ref this :: rest)) := by
  obtain ⟨r, hr, hF⟩ := Option.bind_eq_some_iff.mp hk
  exact tw_backv (tw_runI hC hR (cX1_init_ok l G n this  h r hr) (n := 0) (As := []) ⟨tw_in_TB 117 (by decide +kernel) rfl, tw_in_TB 14 (by decide +kernel) rfl, by decide +kernel⟩ (tw_in_TB 116 (by decide +kernel) rfl) rfl hl ⟨rfl, rfl⟩ hRm rfl hsz rfl hW hdg hf) hL (fun H1 locs1 a b => kk r.1 r.2 H1 locs1 a b hF)
def rmX1_size : Room := { frames := 0, cells := 0, slots := 0, locals := 0 }
set_option maxRecDepth 100000 in
set_option maxHeartbeats 4000000 in
theorem cX1_size_ok (l : Launch) (G : tw_G) (sz : Nat) (this : Nat)  (h : tm_H) (out : Int) (hk : fX1_size this h = some out) : Met l yX1_size (tw_WS yX1_size cX1_size 1 (some .int)) rmX1_size (va_Pc [.ref this] (tw_Pre G sz h)) (tw_Qi G sz out h) 0 0 (tw_F G) := by
  refine tw_met (by decide +kernel) (Nat.le_of_ble_eq_true rfl) ?_
  intro p e s m args below meth c H ls hC hnm hR hl
  unfold fX1_size at hk
  obtain ⟨hob, hk⟩ := tm_th_is hk
  have hl : lv_has ls 1 [(0, .ref this)] := hl
  have hL : tw_L G [] := fun q z => by cases z
  generalize hlc : ([] : List Loc) = locs at hL ⊢
  refine lv_aload_n hC.1 hC.2.1 dX1_size_0 rfl (lv_at hl 0 rfl) ?_
  refine tw_getI hC hR hk flX1_15 dX1_size_1 (fun v1 gv1 hk => ?_)
  cases hk
  exact tw_iret hC hR hL gv1 rfl rfl dX1_size_4
set_option maxRecDepth 100000 in
theorem kX1_size {l : Launch} {p : Program} {e : Env} {R : Room} {s : State} {m : MethodId} {args : Array Value} {below : List Frame} {meth : Method} {c : Code} {H : Heap} {locs : List Loc} {cells slots : Nat} {Q : State → Prop} {cc : ByteArray} {pc nL idx : Nat} {ls : Array Slot} {rest : List Value} {G : tw_G} {h : tm_H} {own : String} {ret : Option FieldType} {α : Type} {x : α} {sz : Nat} {this : Nat} (hC : tw_C G p s m args meth c own cc nL ret) (hR : tw_Rel G sz h H) (hL : tw_L G locs) {F : Int → Option α} (hk : (fX1_size this h).bind F = some x)  (hl : tw_mL own idx yX1_size) (hRm : rmX1_size.frames + 1 ≤ R.frames ∧ 8 + (1 + 11) + rmX1_size.locals ≤ R.locals) (hsz : ls.size = nL) (hW : (rest.map fun v => v.category).sum ≤ 8) (hf : cells + 0 ≤ R.cells ∧ slots + 0 ≤ R.slots) (hdg : decode cc pc = .ok (.invokevirtual idx, 3)) (kk : ∀ (r : Int) (H1 : Heap) (locs1 : List Loc), tw_Rel G sz h H1 → tw_L G locs1 → tm_rg r → F r = some x → W p l e R s m args below meth c H1 locs1 (cells + 0) (slots + 0) Q (F0 m (pc + 3) ls (.int (tw_I r) :: rest))) : W p l e R s m args below meth c H locs cells slots Q (F0 m pc ls (.ref this :: rest)) := by
  obtain ⟨r, hr, hF⟩ := Option.bind_eq_some_iff.mp hk
  have ob : ∀ r, fX1_size this h = some r → tm_is h 1 this := fun r hr => by
    unfold fX1_size at hr
    exact (tm_th_is hr).1
  exact tw_backi (tw_runV hC hR (cX1_size_ok l G sz this  h r hr) (n := 0) (As := []) ⟨tw_in_TB 228 (by decide +kernel) rfl, tw_in_TB 14 (by decide +kernel) rfl, by decide +kernel⟩ (tw_in_TB 226 (by decide +kernel) rfl) (tw_in_TB 227 (by decide +kernel) rfl) hl ⟨rfl, rfl⟩ hRm (ob r hr) (T := TX1) (N := 2) rfl rfl hsz rfl hW hdg hf) hL (fun H1 locs1 a b g => kk r H1 locs1 a b g hF)
def rmX1_dropOldest : Room := { frames := 0, cells := 0, slots := 0, locals := 0 }
set_option maxRecDepth 100000 in
set_option maxHeartbeats 4000000 in
theorem sX1_dropOldest_S0 {l : Launch} {p : Program} {e : Env} {s : State} {m : MethodId} {args : Array Value} {below : List Frame} {meth : Method} {c : Code} (G : tw_G) (sz : Nat) (hC : tw_C G p s m args meth c RX1 cX1_dropOldest 3 none) (this : Nat)  : ∀ (k : Nat) (st : (Nat × Int × tm_H)) (out : tm_H), tm_wit (fX1_dropOldest_S0 this) k st = some out → match st with
    | (x1, x2, h) => ∀ (H : Heap) (locs : List Loc) (ls : Array Slot), tm_rg x2 → tw_Rel G sz h H → tw_L G locs → lv_has ls 3 [(0, .ref this), (1, .ref x1), (2, .int (tw_I x2))] → W p l e rmX1_dropOldest s m args below meth c H locs 0 0 (MQ below (tw_Qv G sz out) args s 0 0 (tw_F G)) (F0 m 9 ls []) := by
  intro k
  induction k with
  | zero =>
    intro st out hk
    exact absurd hk (by unfold tm_wit; exact fun z => by cases z)
  | succ k ih =>
    intro st out hk
    obtain ⟨X, hk, hf⟩ := tm_wit_succ hk
    obtain ⟨x1, x2, h⟩ := st
    intro H locs ls gx2 hR hL hl
    dsimp only [fX1_dropOldest_S0] at hk
    refine lv_iload_n hC.1 hC.2.1 dX1_dropOldest_9 rfl (lv_at hl 2 rfl) ?_
    refine lv_iconst (v := tw_I 5) hC.1 hC.2.1 dX1_dropOldest_10 rfl ?_
    refine tw_cge (tgt := 34) hC hk gx2 ((tw_rgL rfl)) dX1_dropOldest_11 (by decide) (fun _ hk => ?_) (fun _ hk => ?_)
    · refine lv_aload_n hC.1 hC.2.1 dX1_dropOldest_14 rfl (lv_at hl 0 rfl) ?_
      refine tw_getR hC hR hk flX1_11 dX1_dropOldest_15 (fun r3 hk => ?_)
      refine lv_iload_n hC.1 hC.2.1 dX1_dropOldest_18 rfl (lv_at hl 2 rfl) ?_
      refine lv_iconst (v := tw_I 1) hC.1 hC.2.1 dX1_dropOldest_19 rfl ?_
      refine tw_isub hC dX1_dropOldest_20 ?_
      refine lv_aload_n hC.1 hC.2.1 dX1_dropOldest_21 rfl (lv_at hl 0 rfl) ?_
      refine tw_getR hC hR hk flX1_11 dX1_dropOldest_22 (fun r4 hk => ?_)
      refine lv_iload_n hC.1 hC.2.1 dX1_dropOldest_25 rfl (lv_at hl 2 rfl) ?_
      refine tw_aald hC hR hk dX1_dropOldest_26 (fun r5 hk => ?_)
      refine tw_aast hC hR hL tw_ks4 hk dX1_dropOldest_27 (fun h6 H locs hR hL hk => ?_)
      refine tw_iinc (lv' := [(2, .int (tw_I (tm_wr (x2 + 1)))), (0, .ref this), (1, .ref x1)]) hC dX1_dropOldest_28 hl (k := 2) rfl (by decide) rfl (fun ls hl => ?_)
      refine lv_goto (tgt := 9) hC.1 hC.2.1 dX1_dropOldest_31 (by decide) ?_
      cases hk
      exact ih _ out hf H locs _ ((tm_wr_rg _)) hR hL (lv_sub hl [1, 2, 0] rfl)
    · refine lv_aload_n hC.1 hC.2.1 dX1_dropOldest_34 rfl (lv_at hl 0 rfl) ?_
      refine tw_getR hC hR hk flX1_11 dX1_dropOldest_35 (fun r7 hk => ?_)
      refine lv_iconst (v := tw_I 4) hC.1 hC.2.1 dX1_dropOldest_38 rfl ?_
      refine lv_aload_n hC.1 hC.2.1 dX1_dropOldest_39 rfl (lv_at hl 1 rfl) ?_
      refine tw_aast hC hR hL tw_ks4 hk dX1_dropOldest_40 (fun h8 H locs hR hL hk => ?_)
      refine lv_aload_n hC.1 hC.2.1 dX1_dropOldest_41 rfl (lv_at hl 0 rfl) ?_
      refine lv_dup hC.1 hC.2.1 dX1_dropOldest_42 rfl ?_
      refine tw_getI hC hR hk flX1_15 dX1_dropOldest_43 (fun v9 gv9 hk => ?_)
      refine lv_iconst (v := tw_I 1) hC.1 hC.2.1 dX1_dropOldest_46 rfl ?_
      refine tw_isub hC dX1_dropOldest_47 ?_
      refine tw_putI hC hR hL ((tm_wr_rg _)) hk fpX1_15 dX1_dropOldest_48 (fun h10 H locs hR hL hk => ?_)
      cases hk
      cases hf
      exact tw_vret hC hR hL rfl dX1_dropOldest_51
theorem sX1_dropOldest_L9 {l : Launch} {p : Program} {e : Env} {s : State} {m : MethodId} {args : Array Value} {below : List Frame} {meth : Method} {c : Code} (G : tw_G) (sz : Nat) (hC : tw_C G p s m args meth c RX1 cX1_dropOldest 3 none) (this : Nat)  (x1 : Nat) (x2 : Int) (h : tm_H) (gx2 : tm_rg x2) (out : tm_H) (hk : fX1_dropOldest_L9 this x1 x2 h = some out) (H : Heap) (locs : List Loc) (ls : Array Slot) (hR : tw_Rel G sz h H) (hL : tw_L G locs) (hl : lv_has ls 3 [(0, .ref this), (1, .ref x1), (2, .int (tw_I x2))]) : W p l e rmX1_dropOldest s m args below meth c H locs 0 0 (MQ below (tw_Qv G sz out) args s 0 0 (tw_F G)) (F0 m 9 ls []) := by
  obtain ⟨k, hk⟩ := tm_wl_iff.mp hk
  exact sX1_dropOldest_S0 G sz hC this  k ((x1, x2, h)) out hk H locs ls gx2 hR hL hl
set_option maxRecDepth 100000 in
set_option maxHeartbeats 4000000 in
theorem cX1_dropOldest_ok (l : Launch) (G : tw_G) (sz : Nat) (this : Nat)  (h : tm_H) (out : tm_H) (hk : fX1_dropOldest this h = some out) : Met l yX1_dropOldest (tw_WS yX1_dropOldest cX1_dropOldest 3 none) rmX1_dropOldest (va_Pc [.ref this] (tw_Pre G sz h)) (tw_Qv G sz out) 0 0 (tw_F G) := by
  refine tw_met (by decide +kernel) (Nat.le_of_ble_eq_true rfl) ?_
  intro p e s m args below meth c H ls hC hnm hR hl
  unfold fX1_dropOldest at hk
  obtain ⟨hob, hk⟩ := tm_th_is hk
  have hl : lv_has ls 3 [(0, .ref this)] := hl
  have hL : tw_L G [] := fun q z => by cases z
  generalize hlc : ([] : List Loc) = locs at hL ⊢
  refine lv_aload_n hC.1 hC.2.1 dX1_dropOldest_0 rfl (lv_at hl 0 rfl) ?_
  refine tw_getR hC hR hk flX1_11 dX1_dropOldest_1 (fun r1 hk => ?_)
  refine lv_iconst (v := tw_I 0) hC.1 hC.2.1 dX1_dropOldest_4 rfl ?_
  refine tw_aald hC hR hk dX1_dropOldest_5 (fun r2 hk => ?_)
  refine lv_astore_n (lv' := [(1, .ref r2), (0, .ref this)]) hC.1 hC.2.1 dX1_dropOldest_6 rfl hl (by decide) rfl (fun ls hl => ?_)
  refine lv_iconst (v := tw_I 1) hC.1 hC.2.1 dX1_dropOldest_7 rfl ?_
  refine lv_istore_n (lv' := [(2, .int (tw_I 1)), (1, .ref r2), (0, .ref this)]) hC.1 hC.2.1 dX1_dropOldest_8 rfl hl (by decide) rfl (fun ls hl => ?_)
  exact sX1_dropOldest_L9 G sz hC this r2 1 h ((tw_rgL rfl)) out hk H locs _ hR hL (lv_sub hl [2, 1, 0] rfl)
set_option maxRecDepth 100000 in
theorem kX1_dropOldest {l : Launch} {p : Program} {e : Env} {R : Room} {s : State} {m : MethodId} {args : Array Value} {below : List Frame} {meth : Method} {c : Code} {H : Heap} {locs : List Loc} {cells slots : Nat} {Q : State → Prop} {cc : ByteArray} {pc nL idx : Nat} {ls : Array Slot} {rest : List Value} {G : tw_G} {h : tm_H} {own : String} {ret : Option FieldType} {α : Type} {x : α} {sz : Nat} {this : Nat} (hC : tw_C G p s m args meth c own cc nL ret) (hR : tw_Rel G sz h H) (hL : tw_L G locs) {F : tm_H → Option α} (hk : (fX1_dropOldest this h).bind F = some x)  (hl : tw_mL own idx yX1_dropOldest) (hRm : rmX1_dropOldest.frames + 1 ≤ R.frames ∧ 8 + (3 + 11) + rmX1_dropOldest.locals ≤ R.locals) (hsz : ls.size = nL) (hW : (rest.map fun v => v.category).sum ≤ 8) (hf : cells + 0 ≤ R.cells ∧ slots + 0 ≤ R.slots) (hdg : decode cc pc = .ok (.invokevirtual idx, 3)) (kk : ∀ (h1 : tm_H) (H1 : Heap) (locs1 : List Loc), tw_Rel G sz h1 H1 → tw_L G locs1 → F h1 = some x → W p l e R s m args below meth c H1 locs1 (cells + 0) (slots + 0) Q (F0 m (pc + 3) ls (rest))) : W p l e R s m args below meth c H locs cells slots Q (F0 m pc ls (.ref this :: rest)) := by
  obtain ⟨r, hr, hF⟩ := Option.bind_eq_some_iff.mp hk
  have ob : ∀ r, fX1_dropOldest this h = some r → tm_is h 1 this := fun r hr => by
    unfold fX1_dropOldest at hr
    exact (tm_th_is hr).1
  exact tw_backv (tw_runV hC hR (cX1_dropOldest_ok l G sz this  h r hr) (n := 0) (As := []) ⟨tw_in_TB 439 (by decide +kernel) rfl, tw_in_TB 14 (by decide +kernel) rfl, by decide +kernel⟩ (tw_in_TB 438 (by decide +kernel) rfl) (tw_in_TB 4 (by decide +kernel) rfl) hl ⟨rfl, rfl⟩ hRm (ob r hr) (T := TX1) (N := 2) rfl rfl hsz rfl hW hdg hf) hL (fun H1 locs1 a b => kk r H1 locs1 a b hF)
def rmX7_copyFrom : Room := { frames := 1, cells := 0, slots := 0, locals := 26 }
set_option maxRecDepth 100000 in
set_option maxHeartbeats 4000000 in
theorem cX7_copyFrom_ok (l : Launch) (G : tw_G) (sz : Nat) (this : Nat) (a1 : Nat)  (h : tm_H) (out : tm_H) (hk : fX7_copyFrom this a1 h = some out) : Met l yX7_copyFrom (tw_WS yX7_copyFrom cX7_copyFrom 2 none) rmX7_copyFrom (va_Pc [.ref this, .ref a1] (tw_Pre G sz h)) (tw_Qv G sz out) 0 0 (tw_F G) := by
  refine tw_met (by decide +kernel) (Nat.le_of_ble_eq_true rfl) ?_
  intro p e s m args below meth c H ls hC hnm hR hl
  unfold fX7_copyFrom at hk
  obtain ⟨hob, hk⟩ := tm_th_is hk
  have hl : lv_has ls 2 [(0, .ref this), (1, .ref a1)] := hl
  have hL : tw_L G [] := fun q z => by cases z
  generalize hlc : ([] : List Loc) = locs at hL ⊢
  refine lv_aload_n hC.1 hC.2.1 dX7_copyFrom_0 rfl (lv_at hl 1 rfl) ?_
  refine tw_getR hC hR hk flX7_11 dX7_copyFrom_1 (fun r1 hk => ?_)
  refine lv_iconst (v := tw_I 0) hC.1 hC.2.1 dX7_copyFrom_4 rfl ?_
  refine lv_aload_n hC.1 hC.2.1 dX7_copyFrom_5 rfl (lv_at hl 0 rfl) ?_
  refine tw_getR hC hR hk flX7_11 dX7_copyFrom_6 (fun r2 hk => ?_)
  refine lv_iconst (v := tw_I 0) hC.1 hC.2.1 dX7_copyFrom_9 rfl ?_
  refine lv_bipush (v := tw_I 60) hC.1 hC.2.1 dX7_copyFrom_10 (by decide) ?_
  refine tw_cpl hC hR hL (tw_in_TB 241 (by decide +kernel) rfl) tw_acN hl.1 hk (by decide) (Nat.le_of_ble_eq_true rfl) dX7_copyFrom_12 (fun h3 H locs hR hL hk => ?_)
  refine lv_aload_n hC.1 hC.2.1 dX7_copyFrom_15 rfl (lv_at hl 1 rfl) ?_
  refine tw_getR hC hR hk flX7_15 dX7_copyFrom_16 (fun r4 hk => ?_)
  refine lv_iconst (v := tw_I 0) hC.1 hC.2.1 dX7_copyFrom_19 rfl ?_
  refine lv_aload_n hC.1 hC.2.1 dX7_copyFrom_20 rfl (lv_at hl 0 rfl) ?_
  refine tw_getR hC hR hk flX7_15 dX7_copyFrom_21 (fun r5 hk => ?_)
  refine lv_iconst (v := tw_I 0) hC.1 hC.2.1 dX7_copyFrom_24 rfl ?_
  refine lv_bipush (v := tw_I 60) hC.1 hC.2.1 dX7_copyFrom_25 (by decide) ?_
  refine tw_cpi hC hR hL (tw_in_TB 241 (by decide +kernel) rfl) tw_acN hl.1 hk (by decide) (Nat.le_of_ble_eq_true rfl) dX7_copyFrom_27 (fun h6 H locs hR hL hk => ?_)
  refine lv_aload_n hC.1 hC.2.1 dX7_copyFrom_30 rfl (lv_at hl 0 rfl) ?_
  refine lv_aload_n hC.1 hC.2.1 dX7_copyFrom_31 rfl (lv_at hl 1 rfl) ?_
  refine tw_getI hC hR hk flX7_19 dX7_copyFrom_32 (fun v7 gv7 hk => ?_)
  refine tw_putI hC hR hL gv7 hk fpX7_19 dX7_copyFrom_35 (fun h8 H locs hR hL hk => ?_)
  cases hk
  exact tw_vret hC hR hL rfl dX7_copyFrom_38
set_option maxRecDepth 100000 in
theorem kX7_copyFrom {l : Launch} {p : Program} {e : Env} {R : Room} {s : State} {m : MethodId} {args : Array Value} {below : List Frame} {meth : Method} {c : Code} {H : Heap} {locs : List Loc} {cells slots : Nat} {Q : State → Prop} {cc : ByteArray} {pc nL idx : Nat} {ls : Array Slot} {rest : List Value} {G : tw_G} {h : tm_H} {own : String} {ret : Option FieldType} {α : Type} {x : α} {sz : Nat} {this : Nat} {a1 : Nat} (hC : tw_C G p s m args meth c own cc nL ret) (hR : tw_Rel G sz h H) (hL : tw_L G locs) {F : tm_H → Option α} (hk : (fX7_copyFrom this a1 h).bind F = some x)  (hl : tw_mL own idx yX7_copyFrom) (hRm : rmX7_copyFrom.frames + 1 ≤ R.frames ∧ 8 + (2 + 11) + rmX7_copyFrom.locals ≤ R.locals) (hsz : ls.size = nL) (hW : (rest.map fun v => v.category).sum ≤ 8) (hf : cells + 0 ≤ R.cells ∧ slots + 0 ≤ R.slots) (hdg : decode cc pc = .ok (.invokevirtual idx, 3)) (kk : ∀ (h1 : tm_H) (H1 : Heap) (locs1 : List Loc), tw_Rel G sz h1 H1 → tw_L G locs1 → F h1 = some x → W p l e R s m args below meth c H1 locs1 (cells + 0) (slots + 0) Q (F0 m (pc + 3) ls (rest))) : W p l e R s m args below meth c H locs cells slots Q (F0 m pc ls (.ref a1 :: .ref this :: rest)) := by
  obtain ⟨r, hr, hF⟩ := Option.bind_eq_some_iff.mp hk
  have ob : ∀ r, fX7_copyFrom this a1 h = some r → tm_is h 7 this := fun r hr => by
    unfold fX7_copyFrom at hr
    exact (tm_th_is hr).1
  exact tw_backv (tw_runV hC hR (cX7_copyFrom_ok l G sz this a1  h r hr) (n := 1) (As := [.ref a1]) ⟨tw_in_TB 240 (by decide +kernel) rfl, tw_in_TB 11 (by decide +kernel) rfl, by decide +kernel⟩ (tw_in_TB 238 (by decide +kernel) rfl) (tw_in_TB 239 (by decide +kernel) rfl) hl ⟨rfl, rfl⟩ hRm (ob r hr) (T := TX7) (N := 3) rfl rfl hsz rfl hW hdg hf) hL (fun H1 locs1 a b => kk r H1 locs1 a b hF)
def rmX5_copyFrom : Room := { frames := 1, cells := 0, slots := 0, locals := 26 }
set_option maxRecDepth 100000 in
set_option maxHeartbeats 4000000 in
theorem sX5_copyFrom_S0 {l : Launch} {p : Program} {e : Env} {s : State} {m : MethodId} {args : Array Value} {below : List Frame} {meth : Method} {c : Code} (G : tw_G) (sz : Nat) (hC : tw_C G p s m args meth c RX5 cX5_copyFrom 3 none) (this : Nat) (a1 : Nat)  : ∀ (k : Nat) (st : (Int × tm_H)) (out : tm_H), tm_wit (fX5_copyFrom_S0 this a1) k st = some out → match st with
    | (x2, h) => ∀ (H : Heap) (locs : List Loc) (ls : Array Slot), tm_rg x2 → tw_Rel G sz h H → tw_L G locs → lv_has ls 3 [(0, .ref this), (1, .ref a1), (2, .int (tw_I x2))] → W p l e rmX5_copyFrom s m args below meth c H locs 0 0 (MQ below (tw_Qv G sz out) args s 0 0 (tw_F G)) (F0 m 2 ls []) := by
  intro k
  induction k with
  | zero =>
    intro st out hk
    exact absurd hk (by unfold tm_wit; exact fun z => by cases z)
  | succ k ih =>
    intro st out hk
    obtain ⟨X, hk, hf⟩ := tm_wit_succ hk
    obtain ⟨x2, h⟩ := st
    intro H locs ls gx2 hR hL hl
    dsimp only [fX5_copyFrom_S0] at hk
    refine lv_iload_n hC.1 hC.2.1 dX5_copyFrom_2 rfl (lv_at hl 2 rfl) ?_
    refine lv_bipush (v := tw_I 13) hC.1 hC.2.1 dX5_copyFrom_3 (by decide) ?_
    refine tw_cge (tgt := 56) hC hk gx2 ((tw_rgL rfl)) dX5_copyFrom_5 (by decide) (fun _ hk => ?_) (fun _ hk => ?_)
    · refine lv_aload_n hC.1 hC.2.1 dX5_copyFrom_8 rfl (lv_at hl 1 rfl) ?_
      refine tw_getR hC hR hk flX5_13 dX5_copyFrom_9 (fun r1 hk => ?_)
      refine lv_iload_n hC.1 hC.2.1 dX5_copyFrom_12 rfl (lv_at hl 2 rfl) ?_
      refine tw_aald hC hR hk dX5_copyFrom_13 (fun r2 hk => ?_)
      refine lv_iconst (v := tw_I 0) hC.1 hC.2.1 dX5_copyFrom_14 rfl ?_
      refine lv_aload_n hC.1 hC.2.1 dX5_copyFrom_15 rfl (lv_at hl 0 rfl) ?_
      refine tw_getR hC hR hk flX5_13 dX5_copyFrom_16 (fun r3 hk => ?_)
      refine lv_iload_n hC.1 hC.2.1 dX5_copyFrom_19 rfl (lv_at hl 2 rfl) ?_
      refine tw_aald hC hR hk dX5_copyFrom_20 (fun r4 hk => ?_)
      refine lv_iconst (v := tw_I 0) hC.1 hC.2.1 dX5_copyFrom_21 rfl ?_
      refine lv_iconst (v := tw_I 4) hC.1 hC.2.1 dX5_copyFrom_22 rfl ?_
      refine tw_cpi hC hR hL (tw_in_TB 253 (by decide +kernel) rfl) tw_acN hl.1 hk (by decide) (Nat.le_of_ble_eq_true rfl) dX5_copyFrom_23 (fun h5 H locs hR hL hk => ?_)
      refine lv_aload_n hC.1 hC.2.1 dX5_copyFrom_26 rfl (lv_at hl 0 rfl) ?_
      refine tw_getR hC hR hk flX5_16 dX5_copyFrom_27 (fun r6 hk => ?_)
      refine lv_iload_n hC.1 hC.2.1 dX5_copyFrom_30 rfl (lv_at hl 2 rfl) ?_
      refine lv_aload_n hC.1 hC.2.1 dX5_copyFrom_31 rfl (lv_at hl 1 rfl) ?_
      refine tw_getR hC hR hk flX5_16 dX5_copyFrom_32 (fun r7 hk => ?_)
      refine lv_iload_n hC.1 hC.2.1 dX5_copyFrom_35 rfl (lv_at hl 2 rfl) ?_
      refine tw_iald hC hR hk dX5_copyFrom_36 (fun v8 gv8 hk => ?_)
      refine tw_iast hC hR hL gv8 hk dX5_copyFrom_37 (fun h9 H locs hR hL hk => ?_)
      refine lv_aload_n hC.1 hC.2.1 dX5_copyFrom_38 rfl (lv_at hl 0 rfl) ?_
      refine tw_getR hC hR hk flX5_20 dX5_copyFrom_39 (fun r10 hk => ?_)
      refine lv_iload_n hC.1 hC.2.1 dX5_copyFrom_42 rfl (lv_at hl 2 rfl) ?_
      refine lv_aload_n hC.1 hC.2.1 dX5_copyFrom_43 rfl (lv_at hl 1 rfl) ?_
      refine tw_getR hC hR hk flX5_20 dX5_copyFrom_44 (fun r11 hk => ?_)
      refine lv_iload_n hC.1 hC.2.1 dX5_copyFrom_47 rfl (lv_at hl 2 rfl) ?_
      refine tw_zald hC hR hk dX5_copyFrom_48 (fun v12 gv12 hk => ?_)
      refine tw_zast hC hR hL hk dX5_copyFrom_49 (fun h13 H locs hR hL hk => ?_)
      refine tw_iinc (lv' := [(2, .int (tw_I (tm_wr (x2 + 1)))), (0, .ref this), (1, .ref a1)]) hC dX5_copyFrom_50 hl (k := 2) rfl (by decide) rfl (fun ls hl => ?_)
      refine lv_goto (tgt := 2) hC.1 hC.2.1 dX5_copyFrom_53 (by decide) ?_
      cases hk
      exact ih _ out hf H locs _ ((tm_wr_rg _)) hR hL (lv_sub hl [1, 2, 0] rfl)
    · refine lv_aload_n hC.1 hC.2.1 dX5_copyFrom_56 rfl (lv_at hl 0 rfl) ?_
      refine lv_aload_n hC.1 hC.2.1 dX5_copyFrom_57 rfl (lv_at hl 1 rfl) ?_
      refine tw_getI hC hR hk flX5_24 dX5_copyFrom_58 (fun v14 gv14 hk => ?_)
      refine tw_putI hC hR hL gv14 hk fpX5_24 dX5_copyFrom_61 (fun h15 H locs hR hL hk => ?_)
      cases hk
      cases hf
      exact tw_vret hC hR hL rfl dX5_copyFrom_64
theorem sX5_copyFrom_L2 {l : Launch} {p : Program} {e : Env} {s : State} {m : MethodId} {args : Array Value} {below : List Frame} {meth : Method} {c : Code} (G : tw_G) (sz : Nat) (hC : tw_C G p s m args meth c RX5 cX5_copyFrom 3 none) (this : Nat) (a1 : Nat)  (x2 : Int) (h : tm_H) (gx2 : tm_rg x2) (out : tm_H) (hk : fX5_copyFrom_L2 this a1 x2 h = some out) (H : Heap) (locs : List Loc) (ls : Array Slot) (hR : tw_Rel G sz h H) (hL : tw_L G locs) (hl : lv_has ls 3 [(0, .ref this), (1, .ref a1), (2, .int (tw_I x2))]) : W p l e rmX5_copyFrom s m args below meth c H locs 0 0 (MQ below (tw_Qv G sz out) args s 0 0 (tw_F G)) (F0 m 2 ls []) := by
  obtain ⟨k, hk⟩ := tm_wl_iff.mp hk
  exact sX5_copyFrom_S0 G sz hC this a1  k ((x2, h)) out hk H locs ls gx2 hR hL hl
set_option maxRecDepth 100000 in
set_option maxHeartbeats 4000000 in
theorem cX5_copyFrom_ok (l : Launch) (G : tw_G) (sz : Nat) (this : Nat) (a1 : Nat)  (h : tm_H) (out : tm_H) (hk : fX5_copyFrom this a1 h = some out) : Met l yX5_copyFrom (tw_WS yX5_copyFrom cX5_copyFrom 3 none) rmX5_copyFrom (va_Pc [.ref this, .ref a1] (tw_Pre G sz h)) (tw_Qv G sz out) 0 0 (tw_F G) := by
  refine tw_met (by decide +kernel) (Nat.le_of_ble_eq_true rfl) ?_
  intro p e s m args below meth c H ls hC hnm hR hl
  unfold fX5_copyFrom at hk
  obtain ⟨hob, hk⟩ := tm_th_is hk
  have hl : lv_has ls 3 [(0, .ref this), (1, .ref a1)] := hl
  have hL : tw_L G [] := fun q z => by cases z
  generalize hlc : ([] : List Loc) = locs at hL ⊢
  refine lv_iconst (v := tw_I 0) hC.1 hC.2.1 dX5_copyFrom_0 rfl ?_
  refine lv_istore_n (lv' := [(2, .int (tw_I 0)), (0, .ref this), (1, .ref a1)]) hC.1 hC.2.1 dX5_copyFrom_1 rfl hl (by decide) rfl (fun ls hl => ?_)
  exact sX5_copyFrom_L2 G sz hC this a1 0 h ((tw_rgL rfl)) out hk H locs _ hR hL (lv_sub hl [1, 2, 0] rfl)
set_option maxRecDepth 100000 in
theorem kX5_copyFrom {l : Launch} {p : Program} {e : Env} {R : Room} {s : State} {m : MethodId} {args : Array Value} {below : List Frame} {meth : Method} {c : Code} {H : Heap} {locs : List Loc} {cells slots : Nat} {Q : State → Prop} {cc : ByteArray} {pc nL idx : Nat} {ls : Array Slot} {rest : List Value} {G : tw_G} {h : tm_H} {own : String} {ret : Option FieldType} {α : Type} {x : α} {sz : Nat} {this : Nat} {a1 : Nat} (hC : tw_C G p s m args meth c own cc nL ret) (hR : tw_Rel G sz h H) (hL : tw_L G locs) {F : tm_H → Option α} (hk : (fX5_copyFrom this a1 h).bind F = some x)  (hl : tw_mL own idx yX5_copyFrom) (hRm : rmX5_copyFrom.frames + 1 ≤ R.frames ∧ 8 + (3 + 11) + rmX5_copyFrom.locals ≤ R.locals) (hsz : ls.size = nL) (hW : (rest.map fun v => v.category).sum ≤ 8) (hf : cells + 0 ≤ R.cells ∧ slots + 0 ≤ R.slots) (hdg : decode cc pc = .ok (.invokevirtual idx, 3)) (kk : ∀ (h1 : tm_H) (H1 : Heap) (locs1 : List Loc), tw_Rel G sz h1 H1 → tw_L G locs1 → F h1 = some x → W p l e R s m args below meth c H1 locs1 (cells + 0) (slots + 0) Q (F0 m (pc + 3) ls (rest))) : W p l e R s m args below meth c H locs cells slots Q (F0 m pc ls (.ref a1 :: .ref this :: rest)) := by
  obtain ⟨r, hr, hF⟩ := Option.bind_eq_some_iff.mp hk
  have ob : ∀ r, fX5_copyFrom this a1 h = some r → tm_is h 5 this := fun r hr => by
    unfold fX5_copyFrom at hr
    exact (tm_th_is hr).1
  exact tw_backv (tw_runV hC hR (cX5_copyFrom_ok l G sz this a1  h r hr) (n := 1) (As := [.ref a1]) ⟨tw_in_TB 252 (by decide +kernel) rfl, tw_in_TB 13 (by decide +kernel) rfl, by decide +kernel⟩ (tw_in_TB 250 (by decide +kernel) rfl) (tw_in_TB 251 (by decide +kernel) rfl) hl ⟨rfl, rfl⟩ hRm (ob r hr) (T := TX5) (N := 4) rfl rfl hsz rfl hW hdg hf) hL (fun H1 locs1 a b => kk r H1 locs1 a b hF)
def rmX4_copyFrom : Room := { frames := 2, cells := 0, slots := 0, locals := 48 }
set_option maxRecDepth 100000 in
set_option maxHeartbeats 4000000 in
theorem sX4_copyFrom_S0 {l : Launch} {p : Program} {e : Env} {s : State} {m : MethodId} {args : Array Value} {below : List Frame} {meth : Method} {c : Code} (G : tw_G) (sz : Nat) (hC : tw_C G p s m args meth c RX4 cX4_copyFrom 3 none) (this : Nat) (a1 : Nat)  : ∀ (k : Nat) (st : (Int × tm_H)) (out : tm_H), tm_wit (fX4_copyFrom_S0 this a1) k st = some out → match st with
    | (x2, h) => ∀ (H : Heap) (locs : List Loc) (ls : Array Slot), tm_rg x2 → tw_Rel G sz h H → tw_L G locs → lv_has ls 3 [(0, .ref this), (1, .ref a1), (2, .int (tw_I x2))] → W p l e rmX4_copyFrom s m args below meth c H locs 0 0 (MQ below (tw_Qv G sz out) args s 0 0 (tw_F G)) (F0 m 35 ls []) := by
  intro k
  induction k with
  | zero =>
    intro st out hk
    exact absurd hk (by unfold tm_wit; exact fun z => by cases z)
  | succ k ih =>
    intro st out hk
    obtain ⟨X, hk, hf⟩ := tm_wit_succ hk
    obtain ⟨x2, h⟩ := st
    intro H locs ls gx2 hR hL hl
    dsimp only [fX4_copyFrom_S0] at hk
    refine lv_iload_n hC.1 hC.2.1 dX4_copyFrom_35 rfl (lv_at hl 2 rfl) ?_
    refine lv_iconst (v := tw_I 2) hC.1 hC.2.1 dX4_copyFrom_36 rfl ?_
    refine tw_cge (tgt := 73) hC hk gx2 ((tw_rgL rfl)) dX4_copyFrom_37 (by decide) (fun _ hk => ?_) (fun _ hk => ?_)
    · refine lv_aload_n hC.1 hC.2.1 dX4_copyFrom_40 rfl (lv_at hl 0 rfl) ?_
      refine tw_getR hC hR hk flX4_32 dX4_copyFrom_41 (fun r10 hk => ?_)
      refine lv_iload_n hC.1 hC.2.1 dX4_copyFrom_44 rfl (lv_at hl 2 rfl) ?_
      refine tw_aald hC hR hk dX4_copyFrom_45 (fun r11 hk => ?_)
      refine lv_aload_n hC.1 hC.2.1 dX4_copyFrom_46 rfl (lv_at hl 1 rfl) ?_
      refine tw_getR hC hR hk flX4_32 dX4_copyFrom_47 (fun r12 hk => ?_)
      refine lv_iload_n hC.1 hC.2.1 dX4_copyFrom_50 rfl (lv_at hl 2 rfl) ?_
      refine tw_aald hC hR hk dX4_copyFrom_51 (fun r13 hk => ?_)
      refine kX0_copyFrom hC hR hL hk mlX4_44 ⟨by decide, by decide⟩ hl.1 (Nat.le_of_ble_eq_true rfl) ⟨Nat.zero_le _, Nat.zero_le _⟩ dX4_copyFrom_52 (fun h14 H locs hR hL hk => ?_)
      refine lv_aload_n hC.1 hC.2.1 dX4_copyFrom_55 rfl (lv_at hl 0 rfl) ?_
      refine tw_getR hC hR hk flX4_36 dX4_copyFrom_56 (fun r15 hk => ?_)
      refine lv_iload_n hC.1 hC.2.1 dX4_copyFrom_59 rfl (lv_at hl 2 rfl) ?_
      refine lv_aload_n hC.1 hC.2.1 dX4_copyFrom_60 rfl (lv_at hl 1 rfl) ?_
      refine tw_getR hC hR hk flX4_36 dX4_copyFrom_61 (fun r16 hk => ?_)
      refine lv_iload_n hC.1 hC.2.1 dX4_copyFrom_64 rfl (lv_at hl 2 rfl) ?_
      refine tw_zald hC hR hk dX4_copyFrom_65 (fun v17 gv17 hk => ?_)
      refine tw_zast hC hR hL hk dX4_copyFrom_66 (fun h18 H locs hR hL hk => ?_)
      refine tw_iinc (lv' := [(2, .int (tw_I (tm_wr (x2 + 1)))), (0, .ref this), (1, .ref a1)]) hC dX4_copyFrom_67 hl (k := 2) rfl (by decide) rfl (fun ls hl => ?_)
      refine lv_goto (tgt := 35) hC.1 hC.2.1 dX4_copyFrom_70 (by decide) ?_
      cases hk
      exact ih _ out hf H locs _ ((tm_wr_rg _)) hR hL (lv_sub hl [1, 2, 0] rfl)
    · cases hk
      cases hf
      exact tw_vret hC hR hL rfl dX4_copyFrom_73
theorem sX4_copyFrom_L35 {l : Launch} {p : Program} {e : Env} {s : State} {m : MethodId} {args : Array Value} {below : List Frame} {meth : Method} {c : Code} (G : tw_G) (sz : Nat) (hC : tw_C G p s m args meth c RX4 cX4_copyFrom 3 none) (this : Nat) (a1 : Nat)  (x2 : Int) (h : tm_H) (gx2 : tm_rg x2) (out : tm_H) (hk : fX4_copyFrom_L35 this a1 x2 h = some out) (H : Heap) (locs : List Loc) (ls : Array Slot) (hR : tw_Rel G sz h H) (hL : tw_L G locs) (hl : lv_has ls 3 [(0, .ref this), (1, .ref a1), (2, .int (tw_I x2))]) : W p l e rmX4_copyFrom s m args below meth c H locs 0 0 (MQ below (tw_Qv G sz out) args s 0 0 (tw_F G)) (F0 m 35 ls []) := by
  obtain ⟨k, hk⟩ := tm_wl_iff.mp hk
  exact sX4_copyFrom_S0 G sz hC this a1  k ((x2, h)) out hk H locs ls gx2 hR hL hl
set_option maxRecDepth 100000 in
set_option maxHeartbeats 4000000 in
theorem cX4_copyFrom_ok (l : Launch) (G : tw_G) (sz : Nat) (this : Nat) (a1 : Nat)  (h : tm_H) (out : tm_H) (hk : fX4_copyFrom this a1 h = some out) : Met l yX4_copyFrom (tw_WS yX4_copyFrom cX4_copyFrom 3 none) rmX4_copyFrom (va_Pc [.ref this, .ref a1] (tw_Pre G sz h)) (tw_Qv G sz out) 0 0 (tw_F G) := by
  refine tw_met (by decide +kernel) (Nat.le_of_ble_eq_true rfl) ?_
  intro p e s m args below meth c H ls hC hnm hR hl
  unfold fX4_copyFrom at hk
  obtain ⟨hob, hk⟩ := tm_th_is hk
  have hl : lv_has ls 3 [(0, .ref this), (1, .ref a1)] := hl
  have hL : tw_L G [] := fun q z => by cases z
  generalize hlc : ([] : List Loc) = locs at hL ⊢
  refine lv_aload_n hC.1 hC.2.1 dX4_copyFrom_0 rfl (lv_at hl 0 rfl) ?_
  refine tw_getR hC hR hk flX4_12 dX4_copyFrom_1 (fun r1 hk => ?_)
  refine lv_aload_n hC.1 hC.2.1 dX4_copyFrom_4 rfl (lv_at hl 1 rfl) ?_
  refine tw_getR hC hR hk flX4_12 dX4_copyFrom_5 (fun r2 hk => ?_)
  refine kX7_copyFrom hC hR hL hk mlX4_89 ⟨by decide, by decide⟩ hl.1 (Nat.le_of_ble_eq_true rfl) ⟨Nat.zero_le _, Nat.zero_le _⟩ dX4_copyFrom_8 (fun h3 H locs hR hL hk => ?_)
  refine lv_aload_n hC.1 hC.2.1 dX4_copyFrom_11 rfl (lv_at hl 0 rfl) ?_
  refine tw_getR hC hR hk flX4_21 dX4_copyFrom_12 (fun r4 hk => ?_)
  refine lv_aload_n hC.1 hC.2.1 dX4_copyFrom_15 rfl (lv_at hl 1 rfl) ?_
  refine tw_getR hC hR hk flX4_21 dX4_copyFrom_16 (fun r5 hk => ?_)
  refine kX0_copyFrom hC hR hL hk mlX4_44 ⟨by decide, by decide⟩ hl.1 (Nat.le_of_ble_eq_true rfl) ⟨Nat.zero_le _, Nat.zero_le _⟩ dX4_copyFrom_19 (fun h6 H locs hR hL hk => ?_)
  refine lv_aload_n hC.1 hC.2.1 dX4_copyFrom_22 rfl (lv_at hl 0 rfl) ?_
  refine tw_getR hC hR hk flX4_28 dX4_copyFrom_23 (fun r7 hk => ?_)
  refine lv_aload_n hC.1 hC.2.1 dX4_copyFrom_26 rfl (lv_at hl 1 rfl) ?_
  refine tw_getR hC hR hk flX4_28 dX4_copyFrom_27 (fun r8 hk => ?_)
  refine kX5_copyFrom hC hR hL hk mlX4_92 ⟨by decide, by decide⟩ hl.1 (Nat.le_of_ble_eq_true rfl) ⟨Nat.zero_le _, Nat.zero_le _⟩ dX4_copyFrom_30 (fun h9 H locs hR hL hk => ?_)
  refine lv_iconst (v := tw_I 0) hC.1 hC.2.1 dX4_copyFrom_33 rfl ?_
  refine lv_istore_n (lv' := [(2, .int (tw_I 0)), (0, .ref this), (1, .ref a1)]) hC.1 hC.2.1 dX4_copyFrom_34 rfl hl (by decide) rfl (fun ls hl => ?_)
  exact sX4_copyFrom_L35 G sz hC this a1 0 h9 ((tw_rgL rfl)) out hk H locs _ hR hL (lv_sub hl [1, 2, 0] rfl)
set_option maxRecDepth 100000 in
theorem kX4_copyFrom {l : Launch} {p : Program} {e : Env} {R : Room} {s : State} {m : MethodId} {args : Array Value} {below : List Frame} {meth : Method} {c : Code} {H : Heap} {locs : List Loc} {cells slots : Nat} {Q : State → Prop} {cc : ByteArray} {pc nL idx : Nat} {ls : Array Slot} {rest : List Value} {G : tw_G} {h : tm_H} {own : String} {ret : Option FieldType} {α : Type} {x : α} {sz : Nat} {this : Nat} {a1 : Nat} (hC : tw_C G p s m args meth c own cc nL ret) (hR : tw_Rel G sz h H) (hL : tw_L G locs) {F : tm_H → Option α} (hk : (fX4_copyFrom this a1 h).bind F = some x)  (hl : tw_mL own idx yX4_copyFrom) (hRm : rmX4_copyFrom.frames + 1 ≤ R.frames ∧ 8 + (3 + 11) + rmX4_copyFrom.locals ≤ R.locals) (hsz : ls.size = nL) (hW : (rest.map fun v => v.category).sum ≤ 8) (hf : cells + 0 ≤ R.cells ∧ slots + 0 ≤ R.slots) (hdg : decode cc pc = .ok (.invokevirtual idx, 3)) (kk : ∀ (h1 : tm_H) (H1 : Heap) (locs1 : List Loc), tw_Rel G sz h1 H1 → tw_L G locs1 → F h1 = some x → W p l e R s m args below meth c H1 locs1 (cells + 0) (slots + 0) Q (F0 m (pc + 3) ls (rest))) : W p l e R s m args below meth c H locs cells slots Q (F0 m pc ls (.ref a1 :: .ref this :: rest)) := by
  obtain ⟨r, hr, hF⟩ := Option.bind_eq_some_iff.mp hk
  have ob : ∀ r, fX4_copyFrom this a1 h = some r → tm_is h 4 this := fun r hr => by
    unfold fX4_copyFrom at hr
    exact (tm_th_is hr).1
  exact tw_backv (tw_runV hC hR (cX4_copyFrom_ok l G sz this a1  h r hr) (n := 1) (As := [.ref a1]) ⟨tw_in_TB 236 (by decide +kernel) rfl, tw_in_TB 10 (by decide +kernel) rfl, by decide +kernel⟩ (tw_in_TB 234 (by decide +kernel) rfl) (tw_in_TB 235 (by decide +kernel) rfl) hl ⟨rfl, rfl⟩ hRm (ob r hr) (T := TX4) (N := 5) rfl rfl hsz rfl hW hdg hf) hL (fun H1 locs1 a b => kk r H1 locs1 a b hF)
def rmX1_keep : Room := { frames := 3, cells := 0, slots := 0, locals := 70 }
set_option maxRecDepth 100000 in
set_option maxHeartbeats 4000000 in
theorem sX1_keep_L12 {l : Launch} {p : Program} {e : Env} {s : State} {m : MethodId} {args : Array Value} {below : List Frame} {meth : Method} {c : Code} (G : tw_G) (sz : Nat) (hC : tw_C G p s m args meth c RX1 cX1_keep 2 none) (this : Nat) (a1 : Nat)   (h : tm_H)  (out : tm_H) (hk : fX1_keep_L12 this a1 h = some out) (H : Heap) (locs : List Loc) (ls : Array Slot) (hR : tw_Rel G sz h H) (hL : tw_L G locs) (hl : lv_has ls 2 [(0, .ref this), (1, .ref a1)]) : W p l e rmX1_keep s m args below meth c H locs 0 0 (MQ below (tw_Qv G sz out) args s 0 0 (tw_F G)) (F0 m 12 ls []) := by
  unfold fX1_keep_L12 at hk
  refine lv_aload_n hC.1 hC.2.1 dX1_keep_12 rfl (lv_at hl 0 rfl) ?_
  refine tw_getR hC hR hk flX1_11 dX1_keep_13 (fun r3 hk => ?_)
  refine lv_aload_n hC.1 hC.2.1 dX1_keep_16 rfl (lv_at hl 0 rfl) ?_
  refine tw_getI hC hR hk flX1_15 dX1_keep_17 (fun v4 gv4 hk => ?_)
  refine tw_aald hC hR hk dX1_keep_20 (fun r5 hk => ?_)
  refine lv_aload_n hC.1 hC.2.1 dX1_keep_21 rfl (lv_at hl 1 rfl) ?_
  refine kX4_copyFrom hC hR hL hk mlX1_23 ⟨by decide, by decide⟩ hl.1 (Nat.le_of_ble_eq_true rfl) ⟨Nat.zero_le _, Nat.zero_le _⟩ dX1_keep_22 (fun h6 H locs hR hL hk => ?_)
  refine lv_aload_n hC.1 hC.2.1 dX1_keep_25 rfl (lv_at hl 0 rfl) ?_
  refine lv_dup hC.1 hC.2.1 dX1_keep_26 rfl ?_
  refine tw_getI hC hR hk flX1_15 dX1_keep_27 (fun v7 gv7 hk => ?_)
  refine lv_iconst (v := tw_I 1) hC.1 hC.2.1 dX1_keep_30 rfl ?_
  refine tw_iadd hC dX1_keep_31 ?_
  refine tw_putI hC hR hL ((tm_wr_rg _)) hk fpX1_15 dX1_keep_32 (fun h8 H locs hR hL hk => ?_)
  cases hk
  exact tw_vret hC hR hL rfl dX1_keep_35
set_option maxRecDepth 100000 in
set_option maxHeartbeats 4000000 in
theorem cX1_keep_ok (l : Launch) (G : tw_G) (sz : Nat) (this : Nat) (a1 : Nat)  (h : tm_H) (out : tm_H) (hk : fX1_keep this a1 h = some out) : Met l yX1_keep (tw_WS yX1_keep cX1_keep 2 none) rmX1_keep (va_Pc [.ref this, .ref a1] (tw_Pre G sz h)) (tw_Qv G sz out) 0 0 (tw_F G) := by
  refine tw_met (by decide +kernel) (Nat.le_of_ble_eq_true rfl) ?_
  intro p e s m args below meth c H ls hC hnm hR hl
  unfold fX1_keep at hk
  obtain ⟨hob, hk⟩ := tm_th_is hk
  have hl : lv_has ls 2 [(0, .ref this), (1, .ref a1)] := hl
  have hL : tw_L G [] := fun q z => by cases z
  generalize hlc : ([] : List Loc) = locs at hL ⊢
  refine lv_aload_n hC.1 hC.2.1 dX1_keep_0 rfl (lv_at hl 0 rfl) ?_
  refine tw_getI hC hR hk flX1_15 dX1_keep_1 (fun v1 gv1 hk => ?_)
  refine lv_iconst (v := tw_I 5) hC.1 hC.2.1 dX1_keep_4 rfl ?_
  refine tw_clt (tgt := 12) hC hk gv1 ((tw_rgL rfl)) dX1_keep_5 (by decide) (fun _ hk => ?_) (fun _ hk => ?_)
  · exact sX1_keep_L12 G sz hC this a1 h out hk H locs _ hR hL (lv_sub hl [0, 1] rfl)
  · refine lv_aload_n hC.1 hC.2.1 dX1_keep_8 rfl (lv_at hl 0 rfl) ?_
    refine kX1_dropOldest hC hR hL hk mlX1_20 ⟨by decide, by decide⟩ hl.1 (Nat.le_of_ble_eq_true rfl) ⟨Nat.zero_le _, Nat.zero_le _⟩ dX1_keep_9 (fun h2 H locs hR hL hk => ?_)
    exact sX1_keep_L12 G sz hC this a1 h2 out hk H locs _ hR hL (lv_sub hl [0, 1] rfl)
set_option maxRecDepth 100000 in
theorem kX1_keep {l : Launch} {p : Program} {e : Env} {R : Room} {s : State} {m : MethodId} {args : Array Value} {below : List Frame} {meth : Method} {c : Code} {H : Heap} {locs : List Loc} {cells slots : Nat} {Q : State → Prop} {cc : ByteArray} {pc nL idx : Nat} {ls : Array Slot} {rest : List Value} {G : tw_G} {h : tm_H} {own : String} {ret : Option FieldType} {α : Type} {x : α} {sz : Nat} {this : Nat} {a1 : Nat} (hC : tw_C G p s m args meth c own cc nL ret) (hR : tw_Rel G sz h H) (hL : tw_L G locs) {F : tm_H → Option α} (hk : (fX1_keep this a1 h).bind F = some x)  (hl : tw_mL own idx yX1_keep) (hRm : rmX1_keep.frames + 1 ≤ R.frames ∧ 8 + (2 + 11) + rmX1_keep.locals ≤ R.locals) (hsz : ls.size = nL) (hW : (rest.map fun v => v.category).sum ≤ 8) (hf : cells + 0 ≤ R.cells ∧ slots + 0 ≤ R.slots) (hdg : decode cc pc = .ok (.invokevirtual idx, 3)) (kk : ∀ (h1 : tm_H) (H1 : Heap) (locs1 : List Loc), tw_Rel G sz h1 H1 → tw_L G locs1 → F h1 = some x → W p l e R s m args below meth c H1 locs1 (cells + 0) (slots + 0) Q (F0 m (pc + 3) ls (rest))) : W p l e R s m args below meth c H locs cells slots Q (F0 m pc ls (.ref a1 :: .ref this :: rest)) := by
  obtain ⟨r, hr, hF⟩ := Option.bind_eq_some_iff.mp hk
  have ob : ∀ r, fX1_keep this a1 h = some r → tm_is h 1 this := fun r hr => by
    unfold fX1_keep at hr
    exact (tm_th_is hr).1
  exact tw_backv (tw_runV hC hR (cX1_keep_ok l G sz this a1  h r hr) (n := 1) (As := [.ref a1]) ⟨tw_in_TB 435 (by decide +kernel) rfl, tw_in_TB 14 (by decide +kernel) rfl, by decide +kernel⟩ (tw_in_TB 433 (by decide +kernel) rfl) (tw_in_TB 434 (by decide +kernel) rfl) hl ⟨rfl, rfl⟩ hRm (ob r hr) (T := TX1) (N := 2) rfl rfl hsz rfl hW hdg hf) hL (fun H1 locs1 a b => kk r H1 locs1 a b hF)
def rmX1_giveBack : Room := { frames := 3, cells := 0, slots := 0, locals := 70 }
set_option maxRecDepth 100000 in
set_option maxHeartbeats 4000000 in
theorem cX1_giveBack_ok (l : Launch) (G : tw_G) (sz : Nat) (this : Nat) (a1 : Nat)  (h : tm_H) (out : tm_H) (hk : fX1_giveBack this a1 h = some out) : Met l yX1_giveBack (tw_WS yX1_giveBack cX1_giveBack 2 none) rmX1_giveBack (va_Pc [.ref this, .ref a1] (tw_Pre G sz h)) (tw_Qv G sz out) 0 0 (tw_F G) := by
  refine tw_met (by decide +kernel) (Nat.le_of_ble_eq_true rfl) ?_
  intro p e s m args below meth c H ls hC hnm hR hl
  unfold fX1_giveBack at hk
  obtain ⟨hob, hk⟩ := tm_th_is hk
  have hl : lv_has ls 2 [(0, .ref this), (1, .ref a1)] := hl
  have hL : tw_L G [] := fun q z => by cases z
  generalize hlc : ([] : List Loc) = locs at hL ⊢
  refine lv_aload_n hC.1 hC.2.1 dX1_giveBack_0 rfl (lv_at hl 0 rfl) ?_
  refine tw_getI hC hR hk flX1_15 dX1_giveBack_1 (fun v1 gv1 hk => ?_)
  refine tw_zle (tgt := 30) hC hk gv1 dX1_giveBack_4 (by decide) (fun _ hk => ?_) (fun _ hk => ?_)
  · refine lv_aload_n hC.1 hC.2.1 dX1_giveBack_7 rfl (lv_at hl 0 rfl) ?_
    refine lv_dup hC.1 hC.2.1 dX1_giveBack_8 rfl ?_
    refine tw_getI hC hR hk flX1_15 dX1_giveBack_9 (fun v2 gv2 hk => ?_)
    refine lv_iconst (v := tw_I 1) hC.1 hC.2.1 dX1_giveBack_12 rfl ?_
    refine tw_isub hC dX1_giveBack_13 ?_
    refine tw_putI hC hR hL ((tm_wr_rg _)) hk fpX1_15 dX1_giveBack_14 (fun h3 H locs hR hL hk => ?_)
    refine lv_aload_n hC.1 hC.2.1 dX1_giveBack_17 rfl (lv_at hl 1 rfl) ?_
    refine lv_aload_n hC.1 hC.2.1 dX1_giveBack_18 rfl (lv_at hl 0 rfl) ?_
    refine tw_getR hC hR hk flX1_11 dX1_giveBack_19 (fun r4 hk => ?_)
    refine lv_aload_n hC.1 hC.2.1 dX1_giveBack_22 rfl (lv_at hl 0 rfl) ?_
    refine tw_getI hC hR hk flX1_15 dX1_giveBack_23 (fun v5 gv5 hk => ?_)
    refine tw_aald hC hR hk dX1_giveBack_26 (fun r6 hk => ?_)
    refine kX4_copyFrom hC hR hL hk mlX1_23 ⟨by decide, by decide⟩ hl.1 (Nat.le_of_ble_eq_true rfl) ⟨Nat.zero_le _, Nat.zero_le _⟩ dX1_giveBack_27 (fun h7 H locs hR hL hk => ?_)
    cases hk
    exact tw_vret hC hR hL rfl dX1_giveBack_30
  · cases hk
    exact tw_vret hC hR hL rfl dX1_giveBack_30
set_option maxRecDepth 100000 in
theorem kX1_giveBack {l : Launch} {p : Program} {e : Env} {R : Room} {s : State} {m : MethodId} {args : Array Value} {below : List Frame} {meth : Method} {c : Code} {H : Heap} {locs : List Loc} {cells slots : Nat} {Q : State → Prop} {cc : ByteArray} {pc nL idx : Nat} {ls : Array Slot} {rest : List Value} {G : tw_G} {h : tm_H} {own : String} {ret : Option FieldType} {α : Type} {x : α} {sz : Nat} {this : Nat} {a1 : Nat} (hC : tw_C G p s m args meth c own cc nL ret) (hR : tw_Rel G sz h H) (hL : tw_L G locs) {F : tm_H → Option α} (hk : (fX1_giveBack this a1 h).bind F = some x)  (hl : tw_mL own idx yX1_giveBack) (hRm : rmX1_giveBack.frames + 1 ≤ R.frames ∧ 8 + (2 + 11) + rmX1_giveBack.locals ≤ R.locals) (hsz : ls.size = nL) (hW : (rest.map fun v => v.category).sum ≤ 8) (hf : cells + 0 ≤ R.cells ∧ slots + 0 ≤ R.slots) (hdg : decode cc pc = .ok (.invokevirtual idx, 3)) (kk : ∀ (h1 : tm_H) (H1 : Heap) (locs1 : List Loc), tw_Rel G sz h1 H1 → tw_L G locs1 → F h1 = some x → W p l e R s m args below meth c H1 locs1 (cells + 0) (slots + 0) Q (F0 m (pc + 3) ls (rest))) : W p l e R s m args below meth c H locs cells slots Q (F0 m pc ls (.ref a1 :: .ref this :: rest)) := by
  obtain ⟨r, hr, hF⟩ := Option.bind_eq_some_iff.mp hk
  have ob : ∀ r, fX1_giveBack this a1 h = some r → tm_is h 1 this := fun r hr => by
    unfold fX1_giveBack at hr
    exact (tm_th_is hr).1
  exact tw_backv (tw_runV hC hR (cX1_giveBack_ok l G sz this a1  h r hr) (n := 1) (As := [.ref a1]) ⟨tw_in_TB 232 (by decide +kernel) rfl, tw_in_TB 14 (by decide +kernel) rfl, by decide +kernel⟩ (tw_in_TB 230 (by decide +kernel) rfl) (tw_in_TB 231 (by decide +kernel) rfl) hl ⟨rfl, rfl⟩ hRm (ob r hr) (T := TX1) (N := 2) rfl rfl hsz rfl hW hdg hf) hL (fun H1 locs1 a b => kk r H1 locs1 a b hF)
