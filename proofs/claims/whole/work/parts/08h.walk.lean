def rmX9_wordsOfAll : Room := { frames := 1, cells := 0, slots := 0, locals := 21 }
set_option maxRecDepth 100000 in
set_option maxHeartbeats 4000000 in
theorem sX9_wordsOfAll_S0 {l : Launch} {p : Program} {e : Env} {s : State} {m : MethodId} {args : Array Value} {below : List Frame} {meth : Method} {c : Code} (G : tw_G) (sz : Nat) (hC : tw_C G p s m args meth c RX9 cX9_wordsOfAll 3 (some .int)) (this : Nat)  (h : tm_H) : ∀ (k : Nat) (st : (Int × Int)) (out : Int), tm_wit (fX9_wordsOfAll_S0 this h) k st = some out → match st with
    | (x1, x2) => ∀ (H : Heap) (locs : List Loc) (ls : Array Slot), tm_rg x1 → tm_rg x2 → tw_Rel G sz h H → tw_L G locs → lv_has ls 3 [(0, .ref this), (1, .int (tw_I x1)), (2, .int (tw_I x2))] → W p l e rmX9_wordsOfAll s m args below meth c H locs 0 0 (MQ below (tw_Qi G sz out h) args s 0 0 (tw_F G)) (F0 m 4 ls []) := by
  intro k
  induction k with
  | zero =>
    intro st out hk
    exact absurd hk (by unfold tm_wit; exact fun z => by cases z)
  | succ k ih =>
    intro st out hk
    obtain ⟨X, hk, hf⟩ := tm_wit_succ hk
    obtain ⟨x1, x2⟩ := st
    intro H locs ls gx1 gx2 hR hL hl
    dsimp only [fX9_wordsOfAll_S0] at hk
    refine lv_iload_n hC.1 hC.2.1 dX9_wordsOfAll_4 rfl (lv_at hl 2 rfl) ?_
    refine lv_bipush (v := tw_I 6) hC.1 hC.2.1 dX9_wordsOfAll_5 (by decide) ?_
    refine tw_cge (tgt := 24) hC hk gx2 ((tw_rgL rfl)) dX9_wordsOfAll_7 (by decide) (fun _ hk => ?_) (fun _ hk => ?_)
    · refine lv_iload_n hC.1 hC.2.1 dX9_wordsOfAll_10 rfl (lv_at hl 1 rfl) ?_
      refine lv_aload_n hC.1 hC.2.1 dX9_wordsOfAll_11 rfl (lv_at hl 0 rfl) ?_
      refine lv_iload_n hC.1 hC.2.1 dX9_wordsOfAll_12 rfl (lv_at hl 2 rfl) ?_
      refine kX9_size hC hR hL hk gx2 mlX9_57 ⟨by decide, by decide⟩ hl.1 (Nat.le_of_ble_eq_true rfl) ⟨Nat.zero_le _, Nat.zero_le _⟩ dX9_wordsOfAll_13 (fun v1 H locs hR hL gv1 hk => ?_)
      refine tw_iadd hC dX9_wordsOfAll_16 ?_
      refine lv_istore_n (lv' := [(1, .int (tw_I (tm_wr (x1 + v1)))), (0, .ref this), (2, .int (tw_I x2))]) hC.1 hC.2.1 dX9_wordsOfAll_17 rfl hl (by decide) rfl (fun ls hl => ?_)
      refine tw_iinc (lv' := [(2, .int (tw_I (tm_wr (x2 + 1)))), (1, .int (tw_I (tm_wr (x1 + v1)))), (0, .ref this)]) hC dX9_wordsOfAll_18 hl (k := 2) rfl (by decide) rfl (fun ls hl => ?_)
      refine lv_goto (tgt := 4) hC.1 hC.2.1 dX9_wordsOfAll_21 (by decide) ?_
      cases hk
      exact ih _ out hf H locs _ ((tm_wr_rg _)) ((tm_wr_rg _)) hR hL (lv_sub hl [2, 1, 0] rfl)
    · refine lv_iload_n hC.1 hC.2.1 dX9_wordsOfAll_24 rfl (lv_at hl 1 rfl) ?_
      cases hk
      cases hf
      exact tw_iret hC hR hL gx1 rfl rfl dX9_wordsOfAll_25
theorem sX9_wordsOfAll_L4 {l : Launch} {p : Program} {e : Env} {s : State} {m : MethodId} {args : Array Value} {below : List Frame} {meth : Method} {c : Code} (G : tw_G) (sz : Nat) (hC : tw_C G p s m args meth c RX9 cX9_wordsOfAll 3 (some .int)) (this : Nat)  (h : tm_H) (x1 : Int) (x2 : Int) (gx1 : tm_rg x1) (gx2 : tm_rg x2) (out : Int) (hk : fX9_wordsOfAll_L4 this h x1 x2 = some out) (H : Heap) (locs : List Loc) (ls : Array Slot) (hR : tw_Rel G sz h H) (hL : tw_L G locs) (hl : lv_has ls 3 [(0, .ref this), (1, .int (tw_I x1)), (2, .int (tw_I x2))]) : W p l e rmX9_wordsOfAll s m args below meth c H locs 0 0 (MQ below (tw_Qi G sz out h) args s 0 0 (tw_F G)) (F0 m 4 ls []) := by
  obtain ⟨k, hk⟩ := tm_wl_iff.mp hk
  exact sX9_wordsOfAll_S0 G sz hC this  h k ((x1, x2)) out hk H locs ls gx1 gx2 hR hL hl
set_option maxRecDepth 100000 in
set_option maxHeartbeats 4000000 in
theorem cX9_wordsOfAll_ok (l : Launch) (G : tw_G) (sz : Nat) (this : Nat)  (h : tm_H) (out : Int) (hk : fX9_wordsOfAll this h = some out) : Met l yX9_wordsOfAll (tw_WS yX9_wordsOfAll cX9_wordsOfAll 3 (some .int)) rmX9_wordsOfAll (va_Pc [.ref this] (tw_Pre G sz h)) (tw_Qi G sz out h) 0 0 (tw_F G) := by
  refine tw_met (by decide +kernel) (Nat.le_of_ble_eq_true rfl) ?_
  intro p e s m args below meth c H ls hC hnm hR hl
  unfold fX9_wordsOfAll at hk
  obtain ⟨hob, hk⟩ := tm_th_is hk
  have hl : lv_has ls 3 [(0, .ref this)] := hl
  have hL : tw_L G [] := fun q z => by cases z
  generalize hlc : ([] : List Loc) = locs at hL ⊢
  refine lv_iconst (v := tw_I 0) hC.1 hC.2.1 dX9_wordsOfAll_0 rfl ?_
  refine lv_istore_n (lv' := [(1, .int (tw_I 0)), (0, .ref this)]) hC.1 hC.2.1 dX9_wordsOfAll_1 rfl hl (by decide) rfl (fun ls hl => ?_)
  refine lv_iconst (v := tw_I 0) hC.1 hC.2.1 dX9_wordsOfAll_2 rfl ?_
  refine lv_istore_n (lv' := [(2, .int (tw_I 0)), (1, .int (tw_I 0)), (0, .ref this)]) hC.1 hC.2.1 dX9_wordsOfAll_3 rfl hl (by decide) rfl (fun ls hl => ?_)
  exact sX9_wordsOfAll_L4 G sz hC this h 0 0 ((tw_rgL rfl)) ((tw_rgL rfl)) out hk H locs _ hR hL (lv_sub hl [2, 1, 0] rfl)
set_option maxRecDepth 100000 in
theorem kX9_wordsOfAll {l : Launch} {p : Program} {e : Env} {R : Room} {s : State} {m : MethodId} {args : Array Value} {below : List Frame} {meth : Method} {c : Code} {H : Heap} {locs : List Loc} {cells slots : Nat} {Q : State → Prop} {cc : ByteArray} {pc nL idx : Nat} {ls : Array Slot} {rest : List Value} {G : tw_G} {h : tm_H} {own : String} {ret : Option FieldType} {α : Type} {x : α} {sz : Nat} {this : Nat} (hC : tw_C G p s m args meth c own cc nL ret) (hR : tw_Rel G sz h H) (hL : tw_L G locs) {F : Int → Option α} (hk : (fX9_wordsOfAll this h).bind F = some x)  (hl : tw_mL own idx yX9_wordsOfAll) (hRm : rmX9_wordsOfAll.frames + 1 ≤ R.frames ∧ 8 + (3 + 11) + rmX9_wordsOfAll.locals ≤ R.locals) (hsz : ls.size = nL) (hW : (rest.map fun v => v.category).sum ≤ 8) (hf : cells + 0 ≤ R.cells ∧ slots + 0 ≤ R.slots) (hdg : decode cc pc = .ok (.invokevirtual idx, 3)) (kk : ∀ (r : Int) (H1 : Heap) (locs1 : List Loc), tw_Rel G sz h H1 → tw_L G locs1 → tm_rg r → F r = some x → W p l e R s m args below meth c H1 locs1 (cells + 0) (slots + 0) Q (F0 m (pc + 3) ls (.int (tw_I r) :: rest))) : W p l e R s m args below meth c H locs cells slots Q (F0 m pc ls (.ref this :: rest)) := by
  obtain ⟨r, hr, hF⟩ := Option.bind_eq_some_iff.mp hk
  have ob : ∀ r, fX9_wordsOfAll this h = some r → tm_is h 9 this := fun r hr => by
    unfold fX9_wordsOfAll at hr
    exact (tm_th_is hr).1
  exact tw_backi (tw_runV hC hR (cX9_wordsOfAll_ok l G sz this  h r hr) (n := 0) (As := []) ⟨tw_in_TB 962 (by decide +kernel) rfl, tw_in_TB 62 (by decide +kernel) rfl, by decide +kernel⟩ (tw_in_TB 961 (by decide +kernel) rfl) (tw_in_TB 33 (by decide +kernel) rfl) hl ⟨rfl, rfl⟩ hRm (ob r hr) (T := TX9) (N := 15) rfl rfl hsz rfl hW hdg hf) hL (fun H1 locs1 a b g => kk r H1 locs1 a b g hF)
def rmX9_isSlot : Room := { frames := 1, cells := 0, slots := 0, locals := 22 }
set_option maxRecDepth 100000 in
set_option maxHeartbeats 4000000 in
theorem cX9_isSlot_ok (l : Launch) (G : tw_G) (sz : Nat) (a1 : Int) (ga1 : tm_rg a1) (h : tm_H) (out : Int) (hk : fX9_isSlot a1 h = some out) : Met l yX9_isSlot (tw_WS yX9_isSlot cX9_isSlot 1 (some .boolean)) rmX9_isSlot (va_Pc [.int (tw_I a1)] (tw_Pre G sz h)) (tw_Qi G sz out h) 0 0 (tw_F G) := by
  refine tw_met (by decide +kernel) (Nat.le_of_ble_eq_true rfl) ?_
  intro p e s m args below meth c H ls hC hnm hR hl
  unfold fX9_isSlot at hk
  have hl : lv_has ls 1 [(0, .int (tw_I a1))] := hl
  have hL : tw_L G [] := fun q z => by cases z
  generalize hlc : ([] : List Loc) = locs at hL ⊢
  refine lv_iload_n hC.1 hC.2.1 dX9_isSlot_0 rfl (lv_at hl 0 rfl) ?_
  refine lv_iconst (v := tw_I 0) hC.1 hC.2.1 dX9_isSlot_1 rfl ?_
  refine lv_iconst (v := tw_I 1) hC.1 hC.2.1 dX9_isSlot_2 rfl ?_
  refine kX9_in hC hR hL hk ga1 ((tw_rgL rfl)) ((tw_rgL rfl)) mlX9_45 ⟨by decide, by decide⟩ hl.1 (Nat.le_of_ble_eq_true rfl) ⟨Nat.zero_le _, Nat.zero_le _⟩ dX9_isSlot_3 (fun v1 H locs hR hL gv1 hk => ?_)
  obtain ⟨z, hz, hk⟩ := Option.bind_eq_some_iff.mp hk
  cases hk
  exact tw_zret hC hR hL hz rfl dX9_isSlot_6
set_option maxRecDepth 100000 in
theorem kX9_isSlot {l : Launch} {p : Program} {e : Env} {R : Room} {s : State} {m : MethodId} {args : Array Value} {below : List Frame} {meth : Method} {c : Code} {H : Heap} {locs : List Loc} {cells slots : Nat} {Q : State → Prop} {cc : ByteArray} {pc nL idx : Nat} {ls : Array Slot} {rest : List Value} {G : tw_G} {h : tm_H} {own : String} {ret : Option FieldType} {α : Type} {x : α} {sz : Nat} {a1 : Int} (hC : tw_C G p s m args meth c own cc nL ret) (hR : tw_Rel G sz h H) (hL : tw_L G locs) {F : Int → Option α} (hk : (fX9_isSlot a1 h).bind F = some x) (ga1 : tm_rg a1) (hl : tw_mL own idx yX9_isSlot) (hRm : rmX9_isSlot.frames + 1 ≤ R.frames ∧ 8 + (1 + 11) + rmX9_isSlot.locals ≤ R.locals) (hsz : ls.size = nL) (hW : (rest.map fun v => v.category).sum ≤ 8) (hf : cells + 0 ≤ R.cells ∧ slots + 0 ≤ R.slots) (hdg : decode cc pc = .ok (.invokestatic idx, 3)) (kk : ∀ (r : Int) (H1 : Heap) (locs1 : List Loc), tw_Rel G sz h H1 → tw_L G locs1 → tm_rg r → F r = some x → W p l e R s m args below meth c H1 locs1 (cells + 0) (slots + 0) Q (F0 m (pc + 3) ls (.int (tw_I r) :: rest))) : W p l e R s m args below meth c H locs cells slots Q (F0 m pc ls (.int (tw_I a1) :: rest)) := by
  obtain ⟨r, hr, hF⟩ := Option.bind_eq_some_iff.mp hk
  exact tw_backi (tw_runS hC hR (cX9_isSlot_ok l G sz a1 ga1 h r hr) (n := 1) ⟨tw_in_TB 958 (by decide +kernel) rfl, tw_in_TB 62 (by decide +kernel) rfl, by decide +kernel⟩ (tw_in_TB 957 (by decide +kernel) rfl) hl ⟨rfl, rfl⟩ hRm rfl hsz rfl hW hdg hf) hL (fun H1 locs1 a b g => kk r H1 locs1 a b g hF)
def rmX9_take : Room := { frames := 2, cells := 0, slots := 0, locals := 43 }
set_option maxRecDepth 100000 in
set_option maxHeartbeats 4000000 in
theorem sX9_take_S0 {l : Launch} {p : Program} {e : Env} {s : State} {m : MethodId} {args : Array Value} {below : List Frame} {meth : Method} {c : Code} (G : tw_G) (sz : Nat) (hC : tw_C G p s m args meth c RX9 cX9_take 4 (some .int)) (this : Nat) (a1 : Int) (ga1 : tm_rg a1) : ∀ (k : Nat) (st : (Int × Int × tm_H)) (out : Int × tm_H), tm_wit (fX9_take_S0 this a1) k st = some out → match st with
    | (x2, x3, h) => ∀ (H : Heap) (locs : List Loc) (ls : Array Slot), tm_rg x2 → tm_rg x3 → tw_Rel G sz h H → tw_L G locs → lv_has ls 4 [(0, .ref this), (1, .int (tw_I a1)), (2, .int (tw_I x2)), (3, .int (tw_I x3))] → W p l e rmX9_take s m args below meth c H locs 0 0 (MQ below (tw_Qi G sz out.1 out.2) args s 0 0 (tw_F G)) (F0 m 36 ls []) := by
  intro k
  induction k with
  | zero =>
    intro st out hk
    exact absurd hk (by unfold tm_wit; exact fun z => by cases z)
  | succ k ih =>
    intro st out hk
    obtain ⟨X, hk, hf⟩ := tm_wit_succ hk
    obtain ⟨x2, x3, h⟩ := st
    intro H locs ls gx2 gx3 hR hL hl
    dsimp only [fX9_take_S0] at hk
    refine lv_iload_n hC.1 hC.2.1 dX9_take_36 rfl (lv_at hl 3 rfl) ?_
    refine lv_sipush (v := tw_I 246) hC.1 hC.2.1 dX9_take_37 (by decide) ?_
    refine tw_cge (tgt := 68) hC hk gx3 ((tw_rgL rfl)) dX9_take_40 (by decide) (fun _ hk => ?_) (fun _ hk => ?_)
    · refine lv_aload_n hC.1 hC.2.1 dX9_take_43 rfl (lv_at hl 0 rfl) ?_
      refine tw_getR hC hR hk flX9_7 dX9_take_44 (fun r6 hk => ?_)
      refine lv_iload_n hC.1 hC.2.1 dX9_take_47 rfl (lv_at hl 2 rfl) ?_
      refine lv_iconst (v := tw_I 1) hC.1 hC.2.1 dX9_take_48 rfl ?_
      refine tw_iadd hC dX9_take_49 ?_
      refine lv_iload_n hC.1 hC.2.1 dX9_take_50 rfl (lv_at hl 3 rfl) ?_
      refine tw_iadd hC dX9_take_51 ?_
      refine lv_aload_n hC.1 hC.2.1 dX9_take_52 rfl (lv_at hl 0 rfl) ?_
      refine tw_getR hC hR hk flX9_7 dX9_take_53 (fun r7 hk => ?_)
      refine lv_bipush (v := tw_I 61) hC.1 hC.2.1 dX9_take_56 (by decide) ?_
      refine lv_iload_n hC.1 hC.2.1 dX9_take_58 rfl (lv_at hl 3 rfl) ?_
      refine tw_iadd hC dX9_take_59 ?_
      refine tw_iald hC hR hk dX9_take_60 (fun v8 gv8 hk => ?_)
      refine tw_iast hC hR hL gv8 hk dX9_take_61 (fun h9 H locs hR hL hk => ?_)
      refine tw_iinc (lv' := [(3, .int (tw_I (tm_wr (x3 + 1)))), (0, .ref this), (1, .int (tw_I a1)), (2, .int (tw_I x2))]) hC dX9_take_62 hl (k := 3) rfl (by decide) rfl (fun ls hl => ?_)
      refine lv_goto (tgt := 36) hC.1 hC.2.1 dX9_take_65 (by decide) ?_
      cases hk
      exact ih _ out hf H locs _ gx2 ((tm_wr_rg _)) hR hL (lv_sub hl [1, 2, 3, 0] rfl)
    · refine lv_aload_n hC.1 hC.2.1 dX9_take_68 rfl (lv_at hl 0 rfl) ?_
      refine kX9_wordsOfAll hC hR hL hk mlX9_102 ⟨by decide, by decide⟩ hl.1 (Nat.le_of_ble_eq_true rfl) ⟨Nat.zero_le _, Nat.zero_le _⟩ dX9_take_69 (fun v10 H locs hR hL gv10 hk => ?_)
      cases hk
      cases hf
      exact tw_iret hC hR hL gv10 rfl rfl dX9_take_72
theorem sX9_take_L36 {l : Launch} {p : Program} {e : Env} {s : State} {m : MethodId} {args : Array Value} {below : List Frame} {meth : Method} {c : Code} (G : tw_G) (sz : Nat) (hC : tw_C G p s m args meth c RX9 cX9_take 4 (some .int)) (this : Nat) (a1 : Int) (ga1 : tm_rg a1) (x2 : Int) (x3 : Int) (h : tm_H) (gx2 : tm_rg x2) (gx3 : tm_rg x3) (out : Int × tm_H) (hk : fX9_take_L36 this a1 x2 x3 h = some out) (H : Heap) (locs : List Loc) (ls : Array Slot) (hR : tw_Rel G sz h H) (hL : tw_L G locs) (hl : lv_has ls 4 [(0, .ref this), (1, .int (tw_I a1)), (2, .int (tw_I x2)), (3, .int (tw_I x3))]) : W p l e rmX9_take s m args below meth c H locs 0 0 (MQ below (tw_Qi G sz out.1 out.2) args s 0 0 (tw_F G)) (F0 m 36 ls []) := by
  obtain ⟨k, hk⟩ := tm_wl_iff.mp hk
  exact sX9_take_S0 G sz hC this a1 ga1 k ((x2, x3, h)) out hk H locs ls gx2 gx3 hR hL hl
set_option maxRecDepth 100000 in
set_option maxHeartbeats 4000000 in
theorem cX9_take_ok (l : Launch) (G : tw_G) (sz : Nat) (this : Nat) (a1 : Int) (ga1 : tm_rg a1) (h : tm_H) (out : Int × tm_H) (hk : fX9_take this a1 h = some out) : Met l yX9_take (tw_WS yX9_take cX9_take 4 (some .int)) rmX9_take (va_Pc [.ref this, .int (tw_I a1)] (tw_Pre G sz h)) (tw_Qi G sz out.1 out.2) 0 0 (tw_F G) := by
  refine tw_met (by decide +kernel) (Nat.le_of_ble_eq_true rfl) ?_
  intro p e s m args below meth c H ls hC hnm hR hl
  unfold fX9_take at hk
  obtain ⟨hob, hk⟩ := tm_th_is hk
  have hl : lv_has ls 4 [(0, .ref this), (1, .int (tw_I a1))] := hl
  have hL : tw_L G [] := fun q z => by cases z
  generalize hlc : ([] : List Loc) = locs at hL ⊢
  refine lv_iload_n hC.1 hC.2.1 dX9_take_0 rfl (lv_at hl 1 rfl) ?_
  refine kX9_isSlot hC hR hL hk ga1 mlX9_99 ⟨by decide, by decide⟩ hl.1 (Nat.le_of_ble_eq_true rfl) ⟨Nat.zero_le _, Nat.zero_le _⟩ dX9_take_1 (fun v1 H locs hR hL gv1 hk => ?_)
  refine tw_zne (tgt := 9) hC hk gv1 dX9_take_4 (by decide) (fun _ hk => ?_) (fun _ hk => ?_)
  · refine lv_iconst (v := tw_I (-1)) hC.1 hC.2.1 dX9_take_7 rfl ?_
    cases hk
    exact tw_iret hC hR hL ((tw_rgL rfl)) rfl rfl dX9_take_8
  · refine lv_aload_n hC.1 hC.2.1 dX9_take_9 rfl (lv_at hl 0 rfl) ?_
    refine lv_aload_n hC.1 hC.2.1 dX9_take_10 rfl (lv_at hl 0 rfl) ?_
    refine tw_getR hC hR hk flX9_7 dX9_take_11 (fun r2 hk => ?_)
    refine kX9_saves hC hR hL hk mlX9_64 ⟨by decide, by decide⟩ hl.1 (Nat.le_of_ble_eq_true rfl) ⟨Nat.zero_le _, Nat.zero_le _⟩ dX9_take_14 (fun h3 H locs hR hL hk => ?_)
    refine lv_sipush (v := tw_I 380) hC.1 hC.2.1 dX9_take_17 (by decide) ?_
    refine lv_sipush (v := tw_I 247) hC.1 hC.2.1 dX9_take_20 (by decide) ?_
    refine lv_iload_n hC.1 hC.2.1 dX9_take_23 rfl (lv_at hl 1 rfl) ?_
    refine tw_imul hC dX9_take_24 ?_
    refine tw_iadd hC dX9_take_25 ?_
    refine lv_istore_n (lv' := [(2, .int (tw_I (tm_wr (380 + (tm_wr (247 * a1)))))), (0, .ref this), (1, .int (tw_I a1))]) hC.1 hC.2.1 dX9_take_26 rfl hl (by decide) rfl (fun ls hl => ?_)
    refine lv_aload_n hC.1 hC.2.1 dX9_take_27 rfl (lv_at hl 1 rfl) ?_
    refine tw_getR hC hR hk flX9_7 dX9_take_28 (fun r4 hk => ?_)
    refine lv_iload_n hC.1 hC.2.1 dX9_take_31 rfl (lv_at hl 0 rfl) ?_
    refine lv_iconst (v := tw_I 1) hC.1 hC.2.1 dX9_take_32 rfl ?_
    refine tw_iast hC hR hL ((tw_rgL rfl)) hk dX9_take_33 (fun h5 H locs hR hL hk => ?_)
    refine lv_iconst (v := tw_I 0) hC.1 hC.2.1 dX9_take_34 rfl ?_
    refine lv_istore_n (lv' := [(3, .int (tw_I 0)), (2, .int (tw_I (tm_wr (380 + (tm_wr (247 * a1)))))), (0, .ref this), (1, .int (tw_I a1))]) hC.1 hC.2.1 dX9_take_35 rfl hl (by decide) rfl (fun ls hl => ?_)
    exact sX9_take_L36 G sz hC this a1 ga1 (tm_wr (380 + (tm_wr (247 * a1)))) 0 h5 ((tm_wr_rg _)) ((tw_rgL rfl)) out hk H locs _ hR hL (lv_sub hl [2, 3, 1, 0] rfl)
set_option maxRecDepth 100000 in
theorem kX9_take {l : Launch} {p : Program} {e : Env} {R : Room} {s : State} {m : MethodId} {args : Array Value} {below : List Frame} {meth : Method} {c : Code} {H : Heap} {locs : List Loc} {cells slots : Nat} {Q : State → Prop} {cc : ByteArray} {pc nL idx : Nat} {ls : Array Slot} {rest : List Value} {G : tw_G} {h : tm_H} {own : String} {ret : Option FieldType} {α : Type} {x : α} {sz : Nat} {this : Nat} {a1 : Int} (hC : tw_C G p s m args meth c own cc nL ret) (hR : tw_Rel G sz h H) (hL : tw_L G locs) {F : Int × tm_H → Option α} (hk : (fX9_take this a1 h).bind F = some x) (ga1 : tm_rg a1) (hl : tw_mL own idx yX9_take) (hRm : rmX9_take.frames + 1 ≤ R.frames ∧ 8 + (4 + 11) + rmX9_take.locals ≤ R.locals) (hsz : ls.size = nL) (hW : (rest.map fun v => v.category).sum ≤ 8) (hf : cells + 0 ≤ R.cells ∧ slots + 0 ≤ R.slots) (hdg : decode cc pc = .ok (.invokevirtual idx, 3)) (kk : ∀ (r : Int) (h1 : tm_H) (H1 : Heap) (locs1 : List Loc), tw_Rel G sz h1 H1 → tw_L G locs1 → tm_rg r → F (r, h1) = some x → W p l e R s m args below meth c H1 locs1 (cells + 0) (slots + 0) Q (F0 m (pc + 3) ls (.int (tw_I r) :: rest))) : W p l e R s m args below meth c H locs cells slots Q (F0 m pc ls (.int (tw_I a1) :: .ref this :: rest)) := by
  obtain ⟨r, hr, hF⟩ := Option.bind_eq_some_iff.mp hk
  have ob : ∀ r, fX9_take this a1 h = some r → tm_is h 9 this := fun r hr => by
    unfold fX9_take at hr
    exact (tm_th_is hr).1
  exact tw_backi (tw_runV hC hR (cX9_take_ok l G sz this a1 ga1 h r hr) (n := 1) (As := [.int (tw_I a1)]) ⟨tw_in_TB 955 (by decide +kernel) rfl, tw_in_TB 62 (by decide +kernel) rfl, by decide +kernel⟩ (tw_in_TB 953 (by decide +kernel) rfl) (tw_in_TB 954 (by decide +kernel) rfl) hl ⟨rfl, rfl⟩ hRm (ob r hr) (T := TX9) (N := 15) rfl rfl hsz rfl hW hdg hf) hL (fun H1 locs1 a b g => kk r.1 r.2 H1 locs1 a b g hF)
def rmX9_restore : Room := { frames := 2, cells := 0, slots := 0, locals := 43 }
set_option maxRecDepth 100000 in
set_option maxHeartbeats 4000000 in
theorem sX9_restore_S0 {l : Launch} {p : Program} {e : Env} {s : State} {m : MethodId} {args : Array Value} {below : List Frame} {meth : Method} {c : Code} (G : tw_G) (sz : Nat) (hC : tw_C G p s m args meth c RX9 cX9_restore 4 (some .int)) (this : Nat) (a1 : Int) (ga1 : tm_rg a1) : ∀ (k : Nat) (st : (Int × Int × tm_H)) (out : Int × tm_H), tm_wit (fX9_restore_S0 this a1) k st = some out → match st with
    | (x2, x3, h) => ∀ (H : Heap) (locs : List Loc) (ls : Array Slot), tm_rg x2 → tm_rg x3 → tw_Rel G sz h H → tw_L G locs → lv_has ls 4 [(0, .ref this), (1, .int (tw_I a1)), (2, .int (tw_I x2)), (3, .int (tw_I x3))] → W p l e rmX9_restore s m args below meth c H locs 0 0 (MQ below (tw_Qi G sz out.1 out.2) args s 0 0 (tw_F G)) (F0 m 41 ls []) := by
  intro k
  induction k with
  | zero =>
    intro st out hk
    exact absurd hk (by unfold tm_wit; exact fun z => by cases z)
  | succ k ih =>
    intro st out hk
    obtain ⟨X, hk, hf⟩ := tm_wit_succ hk
    obtain ⟨x2, x3, h⟩ := st
    intro H locs ls gx2 gx3 hR hL hl
    dsimp only [fX9_restore_S0] at hk
    refine lv_iload_n hC.1 hC.2.1 dX9_restore_41 rfl (lv_at hl 3 rfl) ?_
    refine lv_sipush (v := tw_I 246) hC.1 hC.2.1 dX9_restore_42 (by decide) ?_
    refine tw_cge (tgt := 73) hC hk gx3 ((tw_rgL rfl)) dX9_restore_45 (by decide) (fun _ hk => ?_) (fun _ hk => ?_)
    · refine lv_aload_n hC.1 hC.2.1 dX9_restore_48 rfl (lv_at hl 0 rfl) ?_
      refine tw_getR hC hR hk flX9_7 dX9_restore_49 (fun r6 hk => ?_)
      refine lv_bipush (v := tw_I 61) hC.1 hC.2.1 dX9_restore_52 (by decide) ?_
      refine lv_iload_n hC.1 hC.2.1 dX9_restore_54 rfl (lv_at hl 3 rfl) ?_
      refine tw_iadd hC dX9_restore_55 ?_
      refine lv_aload_n hC.1 hC.2.1 dX9_restore_56 rfl (lv_at hl 0 rfl) ?_
      refine tw_getR hC hR hk flX9_7 dX9_restore_57 (fun r7 hk => ?_)
      refine lv_iload_n hC.1 hC.2.1 dX9_restore_60 rfl (lv_at hl 2 rfl) ?_
      refine lv_iconst (v := tw_I 1) hC.1 hC.2.1 dX9_restore_61 rfl ?_
      refine tw_iadd hC dX9_restore_62 ?_
      refine lv_iload_n hC.1 hC.2.1 dX9_restore_63 rfl (lv_at hl 3 rfl) ?_
      refine tw_iadd hC dX9_restore_64 ?_
      refine tw_iald hC hR hk dX9_restore_65 (fun v8 gv8 hk => ?_)
      refine tw_iast hC hR hL gv8 hk dX9_restore_66 (fun h9 H locs hR hL hk => ?_)
      refine tw_iinc (lv' := [(3, .int (tw_I (tm_wr (x3 + 1)))), (0, .ref this), (1, .int (tw_I a1)), (2, .int (tw_I x2))]) hC dX9_restore_67 hl (k := 3) rfl (by decide) rfl (fun ls hl => ?_)
      refine lv_goto (tgt := 41) hC.1 hC.2.1 dX9_restore_70 (by decide) ?_
      cases hk
      exact ih _ out hf H locs _ gx2 ((tm_wr_rg _)) hR hL (lv_sub hl [1, 2, 3, 0] rfl)
    · refine lv_aload_n hC.1 hC.2.1 dX9_restore_73 rfl (lv_at hl 0 rfl) ?_
      refine kX9_wordsOfAll hC hR hL hk mlX9_102 ⟨by decide, by decide⟩ hl.1 (Nat.le_of_ble_eq_true rfl) ⟨Nat.zero_le _, Nat.zero_le _⟩ dX9_restore_74 (fun v10 H locs hR hL gv10 hk => ?_)
      cases hk
      cases hf
      exact tw_iret hC hR hL gv10 rfl rfl dX9_restore_77
theorem sX9_restore_L41 {l : Launch} {p : Program} {e : Env} {s : State} {m : MethodId} {args : Array Value} {below : List Frame} {meth : Method} {c : Code} (G : tw_G) (sz : Nat) (hC : tw_C G p s m args meth c RX9 cX9_restore 4 (some .int)) (this : Nat) (a1 : Int) (ga1 : tm_rg a1) (x2 : Int) (x3 : Int) (h : tm_H) (gx2 : tm_rg x2) (gx3 : tm_rg x3) (out : Int × tm_H) (hk : fX9_restore_L41 this a1 x2 x3 h = some out) (H : Heap) (locs : List Loc) (ls : Array Slot) (hR : tw_Rel G sz h H) (hL : tw_L G locs) (hl : lv_has ls 4 [(0, .ref this), (1, .int (tw_I a1)), (2, .int (tw_I x2)), (3, .int (tw_I x3))]) : W p l e rmX9_restore s m args below meth c H locs 0 0 (MQ below (tw_Qi G sz out.1 out.2) args s 0 0 (tw_F G)) (F0 m 41 ls []) := by
  obtain ⟨k, hk⟩ := tm_wl_iff.mp hk
  exact sX9_restore_S0 G sz hC this a1 ga1 k ((x2, x3, h)) out hk H locs ls gx2 gx3 hR hL hl
set_option maxRecDepth 100000 in
set_option maxHeartbeats 4000000 in
theorem cX9_restore_ok (l : Launch) (G : tw_G) (sz : Nat) (this : Nat) (a1 : Int) (ga1 : tm_rg a1) (h : tm_H) (out : Int × tm_H) (hk : fX9_restore this a1 h = some out) : Met l yX9_restore (tw_WS yX9_restore cX9_restore 4 (some .int)) rmX9_restore (va_Pc [.ref this, .int (tw_I a1)] (tw_Pre G sz h)) (tw_Qi G sz out.1 out.2) 0 0 (tw_F G) := by
  refine tw_met (by decide +kernel) (Nat.le_of_ble_eq_true rfl) ?_
  intro p e s m args below meth c H ls hC hnm hR hl
  unfold fX9_restore at hk
  obtain ⟨hob, hk⟩ := tm_th_is hk
  have hl : lv_has ls 4 [(0, .ref this), (1, .int (tw_I a1))] := hl
  have hL : tw_L G [] := fun q z => by cases z
  generalize hlc : ([] : List Loc) = locs at hL ⊢
  refine lv_iload_n hC.1 hC.2.1 dX9_restore_0 rfl (lv_at hl 1 rfl) ?_
  refine kX9_isSlot hC hR hL hk ga1 mlX9_99 ⟨by decide, by decide⟩ hl.1 (Nat.le_of_ble_eq_true rfl) ⟨Nat.zero_le _, Nat.zero_le _⟩ dX9_restore_1 (fun v1 H locs hR hL gv1 hk => ?_)
  refine tw_zne (tgt := 9) hC hk gv1 dX9_restore_4 (by decide) (fun _ hk => ?_) (fun _ hk => ?_)
  · refine lv_iconst (v := tw_I (-1)) hC.1 hC.2.1 dX9_restore_7 rfl ?_
    cases hk
    exact tw_iret hC hR hL ((tw_rgL rfl)) rfl rfl dX9_restore_8
  · refine lv_sipush (v := tw_I 380) hC.1 hC.2.1 dX9_restore_9 (by decide) ?_
    refine lv_sipush (v := tw_I 247) hC.1 hC.2.1 dX9_restore_12 (by decide) ?_
    refine lv_iload_n hC.1 hC.2.1 dX9_restore_15 rfl (lv_at hl 1 rfl) ?_
    refine tw_imul hC dX9_restore_16 ?_
    refine tw_iadd hC dX9_restore_17 ?_
    refine lv_istore_n (lv' := [(2, .int (tw_I (tm_wr (380 + (tm_wr (247 * a1)))))), (0, .ref this), (1, .int (tw_I a1))]) hC.1 hC.2.1 dX9_restore_18 rfl hl (by decide) rfl (fun ls hl => ?_)
    refine lv_aload_n hC.1 hC.2.1 dX9_restore_19 rfl (lv_at hl 1 rfl) ?_
    refine tw_getR hC hR hk flX9_7 dX9_restore_20 (fun r2 hk => ?_)
    refine lv_iload_n hC.1 hC.2.1 dX9_restore_23 rfl (lv_at hl 0 rfl) ?_
    refine tw_iald hC hR hk dX9_restore_24 (fun v3 gv3 hk => ?_)
    refine tw_zne (tgt := 31) hC hk gv3 dX9_restore_25 (by decide) (fun _ hk => ?_) (fun _ hk => ?_)
    · refine lv_bipush (v := tw_I (-2)) hC.1 hC.2.1 dX9_restore_28 (by decide) ?_
      cases hk
      exact tw_iret hC hR hL ((tw_rgL rfl)) rfl rfl dX9_restore_30
    · refine lv_aload_n hC.1 hC.2.1 dX9_restore_31 rfl (lv_at hl 1 rfl) ?_
      refine lv_aload_n hC.1 hC.2.1 dX9_restore_32 rfl (lv_at hl 1 rfl) ?_
      refine tw_getR hC hR hk flX9_7 dX9_restore_33 (fun r4 hk => ?_)
      refine kX9_saves hC hR hL hk mlX9_64 ⟨by decide, by decide⟩ hl.1 (Nat.le_of_ble_eq_true rfl) ⟨Nat.zero_le _, Nat.zero_le _⟩ dX9_restore_36 (fun h5 H locs hR hL hk => ?_)
      refine lv_iconst (v := tw_I 0) hC.1 hC.2.1 dX9_restore_39 rfl ?_
      refine lv_istore_n (lv' := [(3, .int (tw_I 0)), (2, .int (tw_I (tm_wr (380 + (tm_wr (247 * a1)))))), (0, .ref this), (1, .int (tw_I a1))]) hC.1 hC.2.1 dX9_restore_40 rfl hl (by decide) rfl (fun ls hl => ?_)
      exact sX9_restore_L41 G sz hC this a1 ga1 (tm_wr (380 + (tm_wr (247 * a1)))) 0 h5 ((tm_wr_rg _)) ((tw_rgL rfl)) out hk H locs _ hR hL (lv_sub hl [2, 3, 1, 0] rfl)
set_option maxRecDepth 100000 in
theorem kX9_restore {l : Launch} {p : Program} {e : Env} {R : Room} {s : State} {m : MethodId} {args : Array Value} {below : List Frame} {meth : Method} {c : Code} {H : Heap} {locs : List Loc} {cells slots : Nat} {Q : State → Prop} {cc : ByteArray} {pc nL idx : Nat} {ls : Array Slot} {rest : List Value} {G : tw_G} {h : tm_H} {own : String} {ret : Option FieldType} {α : Type} {x : α} {sz : Nat} {this : Nat} {a1 : Int} (hC : tw_C G p s m args meth c own cc nL ret) (hR : tw_Rel G sz h H) (hL : tw_L G locs) {F : Int × tm_H → Option α} (hk : (fX9_restore this a1 h).bind F = some x) (ga1 : tm_rg a1) (hl : tw_mL own idx yX9_restore) (hRm : rmX9_restore.frames + 1 ≤ R.frames ∧ 8 + (4 + 11) + rmX9_restore.locals ≤ R.locals) (hsz : ls.size = nL) (hW : (rest.map fun v => v.category).sum ≤ 8) (hf : cells + 0 ≤ R.cells ∧ slots + 0 ≤ R.slots) (hdg : decode cc pc = .ok (.invokevirtual idx, 3)) (kk : ∀ (r : Int) (h1 : tm_H) (H1 : Heap) (locs1 : List Loc), tw_Rel G sz h1 H1 → tw_L G locs1 → tm_rg r → F (r, h1) = some x → W p l e R s m args below meth c H1 locs1 (cells + 0) (slots + 0) Q (F0 m (pc + 3) ls (.int (tw_I r) :: rest))) : W p l e R s m args below meth c H locs cells slots Q (F0 m pc ls (.int (tw_I a1) :: .ref this :: rest)) := by
  obtain ⟨r, hr, hF⟩ := Option.bind_eq_some_iff.mp hk
  have ob : ∀ r, fX9_restore this a1 h = some r → tm_is h 9 this := fun r hr => by
    unfold fX9_restore at hr
    exact (tm_th_is hr).1
  exact tw_backi (tw_runV hC hR (cX9_restore_ok l G sz this a1 ga1 h r hr) (n := 1) (As := [.int (tw_I a1)]) ⟨tw_in_TB 966 (by decide +kernel) rfl, tw_in_TB 62 (by decide +kernel) rfl, by decide +kernel⟩ (tw_in_TB 964 (by decide +kernel) rfl) (tw_in_TB 965 (by decide +kernel) rfl) hl ⟨rfl, rfl⟩ hRm (ob r hr) (T := TX9) (N := 15) rfl rfl hsz rfl hW hdg hf) hL (fun H1 locs1 a b g => kk r.1 r.2 H1 locs1 a b g hF)
def rmX9_reads : Room := { frames := 5, cells := 0, slots := 0, locals := 124 }
set_option maxRecDepth 100000 in
set_option maxHeartbeats 4000000 in
theorem cX9_reads_ok (l : Launch) (G : tw_G) (sz : Nat) (this : Nat) (a1 : Int) (ga1 : tm_rg a1) (h : tm_H) (out : Int × tm_H) (hk : fX9_reads this a1 h = some out) : Met l yX9_reads (tw_WS yX9_reads cX9_reads 2 (some .int)) rmX9_reads (va_Pc [.ref this, .int (tw_I a1)] (tw_Pre G sz h)) (tw_Qi G sz out.1 out.2) 0 0 (tw_F G) := by
  refine tw_met (by decide +kernel) (Nat.le_of_ble_eq_true rfl) ?_
  intro p e s m args below meth c H ls hC hnm hR hl
  unfold fX9_reads at hk
  obtain ⟨hob, hk⟩ := tm_th_is hk
  have hl : lv_has ls 2 [(0, .ref this), (1, .int (tw_I a1))] := hl
  have hL : tw_L G [] := fun q z => by cases z
  generalize hlc : ([] : List Loc) = locs at hL ⊢
  refine lv_aload_n hC.1 hC.2.1 dX9_reads_0 rfl (lv_at hl 0 rfl) ?_
  refine lv_iload_n hC.1 hC.2.1 dX9_reads_1 rfl (lv_at hl 1 rfl) ?_
  refine lv_iconst (v := tw_I (-1)) hC.1 hC.2.1 dX9_reads_2 rfl ?_
  refine lv_iconst (v := tw_I 0) hC.1 hC.2.1 dX9_reads_3 rfl ?_
  refine kX9_readsBy hC hR hL hk ga1 ((tw_rgL rfl)) ((tw_rgL rfl)) mlX9_118 ⟨by decide, by decide⟩ hl.1 (Nat.le_of_ble_eq_true rfl) ⟨Nat.zero_le _, Nat.zero_le _⟩ dX9_reads_4 (fun v1 h1 H locs hR hL gv1 hk => ?_)
  cases hk
  exact tw_iret hC hR hL gv1 rfl rfl dX9_reads_7
set_option maxRecDepth 100000 in
theorem kX9_reads {l : Launch} {p : Program} {e : Env} {R : Room} {s : State} {m : MethodId} {args : Array Value} {below : List Frame} {meth : Method} {c : Code} {H : Heap} {locs : List Loc} {cells slots : Nat} {Q : State → Prop} {cc : ByteArray} {pc nL idx : Nat} {ls : Array Slot} {rest : List Value} {G : tw_G} {h : tm_H} {own : String} {ret : Option FieldType} {α : Type} {x : α} {sz : Nat} {this : Nat} {a1 : Int} (hC : tw_C G p s m args meth c own cc nL ret) (hR : tw_Rel G sz h H) (hL : tw_L G locs) {F : Int × tm_H → Option α} (hk : (fX9_reads this a1 h).bind F = some x) (ga1 : tm_rg a1) (hl : tw_mL own idx yX9_reads) (hRm : rmX9_reads.frames + 1 ≤ R.frames ∧ 8 + (2 + 11) + rmX9_reads.locals ≤ R.locals) (hsz : ls.size = nL) (hW : (rest.map fun v => v.category).sum ≤ 8) (hf : cells + 0 ≤ R.cells ∧ slots + 0 ≤ R.slots) (hdg : decode cc pc = .ok (.invokevirtual idx, 3)) (kk : ∀ (r : Int) (h1 : tm_H) (H1 : Heap) (locs1 : List Loc), tw_Rel G sz h1 H1 → tw_L G locs1 → tm_rg r → F (r, h1) = some x → W p l e R s m args below meth c H1 locs1 (cells + 0) (slots + 0) Q (F0 m (pc + 3) ls (.int (tw_I r) :: rest))) : W p l e R s m args below meth c H locs cells slots Q (F0 m pc ls (.int (tw_I a1) :: .ref this :: rest)) := by
  obtain ⟨r, hr, hF⟩ := Option.bind_eq_some_iff.mp hk
  have ob : ∀ r, fX9_reads this a1 h = some r → tm_is h 9 this := fun r hr => by
    unfold fX9_reads at hr
    exact (tm_th_is hr).1
  exact tw_backi (tw_runV hC hR (cX9_reads_ok l G sz this a1 ga1 h r hr) (n := 1) (As := [.int (tw_I a1)]) ⟨tw_in_TB 1038 (by decide +kernel) rfl, tw_in_TB 62 (by decide +kernel) rfl, by decide +kernel⟩ (tw_in_TB 1037 (by decide +kernel) rfl) (tw_in_TB 47 (by decide +kernel) rfl) hl ⟨rfl, rfl⟩ hRm (ob r hr) (T := TX9) (N := 15) rfl rfl hsz rfl hW hdg hf) hL (fun H1 locs1 a b g => kk r.1 r.2 H1 locs1 a b g hF)
def rmX9_readings : Room := { frames := 6, cells := 0, slots := 0, locals := 145 }
set_option maxRecDepth 100000 in
set_option maxHeartbeats 4000000 in
theorem sX9_readings_S0 {l : Launch} {p : Program} {e : Env} {s : State} {m : MethodId} {args : Array Value} {below : List Frame} {meth : Method} {c : Code} (G : tw_G) (sz : Nat) (hC : tw_C G p s m args meth c RX9 cX9_readings 6 (some .int)) (this : Nat) (a1 : Int) (ga1 : tm_rg a1) : ∀ (k : Nat) (st : (Int × Int × tm_H) ⊕ (Int × Int × Int × Int × tm_H) ⊕ (Int × Int × Int × Int × tm_H) ⊕ (Int × Int × Int × Int × tm_H) ⊕ (Int × Int × Int × Int × Int × tm_H) ⊕ (Int × Int × tm_H)) (out : Int × tm_H), tm_wit (fX9_readings_S0 this a1) k st = some out → match st with
    | .inl ((x2, x3, h)) => ∀ (H : Heap) (locs : List Loc) (ls : Array Slot), tm_rg x2 → tm_rg x3 → tw_Rel G sz h H → tw_L G locs → lv_has ls 6 [(0, .ref this), (1, .int (tw_I a1)), (2, .int (tw_I x2)), (3, .int (tw_I x3))] → W p l e rmX9_readings s m args below meth c H locs 0 0 (MQ below (tw_Qi G sz out.1 out.2) args s 0 0 (tw_F G)) (F0 m 4 ls [])
    | .inr (.inl ((x2, x3, x4, x5, h))) => ∀ (H : Heap) (locs : List Loc) (ls : Array Slot), tm_rg x2 → tm_rg x3 → tm_rg x4 → tm_rg x5 → tw_Rel G sz h H → tw_L G locs → lv_has ls 6 [(0, .ref this), (1, .int (tw_I a1)), (2, .int (tw_I x2)), (3, .int (tw_I x3)), (4, .int (tw_I x4)), (5, .int (tw_I x5))] → W p l e rmX9_readings s m args below meth c H locs 0 0 (MQ below (tw_Qi G sz out.1 out.2) args s 0 0 (tw_F G)) (F0 m 20 ls [])
    | .inr (.inr (.inl ((x3, x4, x5, s0, h)))) => ∀ (H : Heap) (locs : List Loc) (ls : Array Slot), tm_rg x3 → tm_rg x4 → tm_rg x5 → tm_rg s0 → tw_Rel G sz h H → tw_L G locs → lv_has ls 6 [(0, .ref this), (1, .int (tw_I a1)), (3, .int (tw_I x3)), (4, .int (tw_I x4)), (5, .int (tw_I x5))] → W p l e rmX9_readings s m args below meth c H locs 0 0 (MQ below (tw_Qi G sz out.1 out.2) args s 0 0 (tw_F G)) (F0 m 60 ls [.int (tw_I s0)])
    | .inr (.inr (.inr (.inl ((x3, x4, x5, s0, h))))) => ∀ (H : Heap) (locs : List Loc) (ls : Array Slot), tm_rg x3 → tm_rg x4 → tm_rg x5 → tm_rg s0 → tw_Rel G sz h H → tw_L G locs → lv_has ls 6 [(0, .ref this), (1, .int (tw_I a1)), (3, .int (tw_I x3)), (4, .int (tw_I x4)), (5, .int (tw_I x5))] → W p l e rmX9_readings s m args below meth c H locs 0 0 (MQ below (tw_Qi G sz out.1 out.2) args s 0 0 (tw_F G)) (F0 m 64 ls [.int (tw_I s0)])
    | .inr (.inr (.inr (.inr (.inl ((x3, x4, x5, s0, s1, h)))))) => ∀ (H : Heap) (locs : List Loc) (ls : Array Slot), tm_rg x3 → tm_rg x4 → tm_rg x5 → tm_rg s0 → tm_rg s1 → tw_Rel G sz h H → tw_L G locs → lv_has ls 6 [(0, .ref this), (1, .int (tw_I a1)), (3, .int (tw_I x3)), (4, .int (tw_I x4)), (5, .int (tw_I x5))] → W p l e rmX9_readings s m args below meth c H locs 0 0 (MQ below (tw_Qi G sz out.1 out.2) args s 0 0 (tw_F G)) (F0 m 65 ls [.int (tw_I s1), .int (tw_I s0)])
    | .inr (.inr (.inr (.inr (.inr ((x2, x3, h)))))) => ∀ (H : Heap) (locs : List Loc) (ls : Array Slot), tm_rg x2 → tm_rg x3 → tw_Rel G sz h H → tw_L G locs → lv_has ls 6 [(0, .ref this), (1, .int (tw_I a1)), (2, .int (tw_I x2)), (3, .int (tw_I x3))] → W p l e rmX9_readings s m args below meth c H locs 0 0 (MQ below (tw_Qi G sz out.1 out.2) args s 0 0 (tw_F G)) (F0 m 73 ls []) := by
  intro k
  induction k with
  | zero =>
    intro st out hk
    exact absurd hk (by unfold tm_wit; exact fun z => by cases z)
  | succ k ih =>
    intro st out hk
    obtain ⟨X, hk, hf⟩ := tm_wit_succ hk
    obtain ⟨x2, x3, h⟩ | ⟨x2, x3, x4, x5, h⟩ | ⟨x3, x4, x5, s0, h⟩ | ⟨x3, x4, x5, s0, h⟩ | ⟨x3, x4, x5, s0, s1, h⟩ | ⟨x2, x3, h⟩ := st
    · intro H locs ls gx2 gx3 hR hL hl
      dsimp only [fX9_readings_S0] at hk
      refine lv_iload_n hC.1 hC.2.1 dX9_readings_4 rfl (lv_at hl 3 rfl) ?_
      refine lv_bipush (v := tw_I 6) hC.1 hC.2.1 dX9_readings_5 (by decide) ?_
      refine tw_cge (tgt := 79) hC hk gx3 ((tw_rgL rfl)) dX9_readings_7 (by decide) (fun _ hk => ?_) (fun _ hk => ?_)
      · refine lv_aload_n hC.1 hC.2.1 dX9_readings_10 rfl (lv_at hl 0 rfl) ?_
        refine lv_iload_n hC.1 hC.2.1 dX9_readings_11 rfl (lv_at hl 3 rfl) ?_
        refine kX9_reads hC hR hL hk gx3 mlX9_122 ⟨by decide, by decide⟩ hl.1 (Nat.le_of_ble_eq_true rfl) ⟨Nat.zero_le _, Nat.zero_le _⟩ dX9_readings_12 (fun v1 h1 H locs hR hL gv1 hk => ?_)
        refine lv_istore (lv' := [(4, .int (tw_I v1)), (0, .ref this), (1, .int (tw_I a1)), (2, .int (tw_I x2)), (3, .int (tw_I x3))]) hC.1 hC.2.1 dX9_readings_15 hl (by decide) rfl (fun ls hl => ?_)
        refine lv_iconst (v := tw_I 0) hC.1 hC.2.1 dX9_readings_17 rfl ?_
        refine lv_istore (lv' := [(5, .int (tw_I 0)), (4, .int (tw_I v1)), (0, .ref this), (1, .int (tw_I a1)), (2, .int (tw_I x2)), (3, .int (tw_I x3))]) hC.1 hC.2.1 dX9_readings_18 hl (by decide) rfl (fun ls hl => ?_)
        cases hk
        exact ih _ out hf H locs _ gx2 gx3 gv1 ((tw_rgL rfl)) hR hL (lv_sub hl [2, 3, 4, 5, 1, 0] rfl)
      · refine lv_iload_n hC.1 hC.2.1 dX9_readings_79 rfl (lv_at hl 2 rfl) ?_
        cases hk
        cases hf
        exact tw_iret hC hR hL gx2 rfl rfl dX9_readings_80
    · intro H locs ls gx2 gx3 gx4 gx5 hR hL hl
      dsimp only [fX9_readings_S0] at hk
      refine lv_iload hC.1 hC.2.1 dX9_readings_20 (lv_at hl 5 rfl) ?_
      refine lv_bipush (v := tw_I 40) hC.1 hC.2.1 dX9_readings_22 (by decide) ?_
      refine tw_cge (tgt := 73) hC hk gx5 ((tw_rgL rfl)) dX9_readings_24 (by decide) (fun _ hk => ?_) (fun _ hk => ?_)
      · refine lv_iload hC.1 hC.2.1 dX9_readings_27 (lv_at hl 4 rfl) ?_
        refine tw_zlt (tgt := 73) hC hk gx4 dX9_readings_29 (by decide) (fun _ hk => ?_) (fun _ hk => ?_)
        · cases hk
          exact ih _ out hf H locs _ gx2 gx3 hR hL (lv_sub hl [0, 1, 2, 3] rfl)
        · refine lv_iload_n hC.1 hC.2.1 dX9_readings_32 rfl (lv_at hl 2 rfl) ?_
          refine lv_aload_n hC.1 hC.2.1 dX9_readings_33 rfl (lv_at hl 0 rfl) ?_
          refine tw_getR hC hR hk flX9_31 dX9_readings_34 (fun r2 hk => ?_)
          refine lv_iload hC.1 hC.2.1 dX9_readings_37 (lv_at hl 5 rfl) ?_
          refine tw_iald hC hR hk dX9_readings_39 (fun v3 gv3 hk => ?_)
          refine tw_zne (tgt := 64) hC hk gv3 dX9_readings_40 (by decide) (fun _ hk => ?_) (fun _ hk => ?_)
          · refine lv_iload_n hC.1 hC.2.1 dX9_readings_43 rfl (lv_at hl 1 rfl) ?_
            refine lv_bipush (v := tw_I (-99)) hC.1 hC.2.1 dX9_readings_44 (by decide) ?_
            refine tw_ceq (tgt := 60) hC hk ga1 ((tw_rgL rfl)) dX9_readings_46 (by decide) (fun _ hk => ?_) (fun _ hk => ?_)
            · cases hk
              exact ih _ out hf H locs _ gx3 gx4 gx5 gx2 hR hL (lv_sub hl [0, 1, 3, 4, 5] rfl)
            · refine lv_aload_n hC.1 hC.2.1 dX9_readings_49 rfl (lv_at hl 0 rfl) ?_
              refine tw_getR hC hR hk flX9_28 dX9_readings_50 (fun r4 hk => ?_)
              refine lv_iload hC.1 hC.2.1 dX9_readings_53 (lv_at hl 5 rfl) ?_
              refine tw_iald hC hR hk dX9_readings_55 (fun v5 gv5 hk => ?_)
              refine lv_iload_n hC.1 hC.2.1 dX9_readings_56 rfl (lv_at hl 1 rfl) ?_
              refine tw_cne (tgt := 64) hC hk gv5 ga1 dX9_readings_57 (by decide) (fun _ hk => ?_) (fun _ hk => ?_)
              · cases hk
                exact ih _ out hf H locs _ gx3 gx4 gx5 gx2 hR hL (lv_sub hl [0, 1, 3, 4, 5] rfl)
              · cases hk
                exact ih _ out hf H locs _ gx3 gx4 gx5 gx2 hR hL (lv_sub hl [0, 1, 3, 4, 5] rfl)
          · cases hk
            exact ih _ out hf H locs _ gx3 gx4 gx5 gx2 hR hL (lv_sub hl [0, 1, 3, 4, 5] rfl)
      · cases hk
        exact ih _ out hf H locs _ gx2 gx3 hR hL (lv_sub hl [0, 1, 2, 3] rfl)
    · intro H locs ls gx3 gx4 gx5 gs0 hR hL hl
      dsimp only [fX9_readings_S0] at hk
      refine lv_iconst (v := tw_I 1) hC.1 hC.2.1 dX9_readings_60 rfl ?_
      refine lv_goto (tgt := 65) hC.1 hC.2.1 dX9_readings_61 (by decide) ?_
      cases hk
      exact ih _ out hf H locs _ gx3 gx4 gx5 gs0 ((tw_rgL rfl)) hR hL (lv_sub hl [0, 1, 2, 3, 4] rfl)
    · intro H locs ls gx3 gx4 gx5 gs0 hR hL hl
      dsimp only [fX9_readings_S0] at hk
      refine lv_iconst (v := tw_I 0) hC.1 hC.2.1 dX9_readings_64 rfl ?_
      cases hk
      exact ih _ out hf H locs _ gx3 gx4 gx5 gs0 ((tw_rgL rfl)) hR hL (lv_sub hl [0, 1, 2, 3, 4] rfl)
    · intro H locs ls gx3 gx4 gx5 gs0 gs1 hR hL hl
      dsimp only [fX9_readings_S0] at hk
      refine tw_iadd hC dX9_readings_65 ?_
      refine lv_istore_n (lv' := [(2, .int (tw_I (tm_wr (s0 + s1)))), (0, .ref this), (1, .int (tw_I a1)), (3, .int (tw_I x3)), (4, .int (tw_I x4)), (5, .int (tw_I x5))]) hC.1 hC.2.1 dX9_readings_66 rfl hl (by decide) rfl (fun ls hl => ?_)
      refine tw_iinc (lv' := [(5, .int (tw_I (tm_wr (x5 + 1)))), (2, .int (tw_I (tm_wr (s0 + s1)))), (0, .ref this), (1, .int (tw_I a1)), (3, .int (tw_I x3)), (4, .int (tw_I x4))]) hC dX9_readings_67 hl (k := 5) rfl (by decide) rfl (fun ls hl => ?_)
      refine lv_goto (tgt := 20) hC.1 hC.2.1 dX9_readings_70 (by decide) ?_
      cases hk
      exact ih _ out hf H locs _ ((tm_wr_rg _)) gx3 gx4 ((tm_wr_rg _)) hR hL (lv_sub hl [2, 3, 1, 4, 5, 0] rfl)
    · intro H locs ls gx2 gx3 hR hL hl
      dsimp only [fX9_readings_S0] at hk
      refine tw_iinc (lv' := [(3, .int (tw_I (tm_wr (x3 + 1)))), (0, .ref this), (1, .int (tw_I a1)), (2, .int (tw_I x2))]) hC dX9_readings_73 hl (k := 3) rfl (by decide) rfl (fun ls hl => ?_)
      refine lv_goto (tgt := 4) hC.1 hC.2.1 dX9_readings_76 (by decide) ?_
      cases hk
      exact ih _ out hf H locs _ gx2 ((tm_wr_rg _)) hR hL (lv_sub hl [1, 2, 3, 0] rfl)
theorem sX9_readings_L4 {l : Launch} {p : Program} {e : Env} {s : State} {m : MethodId} {args : Array Value} {below : List Frame} {meth : Method} {c : Code} (G : tw_G) (sz : Nat) (hC : tw_C G p s m args meth c RX9 cX9_readings 6 (some .int)) (this : Nat) (a1 : Int) (ga1 : tm_rg a1) (x2 : Int) (x3 : Int) (h : tm_H) (gx2 : tm_rg x2) (gx3 : tm_rg x3) (out : Int × tm_H) (hk : fX9_readings_L4 this a1 x2 x3 h = some out) (H : Heap) (locs : List Loc) (ls : Array Slot) (hR : tw_Rel G sz h H) (hL : tw_L G locs) (hl : lv_has ls 6 [(0, .ref this), (1, .int (tw_I a1)), (2, .int (tw_I x2)), (3, .int (tw_I x3))]) : W p l e rmX9_readings s m args below meth c H locs 0 0 (MQ below (tw_Qi G sz out.1 out.2) args s 0 0 (tw_F G)) (F0 m 4 ls []) := by
  obtain ⟨k, hk⟩ := tm_wl_iff.mp hk
  exact sX9_readings_S0 G sz hC this a1 ga1 k (.inl ((x2, x3, h))) out hk H locs ls gx2 gx3 hR hL hl
theorem sX9_readings_L20 {l : Launch} {p : Program} {e : Env} {s : State} {m : MethodId} {args : Array Value} {below : List Frame} {meth : Method} {c : Code} (G : tw_G) (sz : Nat) (hC : tw_C G p s m args meth c RX9 cX9_readings 6 (some .int)) (this : Nat) (a1 : Int) (ga1 : tm_rg a1) (x2 : Int) (x3 : Int) (x4 : Int) (x5 : Int) (h : tm_H) (gx2 : tm_rg x2) (gx3 : tm_rg x3) (gx4 : tm_rg x4) (gx5 : tm_rg x5) (out : Int × tm_H) (hk : fX9_readings_L20 this a1 x2 x3 x4 x5 h = some out) (H : Heap) (locs : List Loc) (ls : Array Slot) (hR : tw_Rel G sz h H) (hL : tw_L G locs) (hl : lv_has ls 6 [(0, .ref this), (1, .int (tw_I a1)), (2, .int (tw_I x2)), (3, .int (tw_I x3)), (4, .int (tw_I x4)), (5, .int (tw_I x5))]) : W p l e rmX9_readings s m args below meth c H locs 0 0 (MQ below (tw_Qi G sz out.1 out.2) args s 0 0 (tw_F G)) (F0 m 20 ls []) := by
  obtain ⟨k, hk⟩ := tm_wl_iff.mp hk
  exact sX9_readings_S0 G sz hC this a1 ga1 k (.inr (.inl ((x2, x3, x4, x5, h)))) out hk H locs ls gx2 gx3 gx4 gx5 hR hL hl
theorem sX9_readings_L60 {l : Launch} {p : Program} {e : Env} {s : State} {m : MethodId} {args : Array Value} {below : List Frame} {meth : Method} {c : Code} (G : tw_G) (sz : Nat) (hC : tw_C G p s m args meth c RX9 cX9_readings 6 (some .int)) (this : Nat) (a1 : Int) (ga1 : tm_rg a1) (x3 : Int) (x4 : Int) (x5 : Int) (s0 : Int) (h : tm_H) (gx3 : tm_rg x3) (gx4 : tm_rg x4) (gx5 : tm_rg x5) (gs0 : tm_rg s0) (out : Int × tm_H) (hk : fX9_readings_L60 this a1 x3 x4 x5 s0 h = some out) (H : Heap) (locs : List Loc) (ls : Array Slot) (hR : tw_Rel G sz h H) (hL : tw_L G locs) (hl : lv_has ls 6 [(0, .ref this), (1, .int (tw_I a1)), (3, .int (tw_I x3)), (4, .int (tw_I x4)), (5, .int (tw_I x5))]) : W p l e rmX9_readings s m args below meth c H locs 0 0 (MQ below (tw_Qi G sz out.1 out.2) args s 0 0 (tw_F G)) (F0 m 60 ls [.int (tw_I s0)]) := by
  obtain ⟨k, hk⟩ := tm_wl_iff.mp hk
  exact sX9_readings_S0 G sz hC this a1 ga1 k (.inr (.inr (.inl ((x3, x4, x5, s0, h))))) out hk H locs ls gx3 gx4 gx5 gs0 hR hL hl
theorem sX9_readings_L64 {l : Launch} {p : Program} {e : Env} {s : State} {m : MethodId} {args : Array Value} {below : List Frame} {meth : Method} {c : Code} (G : tw_G) (sz : Nat) (hC : tw_C G p s m args meth c RX9 cX9_readings 6 (some .int)) (this : Nat) (a1 : Int) (ga1 : tm_rg a1) (x3 : Int) (x4 : Int) (x5 : Int) (s0 : Int) (h : tm_H) (gx3 : tm_rg x3) (gx4 : tm_rg x4) (gx5 : tm_rg x5) (gs0 : tm_rg s0) (out : Int × tm_H) (hk : fX9_readings_L64 this a1 x3 x4 x5 s0 h = some out) (H : Heap) (locs : List Loc) (ls : Array Slot) (hR : tw_Rel G sz h H) (hL : tw_L G locs) (hl : lv_has ls 6 [(0, .ref this), (1, .int (tw_I a1)), (3, .int (tw_I x3)), (4, .int (tw_I x4)), (5, .int (tw_I x5))]) : W p l e rmX9_readings s m args below meth c H locs 0 0 (MQ below (tw_Qi G sz out.1 out.2) args s 0 0 (tw_F G)) (F0 m 64 ls [.int (tw_I s0)]) := by
  obtain ⟨k, hk⟩ := tm_wl_iff.mp hk
  exact sX9_readings_S0 G sz hC this a1 ga1 k (.inr (.inr (.inr (.inl ((x3, x4, x5, s0, h)))))) out hk H locs ls gx3 gx4 gx5 gs0 hR hL hl
theorem sX9_readings_L65 {l : Launch} {p : Program} {e : Env} {s : State} {m : MethodId} {args : Array Value} {below : List Frame} {meth : Method} {c : Code} (G : tw_G) (sz : Nat) (hC : tw_C G p s m args meth c RX9 cX9_readings 6 (some .int)) (this : Nat) (a1 : Int) (ga1 : tm_rg a1) (x3 : Int) (x4 : Int) (x5 : Int) (s0 : Int) (s1 : Int) (h : tm_H) (gx3 : tm_rg x3) (gx4 : tm_rg x4) (gx5 : tm_rg x5) (gs0 : tm_rg s0) (gs1 : tm_rg s1) (out : Int × tm_H) (hk : fX9_readings_L65 this a1 x3 x4 x5 s0 s1 h = some out) (H : Heap) (locs : List Loc) (ls : Array Slot) (hR : tw_Rel G sz h H) (hL : tw_L G locs) (hl : lv_has ls 6 [(0, .ref this), (1, .int (tw_I a1)), (3, .int (tw_I x3)), (4, .int (tw_I x4)), (5, .int (tw_I x5))]) : W p l e rmX9_readings s m args below meth c H locs 0 0 (MQ below (tw_Qi G sz out.1 out.2) args s 0 0 (tw_F G)) (F0 m 65 ls [.int (tw_I s1), .int (tw_I s0)]) := by
  obtain ⟨k, hk⟩ := tm_wl_iff.mp hk
  exact sX9_readings_S0 G sz hC this a1 ga1 k (.inr (.inr (.inr (.inr (.inl ((x3, x4, x5, s0, s1, h))))))) out hk H locs ls gx3 gx4 gx5 gs0 gs1 hR hL hl
theorem sX9_readings_L73 {l : Launch} {p : Program} {e : Env} {s : State} {m : MethodId} {args : Array Value} {below : List Frame} {meth : Method} {c : Code} (G : tw_G) (sz : Nat) (hC : tw_C G p s m args meth c RX9 cX9_readings 6 (some .int)) (this : Nat) (a1 : Int) (ga1 : tm_rg a1) (x2 : Int) (x3 : Int) (h : tm_H) (gx2 : tm_rg x2) (gx3 : tm_rg x3) (out : Int × tm_H) (hk : fX9_readings_L73 this a1 x2 x3 h = some out) (H : Heap) (locs : List Loc) (ls : Array Slot) (hR : tw_Rel G sz h H) (hL : tw_L G locs) (hl : lv_has ls 6 [(0, .ref this), (1, .int (tw_I a1)), (2, .int (tw_I x2)), (3, .int (tw_I x3))]) : W p l e rmX9_readings s m args below meth c H locs 0 0 (MQ below (tw_Qi G sz out.1 out.2) args s 0 0 (tw_F G)) (F0 m 73 ls []) := by
  obtain ⟨k, hk⟩ := tm_wl_iff.mp hk
  exact sX9_readings_S0 G sz hC this a1 ga1 k (.inr (.inr (.inr (.inr (.inr ((x2, x3, h))))))) out hk H locs ls gx2 gx3 hR hL hl
set_option maxRecDepth 100000 in
set_option maxHeartbeats 4000000 in
theorem cX9_readings_ok (l : Launch) (G : tw_G) (sz : Nat) (this : Nat) (a1 : Int) (ga1 : tm_rg a1) (h : tm_H) (out : Int × tm_H) (hk : fX9_readings this a1 h = some out) : Met l yX9_readings (tw_WS yX9_readings cX9_readings 6 (some .int)) rmX9_readings (va_Pc [.ref this, .int (tw_I a1)] (tw_Pre G sz h)) (tw_Qi G sz out.1 out.2) 0 0 (tw_F G) := by
  refine tw_met (by decide +kernel) (Nat.le_of_ble_eq_true rfl) ?_
  intro p e s m args below meth c H ls hC hnm hR hl
  unfold fX9_readings at hk
  obtain ⟨hob, hk⟩ := tm_th_is hk
  have hl : lv_has ls 6 [(0, .ref this), (1, .int (tw_I a1))] := hl
  have hL : tw_L G [] := fun q z => by cases z
  generalize hlc : ([] : List Loc) = locs at hL ⊢
  refine lv_iconst (v := tw_I 0) hC.1 hC.2.1 dX9_readings_0 rfl ?_
  refine lv_istore_n (lv' := [(2, .int (tw_I 0)), (0, .ref this), (1, .int (tw_I a1))]) hC.1 hC.2.1 dX9_readings_1 rfl hl (by decide) rfl (fun ls hl => ?_)
  refine lv_iconst (v := tw_I 0) hC.1 hC.2.1 dX9_readings_2 rfl ?_
  refine lv_istore_n (lv' := [(3, .int (tw_I 0)), (2, .int (tw_I 0)), (0, .ref this), (1, .int (tw_I a1))]) hC.1 hC.2.1 dX9_readings_3 rfl hl (by decide) rfl (fun ls hl => ?_)
  exact sX9_readings_L4 G sz hC this a1 ga1 0 0 h ((tw_rgL rfl)) ((tw_rgL rfl)) out hk H locs _ hR hL (lv_sub hl [2, 3, 1, 0] rfl)
set_option maxRecDepth 100000 in
theorem kX9_readings {l : Launch} {p : Program} {e : Env} {R : Room} {s : State} {m : MethodId} {args : Array Value} {below : List Frame} {meth : Method} {c : Code} {H : Heap} {locs : List Loc} {cells slots : Nat} {Q : State → Prop} {cc : ByteArray} {pc nL idx : Nat} {ls : Array Slot} {rest : List Value} {G : tw_G} {h : tm_H} {own : String} {ret : Option FieldType} {α : Type} {x : α} {sz : Nat} {this : Nat} {a1 : Int} (hC : tw_C G p s m args meth c own cc nL ret) (hR : tw_Rel G sz h H) (hL : tw_L G locs) {F : Int × tm_H → Option α} (hk : (fX9_readings this a1 h).bind F = some x) (ga1 : tm_rg a1) (hl : tw_mL own idx yX9_readings) (hRm : rmX9_readings.frames + 1 ≤ R.frames ∧ 8 + (6 + 11) + rmX9_readings.locals ≤ R.locals) (hsz : ls.size = nL) (hW : (rest.map fun v => v.category).sum ≤ 8) (hf : cells + 0 ≤ R.cells ∧ slots + 0 ≤ R.slots) (hdg : decode cc pc = .ok (.invokevirtual idx, 3)) (kk : ∀ (r : Int) (h1 : tm_H) (H1 : Heap) (locs1 : List Loc), tw_Rel G sz h1 H1 → tw_L G locs1 → tm_rg r → F (r, h1) = some x → W p l e R s m args below meth c H1 locs1 (cells + 0) (slots + 0) Q (F0 m (pc + 3) ls (.int (tw_I r) :: rest))) : W p l e R s m args below meth c H locs cells slots Q (F0 m pc ls (.int (tw_I a1) :: .ref this :: rest)) := by
  obtain ⟨r, hr, hF⟩ := Option.bind_eq_some_iff.mp hk
  have ob : ∀ r, fX9_readings this a1 h = some r → tm_is h 9 this := fun r hr => by
    unfold fX9_readings at hr
    exact (tm_th_is hr).1
  exact tw_backi (tw_runV hC hR (cX9_readings_ok l G sz this a1 ga1 h r hr) (n := 1) (As := [.int (tw_I a1)]) ⟨tw_in_TB 1034 (by decide +kernel) rfl, tw_in_TB 62 (by decide +kernel) rfl, by decide +kernel⟩ (tw_in_TB 1033 (by decide +kernel) rfl) (tw_in_TB 46 (by decide +kernel) rfl) hl ⟨rfl, rfl⟩ hRm (ob r hr) (T := TX9) (N := 15) rfl rfl hsz rfl hW hdg hf) hL (fun H1 locs1 a b g => kk r.1 r.2 H1 locs1 a b g hF)
def rmX9_append : Room := { frames := 1, cells := 0, slots := 0, locals := 22 }
set_option maxRecDepth 100000 in
set_option maxHeartbeats 4000000 in
theorem cX9_append_ok (l : Launch) (G : tw_G) (sz : Nat) (this : Nat) (a1 : Int) (ga1 : tm_rg a1) (h : tm_H) (out : Int × tm_H) (hk : fX9_append this a1 h = some out) : Met l yX9_append (tw_WS yX9_append cX9_append 2 (some .int)) rmX9_append (va_Pc [.ref this, .int (tw_I a1)] (tw_Pre G sz h)) (tw_Qi G sz out.1 out.2) 0 0 (tw_F G) := by
  refine tw_met (by decide +kernel) (Nat.le_of_ble_eq_true rfl) ?_
  intro p e s m args below meth c H ls hC hnm hR hl
  unfold fX9_append at hk
  obtain ⟨hob, hk⟩ := tm_th_is hk
  have hl : lv_has ls 2 [(0, .ref this), (1, .int (tw_I a1))] := hl
  have hL : tw_L G [] := fun q z => by cases z
  generalize hlc : ([] : List Loc) = locs at hL ⊢
  refine lv_iload_n hC.1 hC.2.1 dX9_append_0 rfl (lv_at hl 1 rfl) ?_
  refine lv_iconst (v := tw_I 1) hC.1 hC.2.1 dX9_append_1 rfl ?_
  refine lv_sipush (v := tw_I 255) hC.1 hC.2.1 dX9_append_2 (by decide) ?_
  refine kX9_in hC hR hL hk ga1 ((tw_rgL rfl)) ((tw_rgL rfl)) mlX9_45 ⟨by decide, by decide⟩ hl.1 (Nat.le_of_ble_eq_true rfl) ⟨Nat.zero_le _, Nat.zero_le _⟩ dX9_append_5 (fun v1 H locs hR hL gv1 hk => ?_)
  refine tw_zne (tgt := 13) hC hk gv1 dX9_append_8 (by decide) (fun _ hk => ?_) (fun _ hk => ?_)
  · refine lv_iconst (v := tw_I (-1)) hC.1 hC.2.1 dX9_append_11 rfl ?_
    cases hk
    exact tw_iret hC hR hL ((tw_rgL rfl)) rfl rfl dX9_append_12
  · refine lv_aload_n hC.1 hC.2.1 dX9_append_13 rfl (lv_at hl 0 rfl) ?_
    refine tw_getI hC hR hk flX9_125 dX9_append_14 (fun v2 gv2 hk => ?_)
    refine lv_sipush (v := tw_I 140) hC.1 hC.2.1 dX9_append_17 (by decide) ?_
    refine tw_cne (tgt := 26) hC hk gv2 ((tw_rgL rfl)) dX9_append_20 (by decide) (fun _ hk => ?_) (fun _ hk => ?_)
    · refine lv_bipush (v := tw_I (-3)) hC.1 hC.2.1 dX9_append_23 (by decide) ?_
      cases hk
      exact tw_iret hC hR hL ((tw_rgL rfl)) rfl rfl dX9_append_25
    · refine lv_aload_n hC.1 hC.2.1 dX9_append_26 rfl (lv_at hl 0 rfl) ?_
      refine tw_getR hC hR hk flX9_19 dX9_append_27 (fun r3 hk => ?_)
      refine lv_aload_n hC.1 hC.2.1 dX9_append_30 rfl (lv_at hl 0 rfl) ?_
      refine tw_getI hC hR hk flX9_125 dX9_append_31 (fun v4 gv4 hk => ?_)
      refine lv_iload_n hC.1 hC.2.1 dX9_append_34 rfl (lv_at hl 1 rfl) ?_
      refine tw_iast hC hR hL ga1 hk dX9_append_35 (fun h5 H locs hR hL hk => ?_)
      refine lv_aload_n hC.1 hC.2.1 dX9_append_36 rfl (lv_at hl 0 rfl) ?_
      refine lv_dup hC.1 hC.2.1 dX9_append_37 rfl ?_
      refine tw_getI hC hR hk flX9_125 dX9_append_38 (fun v6 gv6 hk => ?_)
      refine lv_iconst (v := tw_I 1) hC.1 hC.2.1 dX9_append_41 rfl ?_
      refine tw_iadd hC dX9_append_42 ?_
      refine tw_putI hC hR hL ((tm_wr_rg _)) hk fpX9_125 dX9_append_43 (fun h7 H locs hR hL hk => ?_)
      refine lv_aload_n hC.1 hC.2.1 dX9_append_46 rfl (lv_at hl 0 rfl) ?_
      refine tw_getI hC hR hk flX9_125 dX9_append_47 (fun v8 gv8 hk => ?_)
      cases hk
      exact tw_iret hC hR hL gv8 rfl rfl dX9_append_50
set_option maxRecDepth 100000 in
theorem kX9_append {l : Launch} {p : Program} {e : Env} {R : Room} {s : State} {m : MethodId} {args : Array Value} {below : List Frame} {meth : Method} {c : Code} {H : Heap} {locs : List Loc} {cells slots : Nat} {Q : State → Prop} {cc : ByteArray} {pc nL idx : Nat} {ls : Array Slot} {rest : List Value} {G : tw_G} {h : tm_H} {own : String} {ret : Option FieldType} {α : Type} {x : α} {sz : Nat} {this : Nat} {a1 : Int} (hC : tw_C G p s m args meth c own cc nL ret) (hR : tw_Rel G sz h H) (hL : tw_L G locs) {F : Int × tm_H → Option α} (hk : (fX9_append this a1 h).bind F = some x) (ga1 : tm_rg a1) (hl : tw_mL own idx yX9_append) (hRm : rmX9_append.frames + 1 ≤ R.frames ∧ 8 + (2 + 11) + rmX9_append.locals ≤ R.locals) (hsz : ls.size = nL) (hW : (rest.map fun v => v.category).sum ≤ 8) (hf : cells + 0 ≤ R.cells ∧ slots + 0 ≤ R.slots) (hdg : decode cc pc = .ok (.invokevirtual idx, 3)) (kk : ∀ (r : Int) (h1 : tm_H) (H1 : Heap) (locs1 : List Loc), tw_Rel G sz h1 H1 → tw_L G locs1 → tm_rg r → F (r, h1) = some x → W p l e R s m args below meth c H1 locs1 (cells + 0) (slots + 0) Q (F0 m (pc + 3) ls (.int (tw_I r) :: rest))) : W p l e R s m args below meth c H locs cells slots Q (F0 m pc ls (.int (tw_I a1) :: .ref this :: rest)) := by
  obtain ⟨r, hr, hF⟩ := Option.bind_eq_some_iff.mp hk
  have ob : ∀ r, fX9_append this a1 h = some r → tm_is h 9 this := fun r hr => by
    unfold fX9_append at hr
    exact (tm_th_is hr).1
  exact tw_backi (tw_runV hC hR (cX9_append_ok l G sz this a1 ga1 h r hr) (n := 1) (As := [.int (tw_I a1)]) ⟨tw_in_TB 970 (by decide +kernel) rfl, tw_in_TB 62 (by decide +kernel) rfl, by decide +kernel⟩ (tw_in_TB 968 (by decide +kernel) rfl) (tw_in_TB 969 (by decide +kernel) rfl) hl ⟨rfl, rfl⟩ hRm (ob r hr) (T := TX9) (N := 15) rfl rfl hsz rfl hW hdg hf) hL (fun H1 locs1 a b g => kk r.1 r.2 H1 locs1 a b g hF)
def rmX9_clearText : Room := { frames := 0, cells := 0, slots := 0, locals := 0 }
set_option maxRecDepth 100000 in
set_option maxHeartbeats 4000000 in
theorem cX9_clearText_ok (l : Launch) (G : tw_G) (sz : Nat) (this : Nat)  (h : tm_H) (out : Int × tm_H) (hk : fX9_clearText this h = some out) : Met l yX9_clearText (tw_WS yX9_clearText cX9_clearText 2 (some .int)) rmX9_clearText (va_Pc [.ref this] (tw_Pre G sz h)) (tw_Qi G sz out.1 out.2) 0 0 (tw_F G) := by
  refine tw_met (by decide +kernel) (Nat.le_of_ble_eq_true rfl) ?_
  intro p e s m args below meth c H ls hC hnm hR hl
  unfold fX9_clearText at hk
  obtain ⟨hob, hk⟩ := tm_th_is hk
  have hl : lv_has ls 2 [(0, .ref this)] := hl
  have hL : tw_L G [] := fun q z => by cases z
  generalize hlc : ([] : List Loc) = locs at hL ⊢
  refine lv_aload_n hC.1 hC.2.1 dX9_clearText_0 rfl (lv_at hl 0 rfl) ?_
  refine tw_getI hC hR hk flX9_125 dX9_clearText_1 (fun v1 gv1 hk => ?_)
  refine lv_istore_n (lv' := [(1, .int (tw_I v1)), (0, .ref this)]) hC.1 hC.2.1 dX9_clearText_4 rfl hl (by decide) rfl (fun ls hl => ?_)
  refine lv_aload_n hC.1 hC.2.1 dX9_clearText_5 rfl (lv_at hl 1 rfl) ?_
  refine lv_iconst (v := tw_I 0) hC.1 hC.2.1 dX9_clearText_6 rfl ?_
  refine tw_putI hC hR hL ((tw_rgL rfl)) hk fpX9_125 dX9_clearText_7 (fun h2 H locs hR hL hk => ?_)
  refine lv_iload_n hC.1 hC.2.1 dX9_clearText_10 rfl (lv_at hl 0 rfl) ?_
  cases hk
  exact tw_iret hC hR hL gv1 rfl rfl dX9_clearText_11
set_option maxRecDepth 100000 in
theorem kX9_clearText {l : Launch} {p : Program} {e : Env} {R : Room} {s : State} {m : MethodId} {args : Array Value} {below : List Frame} {meth : Method} {c : Code} {H : Heap} {locs : List Loc} {cells slots : Nat} {Q : State → Prop} {cc : ByteArray} {pc nL idx : Nat} {ls : Array Slot} {rest : List Value} {G : tw_G} {h : tm_H} {own : String} {ret : Option FieldType} {α : Type} {x : α} {sz : Nat} {this : Nat} (hC : tw_C G p s m args meth c own cc nL ret) (hR : tw_Rel G sz h H) (hL : tw_L G locs) {F : Int × tm_H → Option α} (hk : (fX9_clearText this h).bind F = some x)  (hl : tw_mL own idx yX9_clearText) (hRm : rmX9_clearText.frames + 1 ≤ R.frames ∧ 8 + (2 + 11) + rmX9_clearText.locals ≤ R.locals) (hsz : ls.size = nL) (hW : (rest.map fun v => v.category).sum ≤ 8) (hf : cells + 0 ≤ R.cells ∧ slots + 0 ≤ R.slots) (hdg : decode cc pc = .ok (.invokevirtual idx, 3)) (kk : ∀ (r : Int) (h1 : tm_H) (H1 : Heap) (locs1 : List Loc), tw_Rel G sz h1 H1 → tw_L G locs1 → tm_rg r → F (r, h1) = some x → W p l e R s m args below meth c H1 locs1 (cells + 0) (slots + 0) Q (F0 m (pc + 3) ls (.int (tw_I r) :: rest))) : W p l e R s m args below meth c H locs cells slots Q (F0 m pc ls (.ref this :: rest)) := by
  obtain ⟨r, hr, hF⟩ := Option.bind_eq_some_iff.mp hk
  have ob : ∀ r, fX9_clearText this h = some r → tm_is h 9 this := fun r hr => by
    unfold fX9_clearText at hr
    exact (tm_th_is hr).1
  exact tw_backi (tw_runV hC hR (cX9_clearText_ok l G sz this  h r hr) (n := 0) (As := []) ⟨tw_in_TB 974 (by decide +kernel) rfl, tw_in_TB 62 (by decide +kernel) rfl, by decide +kernel⟩ (tw_in_TB 972 (by decide +kernel) rfl) (tw_in_TB 973 (by decide +kernel) rfl) hl ⟨rfl, rfl⟩ hRm (ob r hr) (T := TX9) (N := 15) rfl rfl hsz rfl hW hdg hf) hL (fun H1 locs1 a b g => kk r.1 r.2 H1 locs1 a b g hF)
def rmX9_isLetter : Room := { frames := 1, cells := 0, slots := 0, locals := 22 }
set_option maxRecDepth 100000 in
set_option maxHeartbeats 4000000 in
theorem cX9_isLetter_ok (l : Launch) (G : tw_G) (sz : Nat) (this : Nat) (a1 : Int) (ga1 : tm_rg a1) (h : tm_H) (out : Int) (hk : fX9_isLetter this a1 h = some out) : Met l yX9_isLetter (tw_WS yX9_isLetter cX9_isLetter 2 (some .boolean)) rmX9_isLetter (va_Pc [.ref this, .int (tw_I a1)] (tw_Pre G sz h)) (tw_Qi G sz out h) 0 0 (tw_F G) := by
  refine tw_met (by decide +kernel) (Nat.le_of_ble_eq_true rfl) ?_
  intro p e s m args below meth c H ls hC hnm hR hl
  unfold fX9_isLetter at hk
  obtain ⟨hob, hk⟩ := tm_th_is hk
  have hl : lv_has ls 2 [(0, .ref this), (1, .int (tw_I a1))] := hl
  have hL : tw_L G [] := fun q z => by cases z
  generalize hlc : ([] : List Loc) = locs at hL ⊢
  refine lv_iload_n hC.1 hC.2.1 dX9_isLetter_0 rfl (lv_at hl 1 rfl) ?_
  refine lv_aload_n hC.1 hC.2.1 dX9_isLetter_1 rfl (lv_at hl 0 rfl) ?_
  refine tw_getI hC hR hk flX9_125 dX9_isLetter_2 (fun v1 gv1 hk => ?_)
  refine tw_cge (tgt := 28) hC hk ga1 gv1 dX9_isLetter_5 (by decide) (fun _ hk => ?_) (fun _ hk => ?_)
  · refine lv_aload_n hC.1 hC.2.1 dX9_isLetter_8 rfl (lv_at hl 0 rfl) ?_
    refine tw_getR hC hR hk flX9_19 dX9_isLetter_9 (fun r2 hk => ?_)
    refine lv_iload_n hC.1 hC.2.1 dX9_isLetter_12 rfl (lv_at hl 1 rfl) ?_
    refine tw_iald hC hR hk dX9_isLetter_13 (fun v3 gv3 hk => ?_)
    refine lv_bipush (v := tw_I 97) hC.1 hC.2.1 dX9_isLetter_14 (by decide) ?_
    refine lv_bipush (v := tw_I 122) hC.1 hC.2.1 dX9_isLetter_16 (by decide) ?_
    refine kX9_in hC hR hL hk gv3 ((tw_rgL rfl)) ((tw_rgL rfl)) mlX9_45 ⟨by decide, by decide⟩ hl.1 (Nat.le_of_ble_eq_true rfl) ⟨Nat.zero_le _, Nat.zero_le _⟩ dX9_isLetter_18 (fun v4 H locs hR hL gv4 hk => ?_)
    refine tw_zeq (tgt := 28) hC hk gv4 dX9_isLetter_21 (by decide) (fun _ hk => ?_) (fun _ hk => ?_)
    · refine lv_iconst (v := tw_I 0) hC.1 hC.2.1 dX9_isLetter_28 rfl ?_
      cases hk
      exact tw_zret hC hR hL rfl rfl dX9_isLetter_29
    · refine lv_iconst (v := tw_I 1) hC.1 hC.2.1 dX9_isLetter_24 rfl ?_
      refine lv_goto (tgt := 29) hC.1 hC.2.1 dX9_isLetter_25 (by decide) ?_
      cases hk
      exact tw_zret hC hR hL rfl rfl dX9_isLetter_29
  · refine lv_iconst (v := tw_I 0) hC.1 hC.2.1 dX9_isLetter_28 rfl ?_
    cases hk
    exact tw_zret hC hR hL rfl rfl dX9_isLetter_29
set_option maxRecDepth 100000 in
theorem kX9_isLetter {l : Launch} {p : Program} {e : Env} {R : Room} {s : State} {m : MethodId} {args : Array Value} {below : List Frame} {meth : Method} {c : Code} {H : Heap} {locs : List Loc} {cells slots : Nat} {Q : State → Prop} {cc : ByteArray} {pc nL idx : Nat} {ls : Array Slot} {rest : List Value} {G : tw_G} {h : tm_H} {own : String} {ret : Option FieldType} {α : Type} {x : α} {sz : Nat} {this : Nat} {a1 : Int} (hC : tw_C G p s m args meth c own cc nL ret) (hR : tw_Rel G sz h H) (hL : tw_L G locs) {F : Int → Option α} (hk : (fX9_isLetter this a1 h).bind F = some x) (ga1 : tm_rg a1) (hl : tw_mL own idx yX9_isLetter) (hRm : rmX9_isLetter.frames + 1 ≤ R.frames ∧ 8 + (2 + 11) + rmX9_isLetter.locals ≤ R.locals) (hsz : ls.size = nL) (hW : (rest.map fun v => v.category).sum ≤ 8) (hf : cells + 0 ≤ R.cells ∧ slots + 0 ≤ R.slots) (hdg : decode cc pc = .ok (.invokevirtual idx, 3)) (kk : ∀ (r : Int) (H1 : Heap) (locs1 : List Loc), tw_Rel G sz h H1 → tw_L G locs1 → tm_rg r → F r = some x → W p l e R s m args below meth c H1 locs1 (cells + 0) (slots + 0) Q (F0 m (pc + 3) ls (.int (tw_I r) :: rest))) : W p l e R s m args below meth c H locs cells slots Q (F0 m pc ls (.int (tw_I a1) :: .ref this :: rest)) := by
  obtain ⟨r, hr, hF⟩ := Option.bind_eq_some_iff.mp hk
  have ob : ∀ r, fX9_isLetter this a1 h = some r → tm_is h 9 this := fun r hr => by
    unfold fX9_isLetter at hr
    exact (tm_th_is hr).1
  exact tw_backi (tw_runV hC hR (cX9_isLetter_ok l G sz this a1 ga1 h r hr) (n := 1) (As := [.int (tw_I a1)]) ⟨tw_in_TB 986 (by decide +kernel) rfl, tw_in_TB 62 (by decide +kernel) rfl, by decide +kernel⟩ (tw_in_TB 985 (by decide +kernel) rfl) (tw_in_TB 35 (by decide +kernel) rfl) hl ⟨rfl, rfl⟩ hRm (ob r hr) (T := TX9) (N := 15) rfl rfl hsz rfl hW hdg hf) hL (fun H1 locs1 a b g => kk r H1 locs1 a b g hF)
def rmX9_token : Room := { frames := 2, cells := 0, slots := 0, locals := 43 }
set_option maxRecDepth 100000 in
set_option maxHeartbeats 4000000 in
theorem sX9_token_L114 {l : Launch} {p : Program} {e : Env} {s : State} {m : MethodId} {args : Array Value} {below : List Frame} {meth : Method} {c : Code} (G : tw_G) (sz : Nat) (hC : tw_C G p s m args meth c RX9 cX9_token 1 none) (this : Nat)  (s0 : Nat) (s1 : Int) (h : tm_H) (gs1 : tm_rg s1) (out : tm_H) (hk : fX9_token_L114 this s0 s1 h = some out) (H : Heap) (locs : List Loc) (ls : Array Slot) (hR : tw_Rel G sz h H) (hL : tw_L G locs) (hl : lv_has ls 1 [(0, .ref this)]) : W p l e rmX9_token s m args below meth c H locs 0 0 (MQ below (tw_Qv G sz out) args s 0 0 (tw_F G)) (F0 m 114 ls [.int (tw_I s1), .ref s0]) := by
  unfold fX9_token_L114 at hk
  refine tw_putI hC hR hL gs1 hk fpX9_128 dX9_token_114 (fun h22 H locs hR hL hk => ?_)
  cases hk
  exact tw_vret hC hR hL rfl dX9_token_117
set_option maxRecDepth 100000 in
set_option maxHeartbeats 4000000 in
theorem sX9_token_L110 {l : Launch} {p : Program} {e : Env} {s : State} {m : MethodId} {args : Array Value} {below : List Frame} {meth : Method} {c : Code} (G : tw_G) (sz : Nat) (hC : tw_C G p s m args meth c RX9 cX9_token 1 none) (this : Nat)  (s0 : Nat) (h : tm_H)  (out : tm_H) (hk : fX9_token_L110 this s0 h = some out) (H : Heap) (locs : List Loc) (ls : Array Slot) (hR : tw_Rel G sz h H) (hL : tw_L G locs) (hl : lv_has ls 1 [(0, .ref this)]) : W p l e rmX9_token s m args below meth c H locs 0 0 (MQ below (tw_Qv G sz out) args s 0 0 (tw_F G)) (F0 m 110 ls [.ref s0]) := by
  unfold fX9_token_L110 at hk
  refine lv_aload_n hC.1 hC.2.1 dX9_token_110 rfl (lv_at hl 0 rfl) ?_
  refine tw_getI hC hR hk flX9_128 dX9_token_111 (fun v21 gv21 hk => ?_)
  exact sX9_token_L114 G sz hC this s0 v21 h gv21 out hk H locs _ hR hL (lv_sub hl [0] rfl)
set_option maxRecDepth 100000 in
set_option maxHeartbeats 4000000 in
theorem sX9_token_S2 {l : Launch} {p : Program} {e : Env} {s : State} {m : MethodId} {args : Array Value} {below : List Frame} {meth : Method} {c : Code} (G : tw_G) (sz : Nat) (hC : tw_C G p s m args meth c RX9 cX9_token 1 none) (this : Nat)  : ∀ (k : Nat) (st : (tm_H)) (out : tm_H), tm_wit (fX9_token_S2 this) k st = some out → match st with
    | (h) => ∀ (H : Heap) (locs : List Loc) (ls : Array Slot), tw_Rel G sz h H → tw_L G locs → lv_has ls 1 [(0, .ref this)] → W p l e rmX9_token s m args below meth c H locs 0 0 (MQ below (tw_Qv G sz out) args s 0 0 (tw_F G)) (F0 m 54 ls []) := by
  intro k
  induction k with
  | zero =>
    intro st out hk
    exact absurd hk (by unfold tm_wit; exact fun z => by cases z)
  | succ k ih =>
    intro h out hk
    obtain ⟨X, hk, hf⟩ := tm_wit_succ hk
    intro H locs ls  hR hL hl
    dsimp only [fX9_token_S2] at hk
    refine lv_aload_n hC.1 hC.2.1 dX9_token_54 rfl (lv_at hl 0 rfl) ?_
    refine lv_aload_n hC.1 hC.2.1 dX9_token_55 rfl (lv_at hl 0 rfl) ?_
    refine tw_getI hC hR hk flX9_128 dX9_token_56 (fun v12 gv12 hk => ?_)
    refine kX9_isLetter hC hR hL hk gv12 mlX9_134 ⟨by decide, by decide⟩ hl.1 (Nat.le_of_ble_eq_true rfl) ⟨Nat.zero_le _, Nat.zero_le _⟩ dX9_token_59 (fun v13 H locs hR hL gv13 hk => ?_)
    refine tw_zeq (tgt := 78) hC hk gv13 dX9_token_62 (by decide) (fun _ hk => ?_) (fun _ hk => ?_)
    · refine lv_aload_n hC.1 hC.2.1 dX9_token_78 rfl (lv_at hl 0 rfl) ?_
      refine lv_aload_n hC.1 hC.2.1 dX9_token_79 rfl (lv_at hl 0 rfl) ?_
      refine tw_getI hC hR hk flX9_128 dX9_token_80 (fun v14 gv14 hk => ?_)
      refine lv_aload_n hC.1 hC.2.1 dX9_token_83 rfl (lv_at hl 0 rfl) ?_
      refine tw_getI hC hR hk flX9_131 dX9_token_84 (fun v15 gv15 hk => ?_)
      refine tw_cne (tgt := 110) hC hk gv14 gv15 dX9_token_87 (by decide) (fun _ hk => ?_) (fun _ hk => ?_)
      · refine lv_aload_n hC.1 hC.2.1 dX9_token_90 rfl (lv_at hl 0 rfl) ?_
        refine tw_getI hC hR hk flX9_131 dX9_token_91 (fun v16 gv16 hk => ?_)
        refine lv_aload_n hC.1 hC.2.1 dX9_token_94 rfl (lv_at hl 0 rfl) ?_
        refine tw_getI hC hR hk flX9_125 dX9_token_95 (fun v17 gv17 hk => ?_)
        refine tw_cge (tgt := 110) hC hk gv16 gv17 dX9_token_98 (by decide) (fun _ hk => ?_) (fun _ hk => ?_)
        · refine lv_aload_n hC.1 hC.2.1 dX9_token_101 rfl (lv_at hl 0 rfl) ?_
          refine tw_getI hC hR hk flX9_131 dX9_token_102 (fun v18 gv18 hk => ?_)
          refine lv_iconst (v := tw_I 1) hC.1 hC.2.1 dX9_token_105 rfl ?_
          refine tw_iadd hC dX9_token_106 ?_
          refine lv_goto (tgt := 114) hC.1 hC.2.1 dX9_token_107 (by decide) ?_
          obtain ⟨r, hk2, hX⟩ := tm_out_some hk
          rw [hX] at hf
          have hr : r = out := Option.some.inj hf
          rw [hr] at hk2
          exact sX9_token_L114 G sz hC this this (tm_wr (v18 + 1)) h ((tm_wr_rg _)) out hk2 H locs _ hR hL (lv_sub hl [0] rfl)
        · obtain ⟨r, hk2, hX⟩ := tm_out_some hk
          rw [hX] at hf
          have hr : r = out := Option.some.inj hf
          rw [hr] at hk2
          exact sX9_token_L110 G sz hC this this h out hk2 H locs _ hR hL (lv_sub hl [0] rfl)
      · obtain ⟨r, hk2, hX⟩ := tm_out_some hk
        rw [hX] at hf
        have hr : r = out := Option.some.inj hf
        rw [hr] at hk2
        exact sX9_token_L110 G sz hC this this h out hk2 H locs _ hR hL (lv_sub hl [0] rfl)
    · refine lv_aload_n hC.1 hC.2.1 dX9_token_65 rfl (lv_at hl 0 rfl) ?_
      refine lv_dup hC.1 hC.2.1 dX9_token_66 rfl ?_
      refine tw_getI hC hR hk flX9_128 dX9_token_67 (fun v19 gv19 hk => ?_)
      refine lv_iconst (v := tw_I 1) hC.1 hC.2.1 dX9_token_70 rfl ?_
      refine tw_iadd hC dX9_token_71 ?_
      refine tw_putI hC hR hL ((tm_wr_rg _)) hk fpX9_128 dX9_token_72 (fun h20 H locs hR hL hk => ?_)
      refine lv_goto (tgt := 54) hC.1 hC.2.1 dX9_token_75 (by decide) ?_
      cases hk
      exact ih _ out hf H locs _  hR hL (lv_sub hl [0] rfl)
theorem sX9_token_L54 {l : Launch} {p : Program} {e : Env} {s : State} {m : MethodId} {args : Array Value} {below : List Frame} {meth : Method} {c : Code} (G : tw_G) (sz : Nat) (hC : tw_C G p s m args meth c RX9 cX9_token 1 none) (this : Nat)   (h : tm_H)  (out : tm_H) (hk : fX9_token_L54 this h = some out) (H : Heap) (locs : List Loc) (ls : Array Slot) (hR : tw_Rel G sz h H) (hL : tw_L G locs) (hl : lv_has ls 1 [(0, .ref this)]) : W p l e rmX9_token s m args below meth c H locs 0 0 (MQ below (tw_Qv G sz out) args s 0 0 (tw_F G)) (F0 m 54 ls []) := by
  obtain ⟨k, hk⟩ := tm_wl_iff.mp hk
  exact sX9_token_S2 G sz hC this  k ((h)) out hk H locs ls  hR hL hl
set_option maxRecDepth 100000 in
set_option maxHeartbeats 4000000 in
theorem sX9_token_L46 {l : Launch} {p : Program} {e : Env} {s : State} {m : MethodId} {args : Array Value} {below : List Frame} {meth : Method} {c : Code} (G : tw_G) (sz : Nat) (hC : tw_C G p s m args meth c RX9 cX9_token 1 none) (this : Nat)   (h : tm_H)  (out : tm_H) (hk : fX9_token_L46 this h = some out) (H : Heap) (locs : List Loc) (ls : Array Slot) (hR : tw_Rel G sz h H) (hL : tw_L G locs) (hl : lv_has ls 1 [(0, .ref this)]) : W p l e rmX9_token s m args below meth c H locs 0 0 (MQ below (tw_Qv G sz out) args s 0 0 (tw_F G)) (F0 m 46 ls []) := by
  unfold fX9_token_L46 at hk
  refine lv_aload_n hC.1 hC.2.1 dX9_token_46 rfl (lv_at hl 0 rfl) ?_
  refine lv_aload_n hC.1 hC.2.1 dX9_token_47 rfl (lv_at hl 0 rfl) ?_
  refine tw_getI hC hR hk flX9_131 dX9_token_48 (fun v10 gv10 hk => ?_)
  refine tw_putI hC hR hL gv10 hk fpX9_128 dX9_token_51 (fun h11 H locs hR hL hk => ?_)
  exact sX9_token_L54 G sz hC this h11 out hk H locs _ hR hL (lv_sub hl [0] rfl)
set_option maxRecDepth 100000 in
set_option maxHeartbeats 4000000 in
theorem sX9_token_S4 {l : Launch} {p : Program} {e : Env} {s : State} {m : MethodId} {args : Array Value} {below : List Frame} {meth : Method} {c : Code} (G : tw_G) (sz : Nat) (hC : tw_C G p s m args meth c RX9 cX9_token 1 none) (this : Nat)  : ∀ (k : Nat) (st : (tm_H)) (out : tm_H), tm_wit (fX9_token_S4 this) k st = some out → match st with
    | (h) => ∀ (H : Heap) (locs : List Loc) (ls : Array Slot), tw_Rel G sz h H → tw_L G locs → lv_has ls 1 [(0, .ref this)] → W p l e rmX9_token s m args below meth c H locs 0 0 (MQ below (tw_Qv G sz out) args s 0 0 (tw_F G)) (F0 m 8 ls []) := by
  intro k
  induction k with
  | zero =>
    intro st out hk
    exact absurd hk (by unfold tm_wit; exact fun z => by cases z)
  | succ k ih =>
    intro h out hk
    obtain ⟨X, hk, hf⟩ := tm_wit_succ hk
    intro H locs ls  hR hL hl
    dsimp only [fX9_token_S4] at hk
    refine lv_aload_n hC.1 hC.2.1 dX9_token_8 rfl (lv_at hl 0 rfl) ?_
    refine tw_getI hC hR hk flX9_131 dX9_token_9 (fun v3 gv3 hk => ?_)
    refine lv_aload_n hC.1 hC.2.1 dX9_token_12 rfl (lv_at hl 0 rfl) ?_
    refine tw_getI hC hR hk flX9_125 dX9_token_13 (fun v4 gv4 hk => ?_)
    refine tw_cge (tgt := 46) hC hk gv3 gv4 dX9_token_16 (by decide) (fun _ hk => ?_) (fun _ hk => ?_)
    · refine lv_aload_n hC.1 hC.2.1 dX9_token_19 rfl (lv_at hl 0 rfl) ?_
      refine tw_getR hC hR hk flX9_19 dX9_token_20 (fun r5 hk => ?_)
      refine lv_aload_n hC.1 hC.2.1 dX9_token_23 rfl (lv_at hl 0 rfl) ?_
      refine tw_getI hC hR hk flX9_131 dX9_token_24 (fun v6 gv6 hk => ?_)
      refine tw_iald hC hR hk dX9_token_27 (fun v7 gv7 hk => ?_)
      refine lv_bipush (v := tw_I 32) hC.1 hC.2.1 dX9_token_28 (by decide) ?_
      refine tw_cne (tgt := 46) hC hk gv7 ((tw_rgL rfl)) dX9_token_30 (by decide) (fun _ hk => ?_) (fun _ hk => ?_)
      · refine lv_aload_n hC.1 hC.2.1 dX9_token_33 rfl (lv_at hl 0 rfl) ?_
        refine lv_dup hC.1 hC.2.1 dX9_token_34 rfl ?_
        refine tw_getI hC hR hk flX9_131 dX9_token_35 (fun v8 gv8 hk => ?_)
        refine lv_iconst (v := tw_I 1) hC.1 hC.2.1 dX9_token_38 rfl ?_
        refine tw_iadd hC dX9_token_39 ?_
        refine tw_putI hC hR hL ((tm_wr_rg _)) hk fpX9_131 dX9_token_40 (fun h9 H locs hR hL hk => ?_)
        refine lv_goto (tgt := 8) hC.1 hC.2.1 dX9_token_43 (by decide) ?_
        cases hk
        exact ih _ out hf H locs _  hR hL (lv_sub hl [0] rfl)
      · obtain ⟨r, hk2, hX⟩ := tm_out_some hk
        rw [hX] at hf
        have hr : r = out := Option.some.inj hf
        rw [hr] at hk2
        exact sX9_token_L46 G sz hC this h out hk2 H locs _ hR hL (lv_sub hl [0] rfl)
    · obtain ⟨r, hk2, hX⟩ := tm_out_some hk
      rw [hX] at hf
      have hr : r = out := Option.some.inj hf
      rw [hr] at hk2
      exact sX9_token_L46 G sz hC this h out hk2 H locs _ hR hL (lv_sub hl [0] rfl)
theorem sX9_token_L8 {l : Launch} {p : Program} {e : Env} {s : State} {m : MethodId} {args : Array Value} {below : List Frame} {meth : Method} {c : Code} (G : tw_G) (sz : Nat) (hC : tw_C G p s m args meth c RX9 cX9_token 1 none) (this : Nat)   (h : tm_H)  (out : tm_H) (hk : fX9_token_L8 this h = some out) (H : Heap) (locs : List Loc) (ls : Array Slot) (hR : tw_Rel G sz h H) (hL : tw_L G locs) (hl : lv_has ls 1 [(0, .ref this)]) : W p l e rmX9_token s m args below meth c H locs 0 0 (MQ below (tw_Qv G sz out) args s 0 0 (tw_F G)) (F0 m 8 ls []) := by
  obtain ⟨k, hk⟩ := tm_wl_iff.mp hk
  exact sX9_token_S4 G sz hC this  k ((h)) out hk H locs ls  hR hL hl
set_option maxRecDepth 100000 in
set_option maxHeartbeats 4000000 in
theorem cX9_token_ok (l : Launch) (G : tw_G) (sz : Nat) (this : Nat)  (h : tm_H) (out : tm_H) (hk : fX9_token this h = some out) : Met l yX9_token (tw_WS yX9_token cX9_token 1 none) rmX9_token (va_Pc [.ref this] (tw_Pre G sz h)) (tw_Qv G sz out) 0 0 (tw_F G) := by
  refine tw_met (by decide +kernel) (Nat.le_of_ble_eq_true rfl) ?_
  intro p e s m args below meth c H ls hC hnm hR hl
  unfold fX9_token at hk
  obtain ⟨hob, hk⟩ := tm_th_is hk
  have hl : lv_has ls 1 [(0, .ref this)] := hl
  have hL : tw_L G [] := fun q z => by cases z
  generalize hlc : ([] : List Loc) = locs at hL ⊢
  refine lv_aload_n hC.1 hC.2.1 dX9_token_0 rfl (lv_at hl 0 rfl) ?_
  refine lv_aload_n hC.1 hC.2.1 dX9_token_1 rfl (lv_at hl 0 rfl) ?_
  refine tw_getI hC hR hk flX9_128 dX9_token_2 (fun v1 gv1 hk => ?_)
  refine tw_putI hC hR hL gv1 hk fpX9_131 dX9_token_5 (fun h2 H locs hR hL hk => ?_)
  exact sX9_token_L8 G sz hC this h2 out hk H locs _ hR hL (lv_sub hl [0] rfl)
set_option maxRecDepth 100000 in
theorem kX9_token {l : Launch} {p : Program} {e : Env} {R : Room} {s : State} {m : MethodId} {args : Array Value} {below : List Frame} {meth : Method} {c : Code} {H : Heap} {locs : List Loc} {cells slots : Nat} {Q : State → Prop} {cc : ByteArray} {pc nL idx : Nat} {ls : Array Slot} {rest : List Value} {G : tw_G} {h : tm_H} {own : String} {ret : Option FieldType} {α : Type} {x : α} {sz : Nat} {this : Nat} (hC : tw_C G p s m args meth c own cc nL ret) (hR : tw_Rel G sz h H) (hL : tw_L G locs) {F : tm_H → Option α} (hk : (fX9_token this h).bind F = some x)  (hl : tw_mL own idx yX9_token) (hRm : rmX9_token.frames + 1 ≤ R.frames ∧ 8 + (1 + 11) + rmX9_token.locals ≤ R.locals) (hsz : ls.size = nL) (hW : (rest.map fun v => v.category).sum ≤ 8) (hf : cells + 0 ≤ R.cells ∧ slots + 0 ≤ R.slots) (hdg : decode cc pc = .ok (.invokevirtual idx, 3)) (kk : ∀ (h1 : tm_H) (H1 : Heap) (locs1 : List Loc), tw_Rel G sz h1 H1 → tw_L G locs1 → F h1 = some x → W p l e R s m args below meth c H1 locs1 (cells + 0) (slots + 0) Q (F0 m (pc + 3) ls (rest))) : W p l e R s m args below meth c H locs cells slots Q (F0 m pc ls (.ref this :: rest)) := by
  obtain ⟨r, hr, hF⟩ := Option.bind_eq_some_iff.mp hk
  have ob : ∀ r, fX9_token this h = some r → tm_is h 9 this := fun r hr => by
    unfold fX9_token at hr
    exact (tm_th_is hr).1
  exact tw_backv (tw_runV hC hR (cX9_token_ok l G sz this  h r hr) (n := 0) (As := []) ⟨tw_in_TB 982 (by decide +kernel) rfl, tw_in_TB 62 (by decide +kernel) rfl, by decide +kernel⟩ (tw_in_TB 981 (by decide +kernel) rfl) (tw_in_TB 34 (by decide +kernel) rfl) hl ⟨rfl, rfl⟩ hRm (ob r hr) (T := TX9) (N := 15) rfl rfl hsz rfl hW hdg hf) hL (fun H1 locs1 a b => kk r H1 locs1 a b hF)
def rmX9_isRun : Room := { frames := 2, cells := 0, slots := 0, locals := 43 }
set_option maxRecDepth 100000 in
set_option maxHeartbeats 4000000 in
theorem cX9_isRun_ok (l : Launch) (G : tw_G) (sz : Nat) (this : Nat)  (h : tm_H) (out : Int) (hk : fX9_isRun this h = some out) : Met l yX9_isRun (tw_WS yX9_isRun cX9_isRun 1 (some .boolean)) rmX9_isRun (va_Pc [.ref this] (tw_Pre G sz h)) (tw_Qi G sz out h) 0 0 (tw_F G) := by
  refine tw_met (by decide +kernel) (Nat.le_of_ble_eq_true rfl) ?_
  intro p e s m args below meth c H ls hC hnm hR hl
  unfold fX9_isRun at hk
  obtain ⟨hob, hk⟩ := tm_th_is hk
  have hl : lv_has ls 1 [(0, .ref this)] := hl
  have hL : tw_L G [] := fun q z => by cases z
  generalize hlc : ([] : List Loc) = locs at hL ⊢
  refine lv_aload_n hC.1 hC.2.1 dX9_isRun_0 rfl (lv_at hl 0 rfl) ?_
  refine tw_getI hC hR hk flX9_131 dX9_isRun_1 (fun v1 gv1 hk => ?_)
  refine lv_aload_n hC.1 hC.2.1 dX9_isRun_4 rfl (lv_at hl 0 rfl) ?_
  refine tw_getI hC hR hk flX9_128 dX9_isRun_5 (fun v2 gv2 hk => ?_)
  refine tw_cge (tgt := 26) hC hk gv1 gv2 dX9_isRun_8 (by decide) (fun _ hk => ?_) (fun _ hk => ?_)
  · refine lv_aload_n hC.1 hC.2.1 dX9_isRun_11 rfl (lv_at hl 0 rfl) ?_
    refine lv_aload_n hC.1 hC.2.1 dX9_isRun_12 rfl (lv_at hl 0 rfl) ?_
    refine tw_getI hC hR hk flX9_131 dX9_isRun_13 (fun v3 gv3 hk => ?_)
    refine kX9_isLetter hC hR hL hk gv3 mlX9_134 ⟨by decide, by decide⟩ hl.1 (Nat.le_of_ble_eq_true rfl) ⟨Nat.zero_le _, Nat.zero_le _⟩ dX9_isRun_16 (fun v4 H locs hR hL gv4 hk => ?_)
    refine tw_zeq (tgt := 26) hC hk gv4 dX9_isRun_19 (by decide) (fun _ hk => ?_) (fun _ hk => ?_)
    · refine lv_iconst (v := tw_I 0) hC.1 hC.2.1 dX9_isRun_26 rfl ?_
      cases hk
      exact tw_zret hC hR hL rfl rfl dX9_isRun_27
    · refine lv_iconst (v := tw_I 1) hC.1 hC.2.1 dX9_isRun_22 rfl ?_
      refine lv_goto (tgt := 27) hC.1 hC.2.1 dX9_isRun_23 (by decide) ?_
      cases hk
      exact tw_zret hC hR hL rfl rfl dX9_isRun_27
  · refine lv_iconst (v := tw_I 0) hC.1 hC.2.1 dX9_isRun_26 rfl ?_
    cases hk
    exact tw_zret hC hR hL rfl rfl dX9_isRun_27
set_option maxRecDepth 100000 in
theorem kX9_isRun {l : Launch} {p : Program} {e : Env} {R : Room} {s : State} {m : MethodId} {args : Array Value} {below : List Frame} {meth : Method} {c : Code} {H : Heap} {locs : List Loc} {cells slots : Nat} {Q : State → Prop} {cc : ByteArray} {pc nL idx : Nat} {ls : Array Slot} {rest : List Value} {G : tw_G} {h : tm_H} {own : String} {ret : Option FieldType} {α : Type} {x : α} {sz : Nat} {this : Nat} (hC : tw_C G p s m args meth c own cc nL ret) (hR : tw_Rel G sz h H) (hL : tw_L G locs) {F : Int → Option α} (hk : (fX9_isRun this h).bind F = some x)  (hl : tw_mL own idx yX9_isRun) (hRm : rmX9_isRun.frames + 1 ≤ R.frames ∧ 8 + (1 + 11) + rmX9_isRun.locals ≤ R.locals) (hsz : ls.size = nL) (hW : (rest.map fun v => v.category).sum ≤ 8) (hf : cells + 0 ≤ R.cells ∧ slots + 0 ≤ R.slots) (hdg : decode cc pc = .ok (.invokevirtual idx, 3)) (kk : ∀ (r : Int) (H1 : Heap) (locs1 : List Loc), tw_Rel G sz h H1 → tw_L G locs1 → tm_rg r → F r = some x → W p l e R s m args below meth c H1 locs1 (cells + 0) (slots + 0) Q (F0 m (pc + 3) ls (.int (tw_I r) :: rest))) : W p l e R s m args below meth c H locs cells slots Q (F0 m pc ls (.ref this :: rest)) := by
  obtain ⟨r, hr, hF⟩ := Option.bind_eq_some_iff.mp hk
  have ob : ∀ r, fX9_isRun this h = some r → tm_is h 9 this := fun r hr => by
    unfold fX9_isRun at hr
    exact (tm_th_is hr).1
  exact tw_backi (tw_runV hC hR (cX9_isRun_ok l G sz this  h r hr) (n := 0) (As := []) ⟨tw_in_TB 994 (by decide +kernel) rfl, tw_in_TB 62 (by decide +kernel) rfl, by decide +kernel⟩ (tw_in_TB 993 (by decide +kernel) rfl) (tw_in_TB 37 (by decide +kernel) rfl) hl ⟨rfl, rfl⟩ hRm (ob r hr) (T := TX9) (N := 15) rfl rfl hsz rfl hW hdg hf) hL (fun H1 locs1 a b g => kk r H1 locs1 a b g hF)
def rmX9_isSign : Room := { frames := 0, cells := 0, slots := 0, locals := 0 }
set_option maxRecDepth 100000 in
set_option maxHeartbeats 4000000 in
theorem cX9_isSign_ok (l : Launch) (G : tw_G) (sz : Nat) (this : Nat) (a1 : Int) (ga1 : tm_rg a1) (h : tm_H) (out : Int) (hk : fX9_isSign this a1 h = some out) : Met l yX9_isSign (tw_WS yX9_isSign cX9_isSign 2 (some .boolean)) rmX9_isSign (va_Pc [.ref this, .int (tw_I a1)] (tw_Pre G sz h)) (tw_Qi G sz out h) 0 0 (tw_F G) := by
  refine tw_met (by decide +kernel) (Nat.le_of_ble_eq_true rfl) ?_
  intro p e s m args below meth c H ls hC hnm hR hl
  unfold fX9_isSign at hk
  obtain ⟨hob, hk⟩ := tm_th_is hk
  have hl : lv_has ls 2 [(0, .ref this), (1, .int (tw_I a1))] := hl
  have hL : tw_L G [] := fun q z => by cases z
  generalize hlc : ([] : List Loc) = locs at hL ⊢
  refine lv_aload_n hC.1 hC.2.1 dX9_isSign_0 rfl (lv_at hl 0 rfl) ?_
  refine tw_getI hC hR hk flX9_128 dX9_isSign_1 (fun v1 gv1 hk => ?_)
  refine lv_aload_n hC.1 hC.2.1 dX9_isSign_4 rfl (lv_at hl 0 rfl) ?_
  refine tw_getI hC hR hk flX9_131 dX9_isSign_5 (fun v2 gv2 hk => ?_)
  refine lv_iconst (v := tw_I 1) hC.1 hC.2.1 dX9_isSign_8 rfl ?_
  refine tw_iadd hC dX9_isSign_9 ?_
  refine tw_cne (tgt := 30) hC hk gv1 ((tm_wr_rg _)) dX9_isSign_10 (by decide) (fun _ hk => ?_) (fun _ hk => ?_)
  · refine lv_aload_n hC.1 hC.2.1 dX9_isSign_13 rfl (lv_at hl 0 rfl) ?_
    refine tw_getR hC hR hk flX9_19 dX9_isSign_14 (fun r3 hk => ?_)
    refine lv_aload_n hC.1 hC.2.1 dX9_isSign_17 rfl (lv_at hl 0 rfl) ?_
    refine tw_getI hC hR hk flX9_131 dX9_isSign_18 (fun v4 gv4 hk => ?_)
    refine tw_iald hC hR hk dX9_isSign_21 (fun v5 gv5 hk => ?_)
    refine lv_iload_n hC.1 hC.2.1 dX9_isSign_22 rfl (lv_at hl 1 rfl) ?_
    refine tw_cne (tgt := 30) hC hk gv5 ga1 dX9_isSign_23 (by decide) (fun _ hk => ?_) (fun _ hk => ?_)
    · refine lv_iconst (v := tw_I 1) hC.1 hC.2.1 dX9_isSign_26 rfl ?_
      refine lv_goto (tgt := 31) hC.1 hC.2.1 dX9_isSign_27 (by decide) ?_
      cases hk
      exact tw_zret hC hR hL rfl rfl dX9_isSign_31
    · refine lv_iconst (v := tw_I 0) hC.1 hC.2.1 dX9_isSign_30 rfl ?_
      cases hk
      exact tw_zret hC hR hL rfl rfl dX9_isSign_31
  · refine lv_iconst (v := tw_I 0) hC.1 hC.2.1 dX9_isSign_30 rfl ?_
    cases hk
    exact tw_zret hC hR hL rfl rfl dX9_isSign_31
set_option maxRecDepth 100000 in
theorem kX9_isSign {l : Launch} {p : Program} {e : Env} {R : Room} {s : State} {m : MethodId} {args : Array Value} {below : List Frame} {meth : Method} {c : Code} {H : Heap} {locs : List Loc} {cells slots : Nat} {Q : State → Prop} {cc : ByteArray} {pc nL idx : Nat} {ls : Array Slot} {rest : List Value} {G : tw_G} {h : tm_H} {own : String} {ret : Option FieldType} {α : Type} {x : α} {sz : Nat} {this : Nat} {a1 : Int} (hC : tw_C G p s m args meth c own cc nL ret) (hR : tw_Rel G sz h H) (hL : tw_L G locs) {F : Int → Option α} (hk : (fX9_isSign this a1 h).bind F = some x) (ga1 : tm_rg a1) (hl : tw_mL own idx yX9_isSign) (hRm : rmX9_isSign.frames + 1 ≤ R.frames ∧ 8 + (2 + 11) + rmX9_isSign.locals ≤ R.locals) (hsz : ls.size = nL) (hW : (rest.map fun v => v.category).sum ≤ 8) (hf : cells + 0 ≤ R.cells ∧ slots + 0 ≤ R.slots) (hdg : decode cc pc = .ok (.invokevirtual idx, 3)) (kk : ∀ (r : Int) (H1 : Heap) (locs1 : List Loc), tw_Rel G sz h H1 → tw_L G locs1 → tm_rg r → F r = some x → W p l e R s m args below meth c H1 locs1 (cells + 0) (slots + 0) Q (F0 m (pc + 3) ls (.int (tw_I r) :: rest))) : W p l e R s m args below meth c H locs cells slots Q (F0 m pc ls (.int (tw_I a1) :: .ref this :: rest)) := by
  obtain ⟨r, hr, hF⟩ := Option.bind_eq_some_iff.mp hk
  have ob : ∀ r, fX9_isSign this a1 h = some r → tm_is h 9 this := fun r hr => by
    unfold fX9_isSign at hr
    exact (tm_th_is hr).1
  exact tw_backi (tw_runV hC hR (cX9_isSign_ok l G sz this a1 ga1 h r hr) (n := 1) (As := [.int (tw_I a1)]) ⟨tw_in_TB 1002 (by decide +kernel) rfl, tw_in_TB 62 (by decide +kernel) rfl, by decide +kernel⟩ (tw_in_TB 1001 (by decide +kernel) rfl) (tw_in_TB 39 (by decide +kernel) rfl) hl ⟨rfl, rfl⟩ hRm (ob r hr) (T := TX9) (N := 15) rfl rfl hsz rfl hW hdg hf) hL (fun H1 locs1 a b g => kk r H1 locs1 a b g hF)
def rmX9_isName : Room := { frames := 3, cells := 0, slots := 0, locals := 63 }
set_option maxRecDepth 100000 in
set_option maxHeartbeats 4000000 in
theorem sX9_isName_L9 {l : Launch} {p : Program} {e : Env} {s : State} {m : MethodId} {args : Array Value} {below : List Frame} {meth : Method} {c : Code} (G : tw_G) (sz : Nat) (hC : tw_C G p s m args meth c RX9 cX9_isName 6 (some .boolean)) (this : Nat) (a1 : Int) (a2 : Int) (a3 : Int) (a4 : Int) (ga1 : tm_rg a1) (ga2 : tm_rg a2) (ga3 : tm_rg a3) (ga4 : tm_rg a4) (h : tm_H) (s0 : Int) (gs0 : tm_rg s0) (out : Int) (hk : fX9_isName_L9 this a1 a2 a3 a4 h s0 = some out) (H : Heap) (locs : List Loc) (ls : Array Slot) (hR : tw_Rel G sz h H) (hL : tw_L G locs) (hl : lv_has ls 6 [(0, .ref this), (1, .int (tw_I a1)), (2, .int (tw_I a2)), (3, .int (tw_I a3)), (4, .int (tw_I a4))]) : W p l e rmX9_isName s m args below meth c H locs 0 0 (MQ below (tw_Qi G sz out h) args s 0 0 (tw_F G)) (F0 m 9 ls [.int (tw_I s0)]) := by
  unfold fX9_isName_L9 at hk
  refine lv_istore (lv' := [(5, .int (tw_I s0)), (0, .ref this), (1, .int (tw_I a1)), (2, .int (tw_I a2)), (3, .int (tw_I a3)), (4, .int (tw_I a4))]) hC.1 hC.2.1 dX9_isName_9 hl (by decide) rfl (fun ls hl => ?_)
  refine lv_aload_n hC.1 hC.2.1 dX9_isName_11 rfl (lv_at hl 1 rfl) ?_
  refine kX9_isRun hC hR hL hk mlX9_137 ⟨by decide, by decide⟩ hl.1 (Nat.le_of_ble_eq_true rfl) ⟨Nat.zero_le _, Nat.zero_le _⟩ dX9_isName_12 (fun v1 H locs hR hL gv1 hk => ?_)
  refine tw_zeq (tgt := 101) hC hk gv1 dX9_isName_15 (by decide) (fun _ hk => ?_) (fun _ hk => ?_)
  · refine lv_iconst (v := tw_I 0) hC.1 hC.2.1 dX9_isName_101 rfl ?_
    cases hk
    exact tw_zret hC hR hL rfl rfl dX9_isName_102
  · refine lv_aload_n hC.1 hC.2.1 dX9_isName_18 rfl (lv_at hl 1 rfl) ?_
    refine tw_getI hC hR hk flX9_128 dX9_isName_19 (fun v2 gv2 hk => ?_)
    refine lv_aload_n hC.1 hC.2.1 dX9_isName_22 rfl (lv_at hl 1 rfl) ?_
    refine tw_getI hC hR hk flX9_131 dX9_isName_23 (fun v3 gv3 hk => ?_)
    refine tw_isub hC dX9_isName_26 ?_
    refine lv_iload hC.1 hC.2.1 dX9_isName_27 (lv_at hl 0 rfl) ?_
    refine tw_cne (tgt := 101) hC hk ((tm_wr_rg _)) gs0 dX9_isName_29 (by decide) (fun _ hk => ?_) (fun _ hk => ?_)
    · refine lv_aload_n hC.1 hC.2.1 dX9_isName_32 rfl (lv_at hl 1 rfl) ?_
      refine tw_getR hC hR hk flX9_19 dX9_isName_33 (fun r4 hk => ?_)
      refine lv_aload_n hC.1 hC.2.1 dX9_isName_36 rfl (lv_at hl 1 rfl) ?_
      refine tw_getI hC hR hk flX9_131 dX9_isName_37 (fun v5 gv5 hk => ?_)
      refine tw_iald hC hR hk dX9_isName_40 (fun v6 gv6 hk => ?_)
      refine lv_iload_n hC.1 hC.2.1 dX9_isName_41 rfl (lv_at hl 2 rfl) ?_
      refine tw_cne (tgt := 101) hC hk gv6 ga1 dX9_isName_42 (by decide) (fun _ hk => ?_) (fun _ hk => ?_)
      · refine lv_aload_n hC.1 hC.2.1 dX9_isName_45 rfl (lv_at hl 1 rfl) ?_
        refine tw_getR hC hR hk flX9_19 dX9_isName_46 (fun r7 hk => ?_)
        refine lv_aload_n hC.1 hC.2.1 dX9_isName_49 rfl (lv_at hl 1 rfl) ?_
        refine tw_getI hC hR hk flX9_131 dX9_isName_50 (fun v8 gv8 hk => ?_)
        refine lv_iconst (v := tw_I 1) hC.1 hC.2.1 dX9_isName_53 rfl ?_
        refine tw_iadd hC dX9_isName_54 ?_
        refine tw_iald hC hR hk dX9_isName_55 (fun v9 gv9 hk => ?_)
        refine lv_iload_n hC.1 hC.2.1 dX9_isName_56 rfl (lv_at hl 3 rfl) ?_
        refine tw_cne (tgt := 101) hC hk gv9 ga2 dX9_isName_57 (by decide) (fun _ hk => ?_) (fun _ hk => ?_)
        · refine lv_iload hC.1 hC.2.1 dX9_isName_60 (lv_at hl 0 rfl) ?_
          refine lv_iconst (v := tw_I 2) hC.1 hC.2.1 dX9_isName_62 rfl ?_
          refine tw_ceq (tgt := 97) hC hk gs0 ((tw_rgL rfl)) dX9_isName_63 (by decide) (fun _ hk => ?_) (fun _ hk => ?_)
          · refine lv_iconst (v := tw_I 1) hC.1 hC.2.1 dX9_isName_97 rfl ?_
            refine lv_goto (tgt := 102) hC.1 hC.2.1 dX9_isName_98 (by decide) ?_
            cases hk
            exact tw_zret hC hR hL rfl rfl dX9_isName_102
          · refine lv_aload_n hC.1 hC.2.1 dX9_isName_66 rfl (lv_at hl 1 rfl) ?_
            refine tw_getR hC hR hk flX9_19 dX9_isName_67 (fun r10 hk => ?_)
            refine lv_aload_n hC.1 hC.2.1 dX9_isName_70 rfl (lv_at hl 1 rfl) ?_
            refine tw_getI hC hR hk flX9_131 dX9_isName_71 (fun v11 gv11 hk => ?_)
            refine lv_iconst (v := tw_I 2) hC.1 hC.2.1 dX9_isName_74 rfl ?_
            refine tw_iadd hC dX9_isName_75 ?_
            refine tw_iald hC hR hk dX9_isName_76 (fun v12 gv12 hk => ?_)
            refine lv_iload_n hC.1 hC.2.1 dX9_isName_77 rfl (lv_at hl 4 rfl) ?_
            refine tw_cne (tgt := 101) hC hk gv12 ga3 dX9_isName_78 (by decide) (fun _ hk => ?_) (fun _ hk => ?_)
            · refine lv_aload_n hC.1 hC.2.1 dX9_isName_81 rfl (lv_at hl 1 rfl) ?_
              refine tw_getR hC hR hk flX9_19 dX9_isName_82 (fun r13 hk => ?_)
              refine lv_aload_n hC.1 hC.2.1 dX9_isName_85 rfl (lv_at hl 1 rfl) ?_
              refine tw_getI hC hR hk flX9_131 dX9_isName_86 (fun v14 gv14 hk => ?_)
              refine lv_iconst (v := tw_I 3) hC.1 hC.2.1 dX9_isName_89 rfl ?_
              refine tw_iadd hC dX9_isName_90 ?_
              refine tw_iald hC hR hk dX9_isName_91 (fun v15 gv15 hk => ?_)
              refine lv_iload hC.1 hC.2.1 dX9_isName_92 (lv_at hl 5 rfl) ?_
              refine tw_cne (tgt := 101) hC hk gv15 ga4 dX9_isName_94 (by decide) (fun _ hk => ?_) (fun _ hk => ?_)
              · refine lv_iconst (v := tw_I 1) hC.1 hC.2.1 dX9_isName_97 rfl ?_
                refine lv_goto (tgt := 102) hC.1 hC.2.1 dX9_isName_98 (by decide) ?_
                cases hk
                exact tw_zret hC hR hL rfl rfl dX9_isName_102
              · refine lv_iconst (v := tw_I 0) hC.1 hC.2.1 dX9_isName_101 rfl ?_
                cases hk
                exact tw_zret hC hR hL rfl rfl dX9_isName_102
            · refine lv_iconst (v := tw_I 0) hC.1 hC.2.1 dX9_isName_101 rfl ?_
              cases hk
              exact tw_zret hC hR hL rfl rfl dX9_isName_102
        · refine lv_iconst (v := tw_I 0) hC.1 hC.2.1 dX9_isName_101 rfl ?_
          cases hk
          exact tw_zret hC hR hL rfl rfl dX9_isName_102
      · refine lv_iconst (v := tw_I 0) hC.1 hC.2.1 dX9_isName_101 rfl ?_
        cases hk
        exact tw_zret hC hR hL rfl rfl dX9_isName_102
    · refine lv_iconst (v := tw_I 0) hC.1 hC.2.1 dX9_isName_101 rfl ?_
      cases hk
      exact tw_zret hC hR hL rfl rfl dX9_isName_102
set_option maxRecDepth 100000 in
set_option maxHeartbeats 4000000 in
theorem cX9_isName_ok (l : Launch) (G : tw_G) (sz : Nat) (this : Nat) (a1 : Int) (a2 : Int) (a3 : Int) (a4 : Int) (ga1 : tm_rg a1) (ga2 : tm_rg a2) (ga3 : tm_rg a3) (ga4 : tm_rg a4) (h : tm_H) (out : Int) (hk : fX9_isName this a1 a2 a3 a4 h = some out) : Met l yX9_isName (tw_WS yX9_isName cX9_isName 6 (some .boolean)) rmX9_isName (va_Pc [.ref this, .int (tw_I a1), .int (tw_I a2), .int (tw_I a3), .int (tw_I a4)] (tw_Pre G sz h)) (tw_Qi G sz out h) 0 0 (tw_F G) := by
  refine tw_met (by decide +kernel) (Nat.le_of_ble_eq_true rfl) ?_
  intro p e s m args below meth c H ls hC hnm hR hl
  unfold fX9_isName at hk
  obtain ⟨hob, hk⟩ := tm_th_is hk
  have hl : lv_has ls 6 [(0, .ref this), (1, .int (tw_I a1)), (2, .int (tw_I a2)), (3, .int (tw_I a3)), (4, .int (tw_I a4))] := hl
  have hL : tw_L G [] := fun q z => by cases z
  generalize hlc : ([] : List Loc) = locs at hL ⊢
  refine lv_iload_n hC.1 hC.2.1 dX9_isName_0 rfl (lv_at hl 3 rfl) ?_
  refine tw_zne (tgt := 8) hC hk ga3 dX9_isName_1 (by decide) (fun _ hk => ?_) (fun _ hk => ?_)
  · refine lv_iconst (v := tw_I 2) hC.1 hC.2.1 dX9_isName_4 rfl ?_
    refine lv_goto (tgt := 9) hC.1 hC.2.1 dX9_isName_5 (by decide) ?_
    exact sX9_isName_L9 G sz hC this a1 a2 a3 a4 ga1 ga2 ga3 ga4 h 2 ((tw_rgL rfl)) out hk H locs _ hR hL (lv_sub hl [0, 1, 2, 3, 4] rfl)
  · refine lv_iconst (v := tw_I 4) hC.1 hC.2.1 dX9_isName_8 rfl ?_
    exact sX9_isName_L9 G sz hC this a1 a2 a3 a4 ga1 ga2 ga3 ga4 h 4 ((tw_rgL rfl)) out hk H locs _ hR hL (lv_sub hl [0, 1, 2, 3, 4] rfl)
set_option maxRecDepth 100000 in
theorem kX9_isName {l : Launch} {p : Program} {e : Env} {R : Room} {s : State} {m : MethodId} {args : Array Value} {below : List Frame} {meth : Method} {c : Code} {H : Heap} {locs : List Loc} {cells slots : Nat} {Q : State → Prop} {cc : ByteArray} {pc nL idx : Nat} {ls : Array Slot} {rest : List Value} {G : tw_G} {h : tm_H} {own : String} {ret : Option FieldType} {α : Type} {x : α} {sz : Nat} {this : Nat} {a1 : Int} {a2 : Int} {a3 : Int} {a4 : Int} (hC : tw_C G p s m args meth c own cc nL ret) (hR : tw_Rel G sz h H) (hL : tw_L G locs) {F : Int → Option α} (hk : (fX9_isName this a1 a2 a3 a4 h).bind F = some x) (ga1 : tm_rg a1) (ga2 : tm_rg a2) (ga3 : tm_rg a3) (ga4 : tm_rg a4) (hl : tw_mL own idx yX9_isName) (hRm : rmX9_isName.frames + 1 ≤ R.frames ∧ 8 + (6 + 11) + rmX9_isName.locals ≤ R.locals) (hsz : ls.size = nL) (hW : (rest.map fun v => v.category).sum ≤ 8) (hf : cells + 0 ≤ R.cells ∧ slots + 0 ≤ R.slots) (hdg : decode cc pc = .ok (.invokevirtual idx, 3)) (kk : ∀ (r : Int) (H1 : Heap) (locs1 : List Loc), tw_Rel G sz h H1 → tw_L G locs1 → tm_rg r → F r = some x → W p l e R s m args below meth c H1 locs1 (cells + 0) (slots + 0) Q (F0 m (pc + 3) ls (.int (tw_I r) :: rest))) : W p l e R s m args below meth c H locs cells slots Q (F0 m pc ls (.int (tw_I a4) :: .int (tw_I a3) :: .int (tw_I a2) :: .int (tw_I a1) :: .ref this :: rest)) := by
  obtain ⟨r, hr, hF⟩ := Option.bind_eq_some_iff.mp hk
  have ob : ∀ r, fX9_isName this a1 a2 a3 a4 h = some r → tm_is h 9 this := fun r hr => by
    unfold fX9_isName at hr
    exact (tm_th_is hr).1
  exact tw_backi (tw_runV hC hR (cX9_isName_ok l G sz this a1 a2 a3 a4 ga1 ga2 ga3 ga4 h r hr) (n := 4) (As := [.int (tw_I a1), .int (tw_I a2), .int (tw_I a3), .int (tw_I a4)]) ⟨tw_in_TB 990 (by decide +kernel) rfl, tw_in_TB 62 (by decide +kernel) rfl, by decide +kernel⟩ (tw_in_TB 989 (by decide +kernel) rfl) (tw_in_TB 36 (by decide +kernel) rfl) hl ⟨rfl, rfl⟩ hRm (ob r hr) (T := TX9) (N := 15) rfl rfl hsz rfl hW hdg hf) hL (fun H1 locs1 a b g => kk r H1 locs1 a b g hF)
def rmX9_isLike : Room := { frames := 0, cells := 0, slots := 0, locals := 0 }
set_option maxRecDepth 100000 in
set_option maxHeartbeats 4000000 in
theorem sX9_isLike_S0 {l : Launch} {p : Program} {e : Env} {s : State} {m : MethodId} {args : Array Value} {below : List Frame} {meth : Method} {c : Code} (G : tw_G) (sz : Nat) (hC : tw_C G p s m args meth c RX9 cX9_isLike 4 (some .boolean)) (this : Nat) (a1 : Int) (ga1 : tm_rg a1) (h : tm_H) : ∀ (k : Nat) (st : (Int × Int) ⊕ (Int × Int × Int) ⊕ (Int × Int)) (out : Int), tm_wit (fX9_isLike_S0 this a1 h) k st = some out → match st with
    | .inl ((x2, x3)) => ∀ (H : Heap) (locs : List Loc) (ls : Array Slot), tm_rg x2 → tm_rg x3 → tw_Rel G sz h H → tw_L G locs → lv_has ls 4 [(0, .ref this), (1, .int (tw_I a1)), (2, .int (tw_I x2)), (3, .int (tw_I x3))] → W p l e rmX9_isLike s m args below meth c H locs 0 0 (MQ below (tw_Qi G sz out h) args s 0 0 (tw_F G)) (F0 m 4 ls [])
    | .inr (.inl ((x3, s0, s1))) => ∀ (H : Heap) (locs : List Loc) (ls : Array Slot), tm_rg x3 → tm_rg s0 → tm_rg s1 → tw_Rel G sz h H → tw_L G locs → lv_has ls 4 [(0, .ref this), (1, .int (tw_I a1)), (3, .int (tw_I x3))] → W p l e rmX9_isLike s m args below meth c H locs 0 0 (MQ below (tw_Qi G sz out h) args s 0 0 (tw_F G)) (F0 m 53 ls [.int (tw_I s1), .int (tw_I s0)])
    | .inr (.inr ((x3, s0))) => ∀ (H : Heap) (locs : List Loc) (ls : Array Slot), tm_rg x3 → tm_rg s0 → tw_Rel G sz h H → tw_L G locs → lv_has ls 4 [(0, .ref this), (1, .int (tw_I a1)), (3, .int (tw_I x3))] → W p l e rmX9_isLike s m args below meth c H locs 0 0 (MQ below (tw_Qi G sz out h) args s 0 0 (tw_F G)) (F0 m 61 ls [.int (tw_I s0)]) := by
  intro k
  induction k with
  | zero =>
    intro st out hk
    exact absurd hk (by unfold tm_wit; exact fun z => by cases z)
  | succ k ih =>
    intro st out hk
    obtain ⟨X, hk, hf⟩ := tm_wit_succ hk
    obtain ⟨x2, x3⟩ | ⟨x3, s0, s1⟩ | ⟨x3, s0⟩ := st
    · intro H locs ls gx2 gx3 hR hL hl
      dsimp only [fX9_isLike_S0] at hk
      refine lv_iload_n hC.1 hC.2.1 dX9_isLike_4 rfl (lv_at hl 3 rfl) ?_
      refine lv_bipush (v := tw_I 8) hC.1 hC.2.1 dX9_isLike_5 (by decide) ?_
      refine tw_cge (tgt := 68) hC hk gx3 ((tw_rgL rfl)) dX9_isLike_7 (by decide) (fun _ hk => ?_) (fun _ hk => ?_)
      · refine lv_iload_n hC.1 hC.2.1 dX9_isLike_10 rfl (lv_at hl 2 rfl) ?_
        refine tw_zeq (tgt := 68) hC hk gx2 dX9_isLike_11 (by decide) (fun _ hk => ?_) (fun _ hk => ?_)
        · refine lv_iload_n hC.1 hC.2.1 dX9_isLike_68 rfl (lv_at hl 2 rfl) ?_
          obtain ⟨z, hz, hk⟩ := Option.bind_eq_some_iff.mp hk
          cases hk
          cases hf
          exact tw_zret hC hR hL hz rfl dX9_isLike_69
        · refine lv_aload_n hC.1 hC.2.1 dX9_isLike_14 rfl (lv_at hl 0 rfl) ?_
          refine tw_getR hC hR hk flX9_22 dX9_isLike_15 (fun r1 hk => ?_)
          refine lv_bipush (v := tw_I 8) hC.1 hC.2.1 dX9_isLike_18 (by decide) ?_
          refine lv_iload_n hC.1 hC.2.1 dX9_isLike_20 rfl (lv_at hl 1 rfl) ?_
          refine tw_imul hC dX9_isLike_21 ?_
          refine lv_iload_n hC.1 hC.2.1 dX9_isLike_22 rfl (lv_at hl 3 rfl) ?_
          refine tw_iadd hC dX9_isLike_23 ?_
          refine tw_iald hC hR hk dX9_isLike_24 (fun v2 gv2 hk => ?_)
          refine lv_aload_n hC.1 hC.2.1 dX9_isLike_25 rfl (lv_at hl 0 rfl) ?_
          refine tw_getI hC hR hk flX9_131 dX9_isLike_26 (fun v3 gv3 hk => ?_)
          refine lv_iload_n hC.1 hC.2.1 dX9_isLike_29 rfl (lv_at hl 3 rfl) ?_
          refine tw_iadd hC dX9_isLike_30 ?_
          refine lv_aload_n hC.1 hC.2.1 dX9_isLike_31 rfl (lv_at hl 0 rfl) ?_
          refine tw_getI hC hR hk flX9_128 dX9_isLike_32 (fun v4 gv4 hk => ?_)
          refine tw_cge (tgt := 52) hC hk ((tm_wr_rg _)) gv4 dX9_isLike_35 (by decide) (fun _ hk => ?_) (fun _ hk => ?_)
          · refine lv_aload_n hC.1 hC.2.1 dX9_isLike_38 rfl (lv_at hl 0 rfl) ?_
            refine tw_getR hC hR hk flX9_19 dX9_isLike_39 (fun r5 hk => ?_)
            refine lv_aload_n hC.1 hC.2.1 dX9_isLike_42 rfl (lv_at hl 0 rfl) ?_
            refine tw_getI hC hR hk flX9_131 dX9_isLike_43 (fun v6 gv6 hk => ?_)
            refine lv_iload_n hC.1 hC.2.1 dX9_isLike_46 rfl (lv_at hl 3 rfl) ?_
            refine tw_iadd hC dX9_isLike_47 ?_
            refine tw_iald hC hR hk dX9_isLike_48 (fun v7 gv7 hk => ?_)
            refine lv_goto (tgt := 53) hC.1 hC.2.1 dX9_isLike_49 (by decide) ?_
            cases hk
            exact ih _ out hf H locs _ gx3 gv2 gv7 hR hL (lv_sub hl [0, 1, 3] rfl)
          · refine lv_iconst (v := tw_I 0) hC.1 hC.2.1 dX9_isLike_52 rfl ?_
            cases hk
            exact ih _ out hf H locs _ gx3 gv2 ((tw_rgL rfl)) hR hL (lv_sub hl [0, 1, 3] rfl)
      · refine lv_iload_n hC.1 hC.2.1 dX9_isLike_68 rfl (lv_at hl 2 rfl) ?_
        obtain ⟨z, hz, hk⟩ := Option.bind_eq_some_iff.mp hk
        cases hk
        cases hf
        exact tw_zret hC hR hL hz rfl dX9_isLike_69
    · intro H locs ls gx3 gs0 gs1 hR hL hl
      dsimp only [fX9_isLike_S0] at hk
      refine tw_cne (tgt := 60) hC hk gs0 gs1 dX9_isLike_53 (by decide) (fun _ hk => ?_) (fun _ hk => ?_)
      · refine lv_iconst (v := tw_I 1) hC.1 hC.2.1 dX9_isLike_56 rfl ?_
        refine lv_goto (tgt := 61) hC.1 hC.2.1 dX9_isLike_57 (by decide) ?_
        cases hk
        exact ih _ out hf H locs _ gx3 ((tw_rgL rfl)) hR hL (lv_sub hl [0, 1, 2] rfl)
      · refine lv_iconst (v := tw_I 0) hC.1 hC.2.1 dX9_isLike_60 rfl ?_
        cases hk
        exact ih _ out hf H locs _ gx3 ((tw_rgL rfl)) hR hL (lv_sub hl [0, 1, 2] rfl)
    · intro H locs ls gx3 gs0 hR hL hl
      dsimp only [fX9_isLike_S0] at hk
      refine lv_istore_n (lv' := [(2, .int (tw_I s0)), (0, .ref this), (1, .int (tw_I a1)), (3, .int (tw_I x3))]) hC.1 hC.2.1 dX9_isLike_61 rfl hl (by decide) rfl (fun ls hl => ?_)
      refine tw_iinc (lv' := [(3, .int (tw_I (tm_wr (x3 + 1)))), (2, .int (tw_I s0)), (0, .ref this), (1, .int (tw_I a1))]) hC dX9_isLike_62 hl (k := 3) rfl (by decide) rfl (fun ls hl => ?_)
      refine lv_goto (tgt := 4) hC.1 hC.2.1 dX9_isLike_65 (by decide) ?_
      cases hk
      exact ih _ out hf H locs _ gs0 ((tm_wr_rg _)) hR hL (lv_sub hl [2, 3, 1, 0] rfl)
theorem sX9_isLike_L4 {l : Launch} {p : Program} {e : Env} {s : State} {m : MethodId} {args : Array Value} {below : List Frame} {meth : Method} {c : Code} (G : tw_G) (sz : Nat) (hC : tw_C G p s m args meth c RX9 cX9_isLike 4 (some .boolean)) (this : Nat) (a1 : Int) (ga1 : tm_rg a1) (h : tm_H) (x2 : Int) (x3 : Int) (gx2 : tm_rg x2) (gx3 : tm_rg x3) (out : Int) (hk : fX9_isLike_L4 this a1 h x2 x3 = some out) (H : Heap) (locs : List Loc) (ls : Array Slot) (hR : tw_Rel G sz h H) (hL : tw_L G locs) (hl : lv_has ls 4 [(0, .ref this), (1, .int (tw_I a1)), (2, .int (tw_I x2)), (3, .int (tw_I x3))]) : W p l e rmX9_isLike s m args below meth c H locs 0 0 (MQ below (tw_Qi G sz out h) args s 0 0 (tw_F G)) (F0 m 4 ls []) := by
  obtain ⟨k, hk⟩ := tm_wl_iff.mp hk
  exact sX9_isLike_S0 G sz hC this a1 ga1 h k (.inl ((x2, x3))) out hk H locs ls gx2 gx3 hR hL hl
theorem sX9_isLike_L53 {l : Launch} {p : Program} {e : Env} {s : State} {m : MethodId} {args : Array Value} {below : List Frame} {meth : Method} {c : Code} (G : tw_G) (sz : Nat) (hC : tw_C G p s m args meth c RX9 cX9_isLike 4 (some .boolean)) (this : Nat) (a1 : Int) (ga1 : tm_rg a1) (h : tm_H) (x3 : Int) (s0 : Int) (s1 : Int) (gx3 : tm_rg x3) (gs0 : tm_rg s0) (gs1 : tm_rg s1) (out : Int) (hk : fX9_isLike_L53 this a1 h x3 s0 s1 = some out) (H : Heap) (locs : List Loc) (ls : Array Slot) (hR : tw_Rel G sz h H) (hL : tw_L G locs) (hl : lv_has ls 4 [(0, .ref this), (1, .int (tw_I a1)), (3, .int (tw_I x3))]) : W p l e rmX9_isLike s m args below meth c H locs 0 0 (MQ below (tw_Qi G sz out h) args s 0 0 (tw_F G)) (F0 m 53 ls [.int (tw_I s1), .int (tw_I s0)]) := by
  obtain ⟨k, hk⟩ := tm_wl_iff.mp hk
  exact sX9_isLike_S0 G sz hC this a1 ga1 h k (.inr (.inl ((x3, s0, s1)))) out hk H locs ls gx3 gs0 gs1 hR hL hl
theorem sX9_isLike_L61 {l : Launch} {p : Program} {e : Env} {s : State} {m : MethodId} {args : Array Value} {below : List Frame} {meth : Method} {c : Code} (G : tw_G) (sz : Nat) (hC : tw_C G p s m args meth c RX9 cX9_isLike 4 (some .boolean)) (this : Nat) (a1 : Int) (ga1 : tm_rg a1) (h : tm_H) (x3 : Int) (s0 : Int) (gx3 : tm_rg x3) (gs0 : tm_rg s0) (out : Int) (hk : fX9_isLike_L61 this a1 h x3 s0 = some out) (H : Heap) (locs : List Loc) (ls : Array Slot) (hR : tw_Rel G sz h H) (hL : tw_L G locs) (hl : lv_has ls 4 [(0, .ref this), (1, .int (tw_I a1)), (3, .int (tw_I x3))]) : W p l e rmX9_isLike s m args below meth c H locs 0 0 (MQ below (tw_Qi G sz out h) args s 0 0 (tw_F G)) (F0 m 61 ls [.int (tw_I s0)]) := by
  obtain ⟨k, hk⟩ := tm_wl_iff.mp hk
  exact sX9_isLike_S0 G sz hC this a1 ga1 h k (.inr (.inr ((x3, s0)))) out hk H locs ls gx3 gs0 hR hL hl
set_option maxRecDepth 100000 in
set_option maxHeartbeats 4000000 in
theorem cX9_isLike_ok (l : Launch) (G : tw_G) (sz : Nat) (this : Nat) (a1 : Int) (ga1 : tm_rg a1) (h : tm_H) (out : Int) (hk : fX9_isLike this a1 h = some out) : Met l yX9_isLike (tw_WS yX9_isLike cX9_isLike 4 (some .boolean)) rmX9_isLike (va_Pc [.ref this, .int (tw_I a1)] (tw_Pre G sz h)) (tw_Qi G sz out h) 0 0 (tw_F G) := by
  refine tw_met (by decide +kernel) (Nat.le_of_ble_eq_true rfl) ?_
  intro p e s m args below meth c H ls hC hnm hR hl
  unfold fX9_isLike at hk
  obtain ⟨hob, hk⟩ := tm_th_is hk
  have hl : lv_has ls 4 [(0, .ref this), (1, .int (tw_I a1))] := hl
  have hL : tw_L G [] := fun q z => by cases z
  generalize hlc : ([] : List Loc) = locs at hL ⊢
  refine lv_iconst (v := tw_I 1) hC.1 hC.2.1 dX9_isLike_0 rfl ?_
  refine lv_istore_n (lv' := [(2, .int (tw_I 1)), (0, .ref this), (1, .int (tw_I a1))]) hC.1 hC.2.1 dX9_isLike_1 rfl hl (by decide) rfl (fun ls hl => ?_)
  refine lv_iconst (v := tw_I 0) hC.1 hC.2.1 dX9_isLike_2 rfl ?_
  refine lv_istore_n (lv' := [(3, .int (tw_I 0)), (2, .int (tw_I 1)), (0, .ref this), (1, .int (tw_I a1))]) hC.1 hC.2.1 dX9_isLike_3 rfl hl (by decide) rfl (fun ls hl => ?_)
  exact sX9_isLike_L4 G sz hC this a1 ga1 h 1 0 ((tw_rgL rfl)) ((tw_rgL rfl)) out hk H locs _ hR hL (lv_sub hl [2, 3, 1, 0] rfl)
set_option maxRecDepth 100000 in
theorem kX9_isLike {l : Launch} {p : Program} {e : Env} {R : Room} {s : State} {m : MethodId} {args : Array Value} {below : List Frame} {meth : Method} {c : Code} {H : Heap} {locs : List Loc} {cells slots : Nat} {Q : State → Prop} {cc : ByteArray} {pc nL idx : Nat} {ls : Array Slot} {rest : List Value} {G : tw_G} {h : tm_H} {own : String} {ret : Option FieldType} {α : Type} {x : α} {sz : Nat} {this : Nat} {a1 : Int} (hC : tw_C G p s m args meth c own cc nL ret) (hR : tw_Rel G sz h H) (hL : tw_L G locs) {F : Int → Option α} (hk : (fX9_isLike this a1 h).bind F = some x) (ga1 : tm_rg a1) (hl : tw_mL own idx yX9_isLike) (hRm : rmX9_isLike.frames + 1 ≤ R.frames ∧ 8 + (4 + 11) + rmX9_isLike.locals ≤ R.locals) (hsz : ls.size = nL) (hW : (rest.map fun v => v.category).sum ≤ 8) (hf : cells + 0 ≤ R.cells ∧ slots + 0 ≤ R.slots) (hdg : decode cc pc = .ok (.invokevirtual idx, 3)) (kk : ∀ (r : Int) (H1 : Heap) (locs1 : List Loc), tw_Rel G sz h H1 → tw_L G locs1 → tm_rg r → F r = some x → W p l e R s m args below meth c H1 locs1 (cells + 0) (slots + 0) Q (F0 m (pc + 3) ls (.int (tw_I r) :: rest))) : W p l e R s m args below meth c H locs cells slots Q (F0 m pc ls (.int (tw_I a1) :: .ref this :: rest)) := by
  obtain ⟨r, hr, hF⟩ := Option.bind_eq_some_iff.mp hk
  have ob : ∀ r, fX9_isLike this a1 h = some r → tm_is h 9 this := fun r hr => by
    unfold fX9_isLike at hr
    exact (tm_th_is hr).1
  exact tw_backi (tw_runV hC hR (cX9_isLike_ok l G sz this a1 ga1 h r hr) (n := 1) (As := [.int (tw_I a1)]) ⟨tw_in_TB 1014 (by decide +kernel) rfl, tw_in_TB 62 (by decide +kernel) rfl, by decide +kernel⟩ (tw_in_TB 1013 (by decide +kernel) rfl) (tw_in_TB 42 (by decide +kernel) rfl) hl ⟨rfl, rfl⟩ hRm (ob r hr) (T := TX9) (N := 15) rfl rfl hsz rfl hW hdg hf) hL (fun H1 locs1 a b g => kk r H1 locs1 a b g hF)
def rmX9_wordHere : Room := { frames := 3, cells := 0, slots := 0, locals := 63 }
set_option maxRecDepth 100000 in
set_option maxHeartbeats 4000000 in
theorem sX9_wordHere_S0 {l : Launch} {p : Program} {e : Env} {s : State} {m : MethodId} {args : Array Value} {below : List Frame} {meth : Method} {c : Code} (G : tw_G) (sz : Nat) (hC : tw_C G p s m args meth c RX9 cX9_wordHere 3 (some .int)) (this : Nat)  : ∀ (k : Nat) (st : (Int × Int × tm_H) ⊕ (Int × Int × Nat × Int × Int × tm_H)) (out : Int × tm_H), tm_wit (fX9_wordHere_S0 this) k st = some out → match st with
    | .inl ((x1, x2, h)) => ∀ (H : Heap) (locs : List Loc) (ls : Array Slot), tm_rg x1 → tm_rg x2 → tw_Rel G sz h H → tw_L G locs → lv_has ls 3 [(0, .ref this), (1, .int (tw_I x1)), (2, .int (tw_I x2))] → W p l e rmX9_wordHere s m args below meth c H locs 0 0 (MQ below (tw_Qi G sz out.1 out.2) args s 0 0 (tw_F G)) (F0 m 75 ls [])
    | .inr ((x1, x2, s0, s1, s2, h)) => ∀ (H : Heap) (locs : List Loc) (ls : Array Slot), tm_rg x1 → tm_rg x2 → tm_rg s1 → tm_rg s2 → tw_Rel G sz h H → tw_L G locs → lv_has ls 3 [(0, .ref this), (1, .int (tw_I x1)), (2, .int (tw_I x2))] → W p l e rmX9_wordHere s m args below meth c H locs 0 0 (MQ below (tw_Qi G sz out.1 out.2) args s 0 0 (tw_F G)) (F0 m 119 ls [.int (tw_I s2), .int (tw_I s1), .ref s0]) := by
  intro k
  induction k with
  | zero =>
    intro st out hk
    exact absurd hk (by unfold tm_wit; exact fun z => by cases z)
  | succ k ih =>
    intro st out hk
    obtain ⟨X, hk, hf⟩ := tm_wit_succ hk
    obtain ⟨x1, x2, h⟩ | ⟨x1, x2, s0, s1, s2, h⟩ := st
    · intro H locs ls gx1 gx2 hR hL hl
      dsimp only [fX9_wordHere_S0] at hk
      refine lv_iload_n hC.1 hC.2.1 dX9_wordHere_75 rfl (lv_at hl 2 rfl) ?_
      refine lv_bipush (v := tw_I 8) hC.1 hC.2.1 dX9_wordHere_76 (by decide) ?_
      refine tw_cge (tgt := 126) hC hk gx2 ((tw_rgL rfl)) dX9_wordHere_78 (by decide) (fun _ hk => ?_) (fun _ hk => ?_)
      · refine lv_aload_n hC.1 hC.2.1 dX9_wordHere_81 rfl (lv_at hl 0 rfl) ?_
        refine tw_getR hC hR hk flX9_22 dX9_wordHere_82 (fun r11 hk => ?_)
        refine lv_bipush (v := tw_I 8) hC.1 hC.2.1 dX9_wordHere_85 (by decide) ?_
        refine lv_iload_n hC.1 hC.2.1 dX9_wordHere_87 rfl (lv_at hl 1 rfl) ?_
        refine tw_imul hC dX9_wordHere_88 ?_
        refine lv_iload_n hC.1 hC.2.1 dX9_wordHere_89 rfl (lv_at hl 2 rfl) ?_
        refine tw_iadd hC dX9_wordHere_90 ?_
        refine lv_aload_n hC.1 hC.2.1 dX9_wordHere_91 rfl (lv_at hl 0 rfl) ?_
        refine tw_getI hC hR hk flX9_131 dX9_wordHere_92 (fun v12 gv12 hk => ?_)
        refine lv_iload_n hC.1 hC.2.1 dX9_wordHere_95 rfl (lv_at hl 2 rfl) ?_
        refine tw_iadd hC dX9_wordHere_96 ?_
        refine lv_aload_n hC.1 hC.2.1 dX9_wordHere_97 rfl (lv_at hl 0 rfl) ?_
        refine tw_getI hC hR hk flX9_128 dX9_wordHere_98 (fun v13 gv13 hk => ?_)
        refine tw_cge (tgt := 118) hC hk ((tm_wr_rg _)) gv13 dX9_wordHere_101 (by decide) (fun _ hk => ?_) (fun _ hk => ?_)
        · refine lv_aload_n hC.1 hC.2.1 dX9_wordHere_104 rfl (lv_at hl 0 rfl) ?_
          refine tw_getR hC hR hk flX9_19 dX9_wordHere_105 (fun r14 hk => ?_)
          refine lv_aload_n hC.1 hC.2.1 dX9_wordHere_108 rfl (lv_at hl 0 rfl) ?_
          refine tw_getI hC hR hk flX9_131 dX9_wordHere_109 (fun v15 gv15 hk => ?_)
          refine lv_iload_n hC.1 hC.2.1 dX9_wordHere_112 rfl (lv_at hl 2 rfl) ?_
          refine tw_iadd hC dX9_wordHere_113 ?_
          refine tw_iald hC hR hk dX9_wordHere_114 (fun v16 gv16 hk => ?_)
          refine lv_goto (tgt := 119) hC.1 hC.2.1 dX9_wordHere_115 (by decide) ?_
          cases hk
          exact ih _ out hf H locs _ gx1 gx2 ((tm_wr_rg _)) gv16 hR hL (lv_sub hl [0, 1, 2] rfl)
        · refine lv_iconst (v := tw_I 0) hC.1 hC.2.1 dX9_wordHere_118 rfl ?_
          cases hk
          exact ih _ out hf H locs _ gx1 gx2 ((tm_wr_rg _)) ((tw_rgL rfl)) hR hL (lv_sub hl [0, 1, 2] rfl)
      · refine lv_aload_n hC.1 hC.2.1 dX9_wordHere_126 rfl (lv_at hl 0 rfl) ?_
        refine tw_getR hC hR hk flX9_7 dX9_wordHere_127 (fun r17 hk => ?_)
        refine lv_iconst (v := tw_I 1) hC.1 hC.2.1 dX9_wordHere_130 rfl ?_
        refine lv_iload_n hC.1 hC.2.1 dX9_wordHere_131 rfl (lv_at hl 1 rfl) ?_
        refine tw_iadd hC dX9_wordHere_132 ?_
        refine lv_iload_n hC.1 hC.2.1 dX9_wordHere_133 rfl (lv_at hl 1 rfl) ?_
        refine tw_iast hC hR hL gx1 hk dX9_wordHere_134 (fun h18 H locs hR hL hk => ?_)
        refine lv_aload_n hC.1 hC.2.1 dX9_wordHere_135 rfl (lv_at hl 0 rfl) ?_
        refine tw_getR hC hR hk flX9_7 dX9_wordHere_136 (fun r19 hk => ?_)
        refine lv_iconst (v := tw_I 0) hC.1 hC.2.1 dX9_wordHere_139 rfl ?_
        refine lv_dup2_11 hC.1 hC.2.1 dX9_wordHere_140 rfl rfl ?_
        refine tw_iald hC hR hk dX9_wordHere_141 (fun v20 gv20 hk => ?_)
        refine lv_iconst (v := tw_I 1) hC.1 hC.2.1 dX9_wordHere_142 rfl ?_
        refine tw_iadd hC dX9_wordHere_143 ?_
        refine tw_iast hC hR hL ((tm_wr_rg _)) hk dX9_wordHere_144 (fun h21 H locs hR hL hk => ?_)
        refine lv_iload_n hC.1 hC.2.1 dX9_wordHere_145 rfl (lv_at hl 1 rfl) ?_
        cases hk
        cases hf
        exact tw_iret hC hR hL gx1 rfl rfl dX9_wordHere_146
    · intro H locs ls gx1 gx2 gs1 gs2 hR hL hl
      dsimp only [fX9_wordHere_S0] at hk
      refine tw_iast hC hR hL gs2 hk dX9_wordHere_119 (fun h22 H locs hR hL hk => ?_)
      refine tw_iinc (lv' := [(2, .int (tw_I (tm_wr (x2 + 1)))), (0, .ref this), (1, .int (tw_I x1))]) hC dX9_wordHere_120 hl (k := 2) rfl (by decide) rfl (fun ls hl => ?_)
      refine lv_goto (tgt := 75) hC.1 hC.2.1 dX9_wordHere_123 (by decide) ?_
      cases hk
      exact ih _ out hf H locs _ gx1 ((tm_wr_rg _)) hR hL (lv_sub hl [1, 2, 0] rfl)
theorem sX9_wordHere_L75 {l : Launch} {p : Program} {e : Env} {s : State} {m : MethodId} {args : Array Value} {below : List Frame} {meth : Method} {c : Code} (G : tw_G) (sz : Nat) (hC : tw_C G p s m args meth c RX9 cX9_wordHere 3 (some .int)) (this : Nat)  (x1 : Int) (x2 : Int) (h : tm_H) (gx1 : tm_rg x1) (gx2 : tm_rg x2) (out : Int × tm_H) (hk : fX9_wordHere_L75 this x1 x2 h = some out) (H : Heap) (locs : List Loc) (ls : Array Slot) (hR : tw_Rel G sz h H) (hL : tw_L G locs) (hl : lv_has ls 3 [(0, .ref this), (1, .int (tw_I x1)), (2, .int (tw_I x2))]) : W p l e rmX9_wordHere s m args below meth c H locs 0 0 (MQ below (tw_Qi G sz out.1 out.2) args s 0 0 (tw_F G)) (F0 m 75 ls []) := by
  obtain ⟨k, hk⟩ := tm_wl_iff.mp hk
  exact sX9_wordHere_S0 G sz hC this  k (.inl ((x1, x2, h))) out hk H locs ls gx1 gx2 hR hL hl
theorem sX9_wordHere_L119 {l : Launch} {p : Program} {e : Env} {s : State} {m : MethodId} {args : Array Value} {below : List Frame} {meth : Method} {c : Code} (G : tw_G) (sz : Nat) (hC : tw_C G p s m args meth c RX9 cX9_wordHere 3 (some .int)) (this : Nat)  (x1 : Int) (x2 : Int) (s0 : Nat) (s1 : Int) (s2 : Int) (h : tm_H) (gx1 : tm_rg x1) (gx2 : tm_rg x2) (gs1 : tm_rg s1) (gs2 : tm_rg s2) (out : Int × tm_H) (hk : fX9_wordHere_L119 this x1 x2 s0 s1 s2 h = some out) (H : Heap) (locs : List Loc) (ls : Array Slot) (hR : tw_Rel G sz h H) (hL : tw_L G locs) (hl : lv_has ls 3 [(0, .ref this), (1, .int (tw_I x1)), (2, .int (tw_I x2))]) : W p l e rmX9_wordHere s m args below meth c H locs 0 0 (MQ below (tw_Qi G sz out.1 out.2) args s 0 0 (tw_F G)) (F0 m 119 ls [.int (tw_I s2), .int (tw_I s1), .ref s0]) := by
  obtain ⟨k, hk⟩ := tm_wl_iff.mp hk
  exact sX9_wordHere_S0 G sz hC this  k (.inr ((x1, x2, s0, s1, s2, h))) out hk H locs ls gx1 gx2 gs1 gs2 hR hL hl
set_option maxRecDepth 100000 in
set_option maxHeartbeats 4000000 in
theorem sX9_wordHere_S1 {l : Launch} {p : Program} {e : Env} {s : State} {m : MethodId} {args : Array Value} {below : List Frame} {meth : Method} {c : Code} (G : tw_G) (sz : Nat) (hC : tw_C G p s m args meth c RX9 cX9_wordHere 3 (some .int)) (this : Nat)  : ∀ (k : Nat) (st : (Int × tm_H)) (out : Int × tm_H), tm_wit (fX9_wordHere_S1 this) k st = some out → match st with
    | (x1, h) => ∀ (H : Heap) (locs : List Loc) (ls : Array Slot), tm_rg x1 → tw_Rel G sz h H → tw_L G locs → lv_has ls 3 [(0, .ref this), (1, .int (tw_I x1))] → W p l e rmX9_wordHere s m args below meth c H locs 0 0 (MQ below (tw_Qi G sz out.1 out.2) args s 0 0 (tw_F G)) (F0 m 26 ls []) := by
  intro k
  induction k with
  | zero =>
    intro st out hk
    exact absurd hk (by unfold tm_wit; exact fun z => by cases z)
  | succ k ih =>
    intro st out hk
    obtain ⟨X, hk, hf⟩ := tm_wit_succ hk
    obtain ⟨x1, h⟩ := st
    intro H locs ls gx1 hR hL hl
    dsimp only [fX9_wordHere_S1] at hk
    refine lv_iload_n hC.1 hC.2.1 dX9_wordHere_26 rfl (lv_at hl 1 rfl) ?_
    refine lv_aload_n hC.1 hC.2.1 dX9_wordHere_27 rfl (lv_at hl 0 rfl) ?_
    refine tw_getR hC hR hk flX9_7 dX9_wordHere_28 (fun r4 hk => ?_)
    refine lv_iconst (v := tw_I 0) hC.1 hC.2.1 dX9_wordHere_31 rfl ?_
    refine tw_iald hC hR hk dX9_wordHere_32 (fun v5 gv5 hk => ?_)
    refine tw_cge (tgt := 52) hC hk gx1 gv5 dX9_wordHere_33 (by decide) (fun _ hk => ?_) (fun _ hk => ?_)
    · refine lv_aload_n hC.1 hC.2.1 dX9_wordHere_36 rfl (lv_at hl 0 rfl) ?_
      refine lv_iload_n hC.1 hC.2.1 dX9_wordHere_37 rfl (lv_at hl 1 rfl) ?_
      refine kX9_isLike hC hR hL hk gx1 mlX9_140 ⟨by decide, by decide⟩ hl.1 (Nat.le_of_ble_eq_true rfl) ⟨Nat.zero_le _, Nat.zero_le _⟩ dX9_wordHere_38 (fun v6 H locs hR hL gv6 hk => ?_)
      refine tw_zeq (tgt := 46) hC hk gv6 dX9_wordHere_41 (by decide) (fun _ hk => ?_) (fun _ hk => ?_)
      · refine tw_iinc (lv' := [(1, .int (tw_I (tm_wr (x1 + 1)))), (0, .ref this)]) hC dX9_wordHere_46 hl (k := 1) rfl (by decide) rfl (fun ls hl => ?_)
        refine lv_goto (tgt := 26) hC.1 hC.2.1 dX9_wordHere_49 (by decide) ?_
        cases hk
        exact ih _ out hf H locs _ ((tm_wr_rg _)) hR hL (lv_sub hl [1, 0] rfl)
      · refine lv_iload_n hC.1 hC.2.1 dX9_wordHere_44 rfl (lv_at hl 1 rfl) ?_
        cases hk
        cases hf
        exact tw_iret hC hR hL gx1 rfl rfl dX9_wordHere_45
    · refine lv_aload_n hC.1 hC.2.1 dX9_wordHere_52 rfl (lv_at hl 0 rfl) ?_
      refine tw_getR hC hR hk flX9_7 dX9_wordHere_53 (fun r7 hk => ?_)
      refine lv_iconst (v := tw_I 0) hC.1 hC.2.1 dX9_wordHere_56 rfl ?_
      refine tw_iald hC hR hk dX9_wordHere_57 (fun v8 gv8 hk => ?_)
      refine lv_bipush (v := tw_I 60) hC.1 hC.2.1 dX9_wordHere_58 (by decide) ?_
      refine tw_cne (tgt := 66) hC hk gv8 ((tw_rgL rfl)) dX9_wordHere_60 (by decide) (fun _ hk => ?_) (fun _ hk => ?_)
      · refine lv_bipush (v := tw_I (-99)) hC.1 hC.2.1 dX9_wordHere_63 (by decide) ?_
        cases hk
        cases hf
        exact tw_iret hC hR hL ((tw_rgL rfl)) rfl rfl dX9_wordHere_65
      · refine lv_aload_n hC.1 hC.2.1 dX9_wordHere_66 rfl (lv_at hl 0 rfl) ?_
        refine tw_getR hC hR hk flX9_7 dX9_wordHere_67 (fun r9 hk => ?_)
        refine lv_iconst (v := tw_I 0) hC.1 hC.2.1 dX9_wordHere_70 rfl ?_
        refine tw_iald hC hR hk dX9_wordHere_71 (fun v10 gv10 hk => ?_)
        refine lv_istore_n (lv' := [(1, .int (tw_I v10)), (0, .ref this)]) hC.1 hC.2.1 dX9_wordHere_72 rfl hl (by decide) rfl (fun ls hl => ?_)
        refine lv_iconst (v := tw_I 0) hC.1 hC.2.1 dX9_wordHere_73 rfl ?_
        refine lv_istore_n (lv' := [(2, .int (tw_I 0)), (1, .int (tw_I v10)), (0, .ref this)]) hC.1 hC.2.1 dX9_wordHere_74 rfl hl (by decide) rfl (fun ls hl => ?_)
        obtain ⟨r, hk2, hX⟩ := tm_out_some hk
        rw [hX] at hf
        have hr : r = out := Option.some.inj hf
        rw [hr] at hk2
        exact sX9_wordHere_L75 G sz hC this v10 0 h gv10 ((tw_rgL rfl)) out hk2 H locs _ hR hL (lv_sub hl [2, 1, 0] rfl)
theorem sX9_wordHere_L26 {l : Launch} {p : Program} {e : Env} {s : State} {m : MethodId} {args : Array Value} {below : List Frame} {meth : Method} {c : Code} (G : tw_G) (sz : Nat) (hC : tw_C G p s m args meth c RX9 cX9_wordHere 3 (some .int)) (this : Nat)  (x1 : Int) (h : tm_H) (gx1 : tm_rg x1) (out : Int × tm_H) (hk : fX9_wordHere_L26 this x1 h = some out) (H : Heap) (locs : List Loc) (ls : Array Slot) (hR : tw_Rel G sz h H) (hL : tw_L G locs) (hl : lv_has ls 3 [(0, .ref this), (1, .int (tw_I x1))]) : W p l e rmX9_wordHere s m args below meth c H locs 0 0 (MQ below (tw_Qi G sz out.1 out.2) args s 0 0 (tw_F G)) (F0 m 26 ls []) := by
  obtain ⟨k, hk⟩ := tm_wl_iff.mp hk
  exact sX9_wordHere_S1 G sz hC this  k ((x1, h)) out hk H locs ls gx1 hR hL hl
set_option maxRecDepth 100000 in
set_option maxHeartbeats 4000000 in
theorem cX9_wordHere_ok (l : Launch) (G : tw_G) (sz : Nat) (this : Nat)  (h : tm_H) (out : Int × tm_H) (hk : fX9_wordHere this h = some out) : Met l yX9_wordHere (tw_WS yX9_wordHere cX9_wordHere 3 (some .int)) rmX9_wordHere (va_Pc [.ref this] (tw_Pre G sz h)) (tw_Qi G sz out.1 out.2) 0 0 (tw_F G) := by
  refine tw_met (by decide +kernel) (Nat.le_of_ble_eq_true rfl) ?_
  intro p e s m args below meth c H ls hC hnm hR hl
  unfold fX9_wordHere at hk
  obtain ⟨hob, hk⟩ := tm_th_is hk
  have hl : lv_has ls 3 [(0, .ref this)] := hl
  have hL : tw_L G [] := fun q z => by cases z
  generalize hlc : ([] : List Loc) = locs at hL ⊢
  refine lv_aload_n hC.1 hC.2.1 dX9_wordHere_0 rfl (lv_at hl 0 rfl) ?_
  refine kX9_isRun hC hR hL hk mlX9_137 ⟨by decide, by decide⟩ hl.1 (Nat.le_of_ble_eq_true rfl) ⟨Nat.zero_le _, Nat.zero_le _⟩ dX9_wordHere_1 (fun v1 H locs hR hL gv1 hk => ?_)
  refine tw_zeq (tgt := 21) hC hk gv1 dX9_wordHere_4 (by decide) (fun _ hk => ?_) (fun _ hk => ?_)
  · refine lv_bipush (v := tw_I (-99)) hC.1 hC.2.1 dX9_wordHere_21 (by decide) ?_
    cases hk
    exact tw_iret hC hR hL ((tw_rgL rfl)) rfl rfl dX9_wordHere_23
  · refine lv_aload_n hC.1 hC.2.1 dX9_wordHere_7 rfl (lv_at hl 0 rfl) ?_
    refine tw_getI hC hR hk flX9_128 dX9_wordHere_8 (fun v2 gv2 hk => ?_)
    refine lv_aload_n hC.1 hC.2.1 dX9_wordHere_11 rfl (lv_at hl 0 rfl) ?_
    refine tw_getI hC hR hk flX9_131 dX9_wordHere_12 (fun v3 gv3 hk => ?_)
    refine tw_isub hC dX9_wordHere_15 ?_
    refine lv_bipush (v := tw_I 8) hC.1 hC.2.1 dX9_wordHere_16 (by decide) ?_
    refine tw_cle (tgt := 24) hC hk ((tm_wr_rg _)) ((tw_rgL rfl)) dX9_wordHere_18 (by decide) (fun _ hk => ?_) (fun _ hk => ?_)
    · refine lv_bipush (v := tw_I (-99)) hC.1 hC.2.1 dX9_wordHere_21 (by decide) ?_
      cases hk
      exact tw_iret hC hR hL ((tw_rgL rfl)) rfl rfl dX9_wordHere_23
    · refine lv_iconst (v := tw_I 0) hC.1 hC.2.1 dX9_wordHere_24 rfl ?_
      refine lv_istore_n (lv' := [(1, .int (tw_I 0)), (0, .ref this)]) hC.1 hC.2.1 dX9_wordHere_25 rfl hl (by decide) rfl (fun ls hl => ?_)
      exact sX9_wordHere_L26 G sz hC this 0 h ((tw_rgL rfl)) out hk H locs _ hR hL (lv_sub hl [1, 0] rfl)
set_option maxRecDepth 100000 in
theorem kX9_wordHere {l : Launch} {p : Program} {e : Env} {R : Room} {s : State} {m : MethodId} {args : Array Value} {below : List Frame} {meth : Method} {c : Code} {H : Heap} {locs : List Loc} {cells slots : Nat} {Q : State → Prop} {cc : ByteArray} {pc nL idx : Nat} {ls : Array Slot} {rest : List Value} {G : tw_G} {h : tm_H} {own : String} {ret : Option FieldType} {α : Type} {x : α} {sz : Nat} {this : Nat} (hC : tw_C G p s m args meth c own cc nL ret) (hR : tw_Rel G sz h H) (hL : tw_L G locs) {F : Int × tm_H → Option α} (hk : (fX9_wordHere this h).bind F = some x)  (hl : tw_mL own idx yX9_wordHere) (hRm : rmX9_wordHere.frames + 1 ≤ R.frames ∧ 8 + (3 + 11) + rmX9_wordHere.locals ≤ R.locals) (hsz : ls.size = nL) (hW : (rest.map fun v => v.category).sum ≤ 8) (hf : cells + 0 ≤ R.cells ∧ slots + 0 ≤ R.slots) (hdg : decode cc pc = .ok (.invokevirtual idx, 3)) (kk : ∀ (r : Int) (h1 : tm_H) (H1 : Heap) (locs1 : List Loc), tw_Rel G sz h1 H1 → tw_L G locs1 → tm_rg r → F (r, h1) = some x → W p l e R s m args below meth c H1 locs1 (cells + 0) (slots + 0) Q (F0 m (pc + 3) ls (.int (tw_I r) :: rest))) : W p l e R s m args below meth c H locs cells slots Q (F0 m pc ls (.ref this :: rest)) := by
  obtain ⟨r, hr, hF⟩ := Option.bind_eq_some_iff.mp hk
  have ob : ∀ r, fX9_wordHere this h = some r → tm_is h 9 this := fun r hr => by
    unfold fX9_wordHere at hr
    exact (tm_th_is hr).1
  exact tw_backi (tw_runV hC hR (cX9_wordHere_ok l G sz this  h r hr) (n := 0) (As := []) ⟨tw_in_TB 1010 (by decide +kernel) rfl, tw_in_TB 62 (by decide +kernel) rfl, by decide +kernel⟩ (tw_in_TB 1009 (by decide +kernel) rfl) (tw_in_TB 41 (by decide +kernel) rfl) hl ⟨rfl, rfl⟩ hRm (ob r hr) (T := TX9) (N := 15) rfl rfl hsz rfl hW hdg hf) hL (fun H1 locs1 a b g => kk r.1 r.2 H1 locs1 a b g hF)
def rmX9_takesWords : Room := { frames := 4, cells := 0, slots := 0, locals := 85 }
set_option maxRecDepth 100000 in
set_option maxHeartbeats 4000000 in
theorem sX9_takesWords_S0 {l : Launch} {p : Program} {e : Env} {s : State} {m : MethodId} {args : Array Value} {below : List Frame} {meth : Method} {c : Code} (G : tw_G) (sz : Nat) (hC : tw_C G p s m args meth c RX9 cX9_takesWords 3 (some .boolean)) (this : Nat) (a1 : Int) (ga1 : tm_rg a1) : ∀ (k : Nat) (st : (tm_H) ⊕ (Int × tm_H)) (out : Int × tm_H), tm_wit (fX9_takesWords_S0 this a1) k st = some out → match st with
    | .inl ((h)) => ∀ (H : Heap) (locs : List Loc) (ls : Array Slot), tw_Rel G sz h H → tw_L G locs → lv_has ls 3 [(0, .ref this), (1, .int (tw_I a1))] → W p l e rmX9_takesWords s m args below meth c H locs 0 0 (MQ below (tw_Qi G sz out.1 out.2) args s 0 0 (tw_F G)) (F0 m 9 ls [])
    | .inr ((s0, h)) => ∀ (H : Heap) (locs : List Loc) (ls : Array Slot), tm_rg s0 → tw_Rel G sz h H → tw_L G locs → lv_has ls 3 [(0, .ref this), (1, .int (tw_I a1))] → W p l e rmX9_takesWords s m args below meth c H locs 0 0 (MQ below (tw_Qi G sz out.1 out.2) args s 0 0 (tw_F G)) (F0 m 33 ls [.int (tw_I s0)]) := by
  intro k
  induction k with
  | zero =>
    intro st out hk
    exact absurd hk (by unfold tm_wit; exact fun z => by cases z)
  | succ k ih =>
    intro st out hk
    obtain ⟨X, hk, hf⟩ := tm_wit_succ hk
    obtain h | ⟨s0, h⟩ := st
    · intro H locs ls  hR hL hl
      dsimp only [fX9_takesWords_S0] at hk
      refine lv_aload_n hC.1 hC.2.1 dX9_takesWords_9 rfl (lv_at hl 0 rfl) ?_
      refine kX9_isRun hC hR hL hk mlX9_137 ⟨by decide, by decide⟩ hl.1 (Nat.le_of_ble_eq_true rfl) ⟨Nat.zero_le _, Nat.zero_le _⟩ dX9_takesWords_10 (fun v3 H locs hR hL gv3 hk => ?_)
      refine tw_zeq (tgt := 69) hC hk gv3 dX9_takesWords_13 (by decide) (fun _ hk => ?_) (fun _ hk => ?_)
      · refine lv_iconst (v := tw_I 1) hC.1 hC.2.1 dX9_takesWords_69 rfl ?_
        cases hk
        cases hf
        exact tw_zret hC hR hL rfl rfl dX9_takesWords_70
      · refine lv_aload_n hC.1 hC.2.1 dX9_takesWords_16 rfl (lv_at hl 0 rfl) ?_
        refine tw_getI hC hR hk flX9_143 dX9_takesWords_17 (fun v4 gv4 hk => ?_)
        refine lv_iload_n hC.1 hC.2.1 dX9_takesWords_20 rfl (lv_at hl 1 rfl) ?_
        refine tw_cne (tgt := 29) hC hk gv4 ga1 dX9_takesWords_21 (by decide) (fun _ hk => ?_) (fun _ hk => ?_)
        · refine lv_bipush (v := tw_I (-99)) hC.1 hC.2.1 dX9_takesWords_24 (by decide) ?_
          refine lv_goto (tgt := 33) hC.1 hC.2.1 dX9_takesWords_26 (by decide) ?_
          cases hk
          exact ih _ out hf H locs _ ((tw_rgL rfl)) hR hL (lv_sub hl [0, 1] rfl)
        · refine lv_aload_n hC.1 hC.2.1 dX9_takesWords_29 rfl (lv_at hl 0 rfl) ?_
          refine kX9_wordHere hC hR hL hk mlX9_149 ⟨by decide, by decide⟩ hl.1 (Nat.le_of_ble_eq_true rfl) ⟨Nat.zero_le _, Nat.zero_le _⟩ dX9_takesWords_30 (fun v5 h5 H locs hR hL gv5 hk => ?_)
          cases hk
          exact ih _ out hf H locs _ gv5 hR hL (lv_sub hl [0, 1] rfl)
    · intro H locs ls gs0 hR hL hl
      dsimp only [fX9_takesWords_S0] at hk
      refine lv_istore_n (lv' := [(2, .int (tw_I s0)), (0, .ref this), (1, .int (tw_I a1))]) hC.1 hC.2.1 dX9_takesWords_33 rfl hl (by decide) rfl (fun ls hl => ?_)
      refine lv_iload_n hC.1 hC.2.1 dX9_takesWords_34 rfl (lv_at hl 0 rfl) ?_
      refine lv_bipush (v := tw_I (-99)) hC.1 hC.2.1 dX9_takesWords_35 (by decide) ?_
      refine tw_cne (tgt := 42) hC hk gs0 ((tw_rgL rfl)) dX9_takesWords_37 (by decide) (fun _ hk => ?_) (fun _ hk => ?_)
      · refine lv_iconst (v := tw_I 0) hC.1 hC.2.1 dX9_takesWords_40 rfl ?_
        cases hk
        cases hf
        exact tw_zret hC hR hL rfl rfl dX9_takesWords_41
      · refine lv_aload_n hC.1 hC.2.1 dX9_takesWords_42 rfl (lv_at hl 1 rfl) ?_
        refine tw_getR hC hR hk flX9_38 dX9_takesWords_43 (fun r6 hk => ?_)
        refine lv_aload_n hC.1 hC.2.1 dX9_takesWords_46 rfl (lv_at hl 1 rfl) ?_
        refine tw_getI hC hR hk flX9_143 dX9_takesWords_47 (fun v7 gv7 hk => ?_)
        refine lv_iload_n hC.1 hC.2.1 dX9_takesWords_50 rfl (lv_at hl 0 rfl) ?_
        refine tw_iast hC hR hL gs0 hk dX9_takesWords_51 (fun h8 H locs hR hL hk => ?_)
        refine lv_aload_n hC.1 hC.2.1 dX9_takesWords_52 rfl (lv_at hl 1 rfl) ?_
        refine lv_dup hC.1 hC.2.1 dX9_takesWords_53 rfl ?_
        refine tw_getI hC hR hk flX9_143 dX9_takesWords_54 (fun v9 gv9 hk => ?_)
        refine lv_iconst (v := tw_I 1) hC.1 hC.2.1 dX9_takesWords_57 rfl ?_
        refine tw_iadd hC dX9_takesWords_58 ?_
        refine tw_putI hC hR hL ((tm_wr_rg _)) hk fpX9_143 dX9_takesWords_59 (fun h10 H locs hR hL hk => ?_)
        refine lv_aload_n hC.1 hC.2.1 dX9_takesWords_62 rfl (lv_at hl 1 rfl) ?_
        refine kX9_token hC hR hL hk mlX9_146 ⟨by decide, by decide⟩ hl.1 (Nat.le_of_ble_eq_true rfl) ⟨Nat.zero_le _, Nat.zero_le _⟩ dX9_takesWords_63 (fun h11 H locs hR hL hk => ?_)
        refine lv_goto (tgt := 9) hC.1 hC.2.1 dX9_takesWords_66 (by decide) ?_
        cases hk
        exact ih _ out hf H locs _  hR hL (lv_sub hl [1, 2] rfl)
theorem sX9_takesWords_L9 {l : Launch} {p : Program} {e : Env} {s : State} {m : MethodId} {args : Array Value} {below : List Frame} {meth : Method} {c : Code} (G : tw_G) (sz : Nat) (hC : tw_C G p s m args meth c RX9 cX9_takesWords 3 (some .boolean)) (this : Nat) (a1 : Int) (ga1 : tm_rg a1)  (h : tm_H)  (out : Int × tm_H) (hk : fX9_takesWords_L9 this a1 h = some out) (H : Heap) (locs : List Loc) (ls : Array Slot) (hR : tw_Rel G sz h H) (hL : tw_L G locs) (hl : lv_has ls 3 [(0, .ref this), (1, .int (tw_I a1))]) : W p l e rmX9_takesWords s m args below meth c H locs 0 0 (MQ below (tw_Qi G sz out.1 out.2) args s 0 0 (tw_F G)) (F0 m 9 ls []) := by
  obtain ⟨k, hk⟩ := tm_wl_iff.mp hk
  exact sX9_takesWords_S0 G sz hC this a1 ga1 k (.inl ((h))) out hk H locs ls  hR hL hl
theorem sX9_takesWords_L33 {l : Launch} {p : Program} {e : Env} {s : State} {m : MethodId} {args : Array Value} {below : List Frame} {meth : Method} {c : Code} (G : tw_G) (sz : Nat) (hC : tw_C G p s m args meth c RX9 cX9_takesWords 3 (some .boolean)) (this : Nat) (a1 : Int) (ga1 : tm_rg a1) (s0 : Int) (h : tm_H) (gs0 : tm_rg s0) (out : Int × tm_H) (hk : fX9_takesWords_L33 this a1 s0 h = some out) (H : Heap) (locs : List Loc) (ls : Array Slot) (hR : tw_Rel G sz h H) (hL : tw_L G locs) (hl : lv_has ls 3 [(0, .ref this), (1, .int (tw_I a1))]) : W p l e rmX9_takesWords s m args below meth c H locs 0 0 (MQ below (tw_Qi G sz out.1 out.2) args s 0 0 (tw_F G)) (F0 m 33 ls [.int (tw_I s0)]) := by
  obtain ⟨k, hk⟩ := tm_wl_iff.mp hk
  exact sX9_takesWords_S0 G sz hC this a1 ga1 k (.inr ((s0, h))) out hk H locs ls gs0 hR hL hl
set_option maxRecDepth 100000 in
set_option maxHeartbeats 4000000 in
theorem cX9_takesWords_ok (l : Launch) (G : tw_G) (sz : Nat) (this : Nat) (a1 : Int) (ga1 : tm_rg a1) (h : tm_H) (out : Int × tm_H) (hk : fX9_takesWords this a1 h = some out) : Met l yX9_takesWords (tw_WS yX9_takesWords cX9_takesWords 3 (some .boolean)) rmX9_takesWords (va_Pc [.ref this, .int (tw_I a1)] (tw_Pre G sz h)) (tw_Qi G sz out.1 out.2) 0 0 (tw_F G) := by
  refine tw_met (by decide +kernel) (Nat.le_of_ble_eq_true rfl) ?_
  intro p e s m args below meth c H ls hC hnm hR hl
  unfold fX9_takesWords at hk
  obtain ⟨hob, hk⟩ := tm_th_is hk
  have hl : lv_has ls 3 [(0, .ref this), (1, .int (tw_I a1))] := hl
  have hL : tw_L G [] := fun q z => by cases z
  generalize hlc : ([] : List Loc) = locs at hL ⊢
  refine lv_aload_n hC.1 hC.2.1 dX9_takesWords_0 rfl (lv_at hl 0 rfl) ?_
  refine lv_iconst (v := tw_I 0) hC.1 hC.2.1 dX9_takesWords_1 rfl ?_
  refine tw_putI hC hR hL ((tw_rgL rfl)) hk fpX9_143 dX9_takesWords_2 (fun h1 H locs hR hL hk => ?_)
  refine lv_aload_n hC.1 hC.2.1 dX9_takesWords_5 rfl (lv_at hl 0 rfl) ?_
  refine kX9_token hC hR hL hk mlX9_146 ⟨by decide, by decide⟩ hl.1 (Nat.le_of_ble_eq_true rfl) ⟨Nat.zero_le _, Nat.zero_le _⟩ dX9_takesWords_6 (fun h2 H locs hR hL hk => ?_)
  exact sX9_takesWords_L9 G sz hC this a1 ga1 h2 out hk H locs _ hR hL (lv_sub hl [0, 1] rfl)
set_option maxRecDepth 100000 in
theorem kX9_takesWords {l : Launch} {p : Program} {e : Env} {R : Room} {s : State} {m : MethodId} {args : Array Value} {below : List Frame} {meth : Method} {c : Code} {H : Heap} {locs : List Loc} {cells slots : Nat} {Q : State → Prop} {cc : ByteArray} {pc nL idx : Nat} {ls : Array Slot} {rest : List Value} {G : tw_G} {h : tm_H} {own : String} {ret : Option FieldType} {α : Type} {x : α} {sz : Nat} {this : Nat} {a1 : Int} (hC : tw_C G p s m args meth c own cc nL ret) (hR : tw_Rel G sz h H) (hL : tw_L G locs) {F : Int × tm_H → Option α} (hk : (fX9_takesWords this a1 h).bind F = some x) (ga1 : tm_rg a1) (hl : tw_mL own idx yX9_takesWords) (hRm : rmX9_takesWords.frames + 1 ≤ R.frames ∧ 8 + (3 + 11) + rmX9_takesWords.locals ≤ R.locals) (hsz : ls.size = nL) (hW : (rest.map fun v => v.category).sum ≤ 8) (hf : cells + 0 ≤ R.cells ∧ slots + 0 ≤ R.slots) (hdg : decode cc pc = .ok (.invokevirtual idx, 3)) (kk : ∀ (r : Int) (h1 : tm_H) (H1 : Heap) (locs1 : List Loc), tw_Rel G sz h1 H1 → tw_L G locs1 → tm_rg r → F (r, h1) = some x → W p l e R s m args below meth c H1 locs1 (cells + 0) (slots + 0) Q (F0 m (pc + 3) ls (.int (tw_I r) :: rest))) : W p l e R s m args below meth c H locs cells slots Q (F0 m pc ls (.int (tw_I a1) :: .ref this :: rest)) := by
  obtain ⟨r, hr, hF⟩ := Option.bind_eq_some_iff.mp hk
  have ob : ∀ r, fX9_takesWords this a1 h = some r → tm_is h 9 this := fun r hr => by
    unfold fX9_takesWords at hr
    exact (tm_th_is hr).1
  exact tw_backi (tw_runV hC hR (cX9_takesWords_ok l G sz this a1 ga1 h r hr) (n := 1) (As := [.int (tw_I a1)]) ⟨tw_in_TB 1006 (by decide +kernel) rfl, tw_in_TB 62 (by decide +kernel) rfl, by decide +kernel⟩ (tw_in_TB 1005 (by decide +kernel) rfl) (tw_in_TB 40 (by decide +kernel) rfl) hl ⟨rfl, rfl⟩ hRm (ob r hr) (T := TX9) (N := 15) rfl rfl hsz rfl hW hdg hf) hL (fun H1 locs1 a b g => kk r.1 r.2 H1 locs1 a b g hF)
def rmX9_takesChapter : Room := { frames := 5, cells := 0, slots := 0, locals := 107 }
set_option maxRecDepth 100000 in
set_option maxHeartbeats 4000000 in
theorem sX9_takesChapter_S0 {l : Launch} {p : Program} {e : Env} {s : State} {m : MethodId} {args : Array Value} {below : List Frame} {meth : Method} {c : Code} (G : tw_G) (sz : Nat) (hC : tw_C G p s m args meth c RX9 cX9_takesChapter 3 (some .boolean)) (this : Nat)  : ∀ (k : Nat) (st : (Int × Int × tm_H)) (out : Int × tm_H), tm_wit (fX9_takesChapter_S0 this) k st = some out → match st with
    | (x1, x2, h) => ∀ (H : Heap) (locs : List Loc) (ls : Array Slot), tm_rg x1 → tm_rg x2 → tw_Rel G sz h H → tw_L G locs → lv_has ls 3 [(0, .ref this), (1, .int (tw_I x1)), (2, .int (tw_I x2))] → W p l e rmX9_takesChapter s m args below meth c H locs 0 0 (MQ below (tw_Qi G sz out.1 out.2) args s 0 0 (tw_F G)) (F0 m 102 ls []) := by
  intro k
  induction k with
  | zero =>
    intro st out hk
    exact absurd hk (by unfold tm_wit; exact fun z => by cases z)
  | succ k ih =>
    intro st out hk
    obtain ⟨X, hk, hf⟩ := tm_wit_succ hk
    obtain ⟨x1, x2, h⟩ := st
    intro H locs ls gx1 gx2 hR hL hl
    dsimp only [fX9_takesChapter_S0] at hk
    refine lv_iload_n hC.1 hC.2.1 dX9_takesChapter_102 rfl (lv_at hl 2 rfl) ?_
    refine lv_aload_n hC.1 hC.2.1 dX9_takesChapter_103 rfl (lv_at hl 0 rfl) ?_
    refine tw_getI hC hR hk flX9_143 dX9_takesChapter_104 (fun v18 gv18 hk => ?_)
    refine tw_cge (tgt := 132) hC hk gx2 gv18 dX9_takesChapter_107 (by decide) (fun _ hk => ?_) (fun _ hk => ?_)
    · refine lv_aload_n hC.1 hC.2.1 dX9_takesChapter_110 rfl (lv_at hl 0 rfl) ?_
      refine tw_getR hC hR hk flX9_7 dX9_takesChapter_111 (fun r19 hk => ?_)
      refine lv_iload_n hC.1 hC.2.1 dX9_takesChapter_114 rfl (lv_at hl 1 rfl) ?_
      refine lv_iload_n hC.1 hC.2.1 dX9_takesChapter_115 rfl (lv_at hl 2 rfl) ?_
      refine kX9_at hC hR hL hk gx1 gx2 mlX9_49 ⟨by decide, by decide⟩ hl.1 (Nat.le_of_ble_eq_true rfl) ⟨Nat.zero_le _, Nat.zero_le _⟩ dX9_takesChapter_116 (fun v20 H locs hR hL gv20 hk => ?_)
      refine lv_aload_n hC.1 hC.2.1 dX9_takesChapter_119 rfl (lv_at hl 0 rfl) ?_
      refine tw_getR hC hR hk flX9_38 dX9_takesChapter_120 (fun r21 hk => ?_)
      refine lv_iload_n hC.1 hC.2.1 dX9_takesChapter_123 rfl (lv_at hl 2 rfl) ?_
      refine tw_iald hC hR hk dX9_takesChapter_124 (fun v22 gv22 hk => ?_)
      refine tw_iast hC hR hL gv22 hk dX9_takesChapter_125 (fun h23 H locs hR hL hk => ?_)
      refine tw_iinc (lv' := [(2, .int (tw_I (tm_wr (x2 + 1)))), (0, .ref this), (1, .int (tw_I x1))]) hC dX9_takesChapter_126 hl (k := 2) rfl (by decide) rfl (fun ls hl => ?_)
      refine lv_goto (tgt := 102) hC.1 hC.2.1 dX9_takesChapter_129 (by decide) ?_
      cases hk
      exact ih _ out hf H locs _ gx1 ((tm_wr_rg _)) hR hL (lv_sub hl [1, 2, 0] rfl)
    · refine lv_iconst (v := tw_I 1) hC.1 hC.2.1 dX9_takesChapter_132 rfl ?_
      cases hk
      cases hf
      exact tw_zret hC hR hL rfl rfl dX9_takesChapter_133
theorem sX9_takesChapter_L102 {l : Launch} {p : Program} {e : Env} {s : State} {m : MethodId} {args : Array Value} {below : List Frame} {meth : Method} {c : Code} (G : tw_G) (sz : Nat) (hC : tw_C G p s m args meth c RX9 cX9_takesChapter 3 (some .boolean)) (this : Nat)  (x1 : Int) (x2 : Int) (h : tm_H) (gx1 : tm_rg x1) (gx2 : tm_rg x2) (out : Int × tm_H) (hk : fX9_takesChapter_L102 this x1 x2 h = some out) (H : Heap) (locs : List Loc) (ls : Array Slot) (hR : tw_Rel G sz h H) (hL : tw_L G locs) (hl : lv_has ls 3 [(0, .ref this), (1, .int (tw_I x1)), (2, .int (tw_I x2))]) : W p l e rmX9_takesChapter s m args below meth c H locs 0 0 (MQ below (tw_Qi G sz out.1 out.2) args s 0 0 (tw_F G)) (F0 m 102 ls []) := by
  obtain ⟨k, hk⟩ := tm_wl_iff.mp hk
  exact sX9_takesChapter_S0 G sz hC this  k ((x1, x2, h)) out hk H locs ls gx1 gx2 hR hL hl
set_option maxRecDepth 100000 in
set_option maxHeartbeats 4000000 in
theorem cX9_takesChapter_ok (l : Launch) (G : tw_G) (sz : Nat) (this : Nat)  (h : tm_H) (out : Int × tm_H) (hk : fX9_takesChapter this h = some out) : Met l yX9_takesChapter (tw_WS yX9_takesChapter cX9_takesChapter 3 (some .boolean)) rmX9_takesChapter (va_Pc [.ref this] (tw_Pre G sz h)) (tw_Qi G sz out.1 out.2) 0 0 (tw_F G) := by
  refine tw_met (by decide +kernel) (Nat.le_of_ble_eq_true rfl) ?_
  intro p e s m args below meth c H ls hC hnm hR hl
  unfold fX9_takesChapter at hk
  obtain ⟨hob, hk⟩ := tm_th_is hk
  have hl : lv_has ls 3 [(0, .ref this)] := hl
  have hL : tw_L G [] := fun q z => by cases z
  generalize hlc : ([] : List Loc) = locs at hL ⊢
  refine lv_aload_n hC.1 hC.2.1 dX9_takesChapter_0 rfl (lv_at hl 0 rfl) ?_
  refine kX9_token hC hR hL hk mlX9_146 ⟨by decide, by decide⟩ hl.1 (Nat.le_of_ble_eq_true rfl) ⟨Nat.zero_le _, Nat.zero_le _⟩ dX9_takesChapter_1 (fun h1 H locs hR hL hk => ?_)
  refine lv_aload_n hC.1 hC.2.1 dX9_takesChapter_4 rfl (lv_at hl 0 rfl) ?_
  refine tw_getI hC hR hk flX9_128 dX9_takesChapter_5 (fun v2 gv2 hk => ?_)
  refine lv_aload_n hC.1 hC.2.1 dX9_takesChapter_8 rfl (lv_at hl 0 rfl) ?_
  refine tw_getI hC hR hk flX9_131 dX9_takesChapter_9 (fun v3 gv3 hk => ?_)
  refine lv_iconst (v := tw_I 1) hC.1 hC.2.1 dX9_takesChapter_12 rfl ?_
  refine tw_iadd hC dX9_takesChapter_13 ?_
  refine tw_cne (tgt := 36) hC hk gv2 ((tm_wr_rg _)) dX9_takesChapter_14 (by decide) (fun _ hk => ?_) (fun _ hk => ?_)
  · refine lv_aload_n hC.1 hC.2.1 dX9_takesChapter_17 rfl (lv_at hl 0 rfl) ?_
    refine tw_getR hC hR hk flX9_19 dX9_takesChapter_18 (fun r4 hk => ?_)
    refine lv_aload_n hC.1 hC.2.1 dX9_takesChapter_21 rfl (lv_at hl 0 rfl) ?_
    refine tw_getI hC hR hk flX9_131 dX9_takesChapter_22 (fun v5 gv5 hk => ?_)
    refine tw_iald hC hR hk dX9_takesChapter_25 (fun v6 gv6 hk => ?_)
    refine lv_bipush (v := tw_I 48) hC.1 hC.2.1 dX9_takesChapter_26 (by decide) ?_
    refine lv_bipush (v := tw_I 53) hC.1 hC.2.1 dX9_takesChapter_28 (by decide) ?_
    refine kX9_in hC hR hL hk gv6 ((tw_rgL rfl)) ((tw_rgL rfl)) mlX9_45 ⟨by decide, by decide⟩ hl.1 (Nat.le_of_ble_eq_true rfl) ⟨Nat.zero_le _, Nat.zero_le _⟩ dX9_takesChapter_30 (fun v7 H locs hR hL gv7 hk => ?_)
    refine tw_zne (tgt := 38) hC hk gv7 dX9_takesChapter_33 (by decide) (fun _ hk => ?_) (fun _ hk => ?_)
    · refine lv_iconst (v := tw_I 0) hC.1 hC.2.1 dX9_takesChapter_36 rfl ?_
      cases hk
      exact tw_zret hC hR hL rfl rfl dX9_takesChapter_37
    · refine lv_aload_n hC.1 hC.2.1 dX9_takesChapter_38 rfl (lv_at hl 0 rfl) ?_
      refine tw_getR hC hR hk flX9_19 dX9_takesChapter_39 (fun r8 hk => ?_)
      refine lv_aload_n hC.1 hC.2.1 dX9_takesChapter_42 rfl (lv_at hl 0 rfl) ?_
      refine tw_getI hC hR hk flX9_131 dX9_takesChapter_43 (fun v9 gv9 hk => ?_)
      refine tw_iald hC hR hk dX9_takesChapter_46 (fun v10 gv10 hk => ?_)
      refine lv_bipush (v := tw_I 48) hC.1 hC.2.1 dX9_takesChapter_47 (by decide) ?_
      refine tw_isub hC dX9_takesChapter_49 ?_
      refine lv_istore_n (lv' := [(1, .int (tw_I (tm_wr (v10 - 48)))), (0, .ref this)]) hC.1 hC.2.1 dX9_takesChapter_50 rfl hl (by decide) rfl (fun ls hl => ?_)
      refine lv_aload_n hC.1 hC.2.1 dX9_takesChapter_51 rfl (lv_at hl 1 rfl) ?_
      refine kX9_token hC hR hL hk mlX9_146 ⟨by decide, by decide⟩ hl.1 (Nat.le_of_ble_eq_true rfl) ⟨Nat.zero_le _, Nat.zero_le _⟩ dX9_takesChapter_52 (fun h11 H locs hR hL hk => ?_)
      refine lv_aload_n hC.1 hC.2.1 dX9_takesChapter_55 rfl (lv_at hl 1 rfl) ?_
      refine lv_bipush (v := tw_I 58) hC.1 hC.2.1 dX9_takesChapter_56 (by decide) ?_
      refine kX9_isSign hC hR hL hk ((tw_rgL rfl)) mlX9_152 ⟨by decide, by decide⟩ hl.1 (Nat.le_of_ble_eq_true rfl) ⟨Nat.zero_le _, Nat.zero_le _⟩ dX9_takesChapter_58 (fun v12 H locs hR hL gv12 hk => ?_)
      refine tw_zeq (tgt := 82) hC hk gv12 dX9_takesChapter_61 (by decide) (fun _ hk => ?_) (fun _ hk => ?_)
      · refine lv_iconst (v := tw_I 0) hC.1 hC.2.1 dX9_takesChapter_82 rfl ?_
        cases hk
        exact tw_zret hC hR hL rfl rfl dX9_takesChapter_83
      · refine lv_aload_n hC.1 hC.2.1 dX9_takesChapter_64 rfl (lv_at hl 1 rfl) ?_
        refine lv_bipush (v := tw_I 40) hC.1 hC.2.1 dX9_takesChapter_65 (by decide) ?_
        refine kX9_takesWords hC hR hL hk ((tw_rgL rfl)) mlX9_155 ⟨by decide, by decide⟩ hl.1 (Nat.le_of_ble_eq_true rfl) ⟨Nat.zero_le _, Nat.zero_le _⟩ dX9_takesChapter_67 (fun v13 h13 H locs hR hL gv13 hk => ?_)
        refine tw_zeq (tgt := 82) hC hk gv13 dX9_takesChapter_70 (by decide) (fun _ hk => ?_) (fun _ hk => ?_)
        · refine lv_iconst (v := tw_I 0) hC.1 hC.2.1 dX9_takesChapter_82 rfl ?_
          cases hk
          exact tw_zret hC hR hL rfl rfl dX9_takesChapter_83
        · refine lv_aload_n hC.1 hC.2.1 dX9_takesChapter_73 rfl (lv_at hl 1 rfl) ?_
          refine lv_bipush (v := tw_I 59) hC.1 hC.2.1 dX9_takesChapter_74 (by decide) ?_
          refine kX9_isSign hC hR hL hk ((tw_rgL rfl)) mlX9_152 ⟨by decide, by decide⟩ hl.1 (Nat.le_of_ble_eq_true rfl) ⟨Nat.zero_le _, Nat.zero_le _⟩ dX9_takesChapter_76 (fun v14 H locs hR hL gv14 hk => ?_)
          refine tw_zne (tgt := 84) hC hk gv14 dX9_takesChapter_79 (by decide) (fun _ hk => ?_) (fun _ hk => ?_)
          · refine lv_iconst (v := tw_I 0) hC.1 hC.2.1 dX9_takesChapter_82 rfl ?_
            cases hk
            exact tw_zret hC hR hL rfl rfl dX9_takesChapter_83
          · refine lv_aload_n hC.1 hC.2.1 dX9_takesChapter_84 rfl (lv_at hl 1 rfl) ?_
            refine tw_getR hC hR hk flX9_7 dX9_takesChapter_85 (fun r15 hk => ?_)
            refine lv_bipush (v := tw_I 61) hC.1 hC.2.1 dX9_takesChapter_88 (by decide) ?_
            refine lv_bipush (v := tw_I 41) hC.1 hC.2.1 dX9_takesChapter_90 (by decide) ?_
            refine lv_iload_n hC.1 hC.2.1 dX9_takesChapter_92 rfl (lv_at hl 0 rfl) ?_
            refine tw_imul hC dX9_takesChapter_93 ?_
            refine tw_iadd hC dX9_takesChapter_94 ?_
            refine lv_aload_n hC.1 hC.2.1 dX9_takesChapter_95 rfl (lv_at hl 1 rfl) ?_
            refine tw_getI hC hR hk flX9_143 dX9_takesChapter_96 (fun v16 gv16 hk => ?_)
            refine tw_iast hC hR hL gv16 hk dX9_takesChapter_99 (fun h17 H locs hR hL hk => ?_)
            refine lv_iconst (v := tw_I 0) hC.1 hC.2.1 dX9_takesChapter_100 rfl ?_
            refine lv_istore_n (lv' := [(2, .int (tw_I 0)), (1, .int (tw_I (tm_wr (v10 - 48)))), (0, .ref this)]) hC.1 hC.2.1 dX9_takesChapter_101 rfl hl (by decide) rfl (fun ls hl => ?_)
            exact sX9_takesChapter_L102 G sz hC this (tm_wr (v10 - 48)) 0 h17 ((tm_wr_rg _)) ((tw_rgL rfl)) out hk H locs _ hR hL (lv_sub hl [2, 1, 0] rfl)
  · refine lv_iconst (v := tw_I 0) hC.1 hC.2.1 dX9_takesChapter_36 rfl ?_
    cases hk
    exact tw_zret hC hR hL rfl rfl dX9_takesChapter_37
set_option maxRecDepth 100000 in
theorem kX9_takesChapter {l : Launch} {p : Program} {e : Env} {R : Room} {s : State} {m : MethodId} {args : Array Value} {below : List Frame} {meth : Method} {c : Code} {H : Heap} {locs : List Loc} {cells slots : Nat} {Q : State → Prop} {cc : ByteArray} {pc nL idx : Nat} {ls : Array Slot} {rest : List Value} {G : tw_G} {h : tm_H} {own : String} {ret : Option FieldType} {α : Type} {x : α} {sz : Nat} {this : Nat} (hC : tw_C G p s m args meth c own cc nL ret) (hR : tw_Rel G sz h H) (hL : tw_L G locs) {F : Int × tm_H → Option α} (hk : (fX9_takesChapter this h).bind F = some x)  (hl : tw_mL own idx yX9_takesChapter) (hRm : rmX9_takesChapter.frames + 1 ≤ R.frames ∧ 8 + (3 + 11) + rmX9_takesChapter.locals ≤ R.locals) (hsz : ls.size = nL) (hW : (rest.map fun v => v.category).sum ≤ 8) (hf : cells + 0 ≤ R.cells ∧ slots + 0 ≤ R.slots) (hdg : decode cc pc = .ok (.invokevirtual idx, 3)) (kk : ∀ (r : Int) (h1 : tm_H) (H1 : Heap) (locs1 : List Loc), tw_Rel G sz h1 H1 → tw_L G locs1 → tm_rg r → F (r, h1) = some x → W p l e R s m args below meth c H1 locs1 (cells + 0) (slots + 0) Q (F0 m (pc + 3) ls (.int (tw_I r) :: rest))) : W p l e R s m args below meth c H locs cells slots Q (F0 m pc ls (.ref this :: rest)) := by
  obtain ⟨r, hr, hF⟩ := Option.bind_eq_some_iff.mp hk
  have ob : ∀ r, fX9_takesChapter this h = some r → tm_is h 9 this := fun r hr => by
    unfold fX9_takesChapter at hr
    exact (tm_th_is hr).1
  exact tw_backi (tw_runV hC hR (cX9_takesChapter_ok l G sz this  h r hr) (n := 0) (As := []) ⟨tw_in_TB 998 (by decide +kernel) rfl, tw_in_TB 62 (by decide +kernel) rfl, by decide +kernel⟩ (tw_in_TB 997 (by decide +kernel) rfl) (tw_in_TB 38 (by decide +kernel) rfl) hl ⟨rfl, rfl⟩ hRm (ob r hr) (T := TX9) (N := 15) rfl rfl hsz rfl hW hdg hf) hL (fun H1 locs1 a b g => kk r.1 r.2 H1 locs1 a b g hF)
