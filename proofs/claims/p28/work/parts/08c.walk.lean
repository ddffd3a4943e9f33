def rmX4_takenCount : Room := { frames := 0, cells := 0, slots := 0, locals := 0 }
set_option maxRecDepth 100000 in
set_option maxHeartbeats 4000000 in
theorem sX4_takenCount_S0 {l : Launch} {p : Program} {e : Env} {s : State} {m : MethodId} {args : Array Value} {below : List Frame} {meth : Method} {c : Code} (G : tw_G) (sz : Nat) (hC : tw_C G p s m args meth c RX4 cX4_takenCount 3 (some .int)) (this : Nat)  (h : tm_H) : ∀ (k : Nat) (st : (Int × Int) ⊕ (Int × Int)) (out : Int), tm_wit (fX4_takenCount_S0 this h) k st = some out → match st with
    | .inl ((x1, x2)) => ∀ (H : Heap) (locs : List Loc) (ls : Array Slot), tm_rg x1 → tm_rg x2 → tw_Rel G sz h H → tw_L G locs → lv_has ls 3 [(0, .ref this), (1, .int (tw_I x1)), (2, .int (tw_I x2))] → W p l e rmX4_takenCount s m args below meth c H locs 0 0 (MQ below (tw_Qi G sz out h) args s 0 0 (tw_F G)) (F0 m 4 ls [])
    | .inr ((x1, x2)) => ∀ (H : Heap) (locs : List Loc) (ls : Array Slot), tm_rg x1 → tm_rg x2 → tw_Rel G sz h H → tw_L G locs → lv_has ls 3 [(0, .ref this), (1, .int (tw_I x1)), (2, .int (tw_I x2))] → W p l e rmX4_takenCount s m args below meth c H locs 0 0 (MQ below (tw_Qi G sz out h) args s 0 0 (tw_F G)) (F0 m 21 ls []) := by
  intro k
  induction k with
  | zero =>
    intro st out hk
    exact absurd hk (by unfold tm_wit; exact fun z => by cases z)
  | succ k ih =>
    intro st out hk
    obtain ⟨X, hk, hf⟩ := tm_wit_succ hk
    obtain ⟨x1, x2⟩ | ⟨x1, x2⟩ := st
    · intro H locs ls gx1 gx2 hR hL hl
      dsimp only [fX4_takenCount_S0] at hk
      refine lv_iload_n hC.1 hC.2.1 dX4_takenCount_4 rfl (lv_at hl 2 rfl) ?_
      refine lv_iconst (v := tw_I 2) hC.1 hC.2.1 dX4_takenCount_5 rfl ?_
      refine tw_cge (tgt := 27) hC hk gx2 ((tw_rgL rfl)) dX4_takenCount_6 (by decide) (fun _ hk => ?_) (fun _ hk => ?_)
      · refine lv_aload_n hC.1 hC.2.1 dX4_takenCount_9 rfl (lv_at hl 0 rfl) ?_
        refine tw_getR hC hR hk flX4_36 dX4_takenCount_10 (fun r1 hk => ?_)
        refine lv_iload_n hC.1 hC.2.1 dX4_takenCount_13 rfl (lv_at hl 2 rfl) ?_
        refine tw_zald hC hR hk dX4_takenCount_14 (fun v2 gv2 hk => ?_)
        refine tw_zeq (tgt := 21) hC hk gv2 dX4_takenCount_15 (by decide) (fun _ hk => ?_) (fun _ hk => ?_)
        · cases hk
          exact ih _ out hf H locs _ gx1 gx2 hR hL (lv_sub hl [0, 1, 2] rfl)
        · refine tw_iinc (lv' := [(1, .int (tw_I (tm_wr (x1 + 1)))), (0, .ref this), (2, .int (tw_I x2))]) hC dX4_takenCount_18 hl (k := 1) rfl (by decide) rfl (fun ls hl => ?_)
          cases hk
          exact ih _ out hf H locs _ ((tm_wr_rg _)) gx2 hR hL (lv_sub hl [1, 0, 2] rfl)
      · refine lv_iload_n hC.1 hC.2.1 dX4_takenCount_27 rfl (lv_at hl 1 rfl) ?_
        cases hk
        cases hf
        exact tw_iret hC hR hL gx1 rfl rfl dX4_takenCount_28
    · intro H locs ls gx1 gx2 hR hL hl
      dsimp only [fX4_takenCount_S0] at hk
      refine tw_iinc (lv' := [(2, .int (tw_I (tm_wr (x2 + 1)))), (0, .ref this), (1, .int (tw_I x1))]) hC dX4_takenCount_21 hl (k := 2) rfl (by decide) rfl (fun ls hl => ?_)
      refine lv_goto (tgt := 4) hC.1 hC.2.1 dX4_takenCount_24 (by decide) ?_
      cases hk
      exact ih _ out hf H locs _ gx1 ((tm_wr_rg _)) hR hL (lv_sub hl [1, 2, 0] rfl)
theorem sX4_takenCount_L4 {l : Launch} {p : Program} {e : Env} {s : State} {m : MethodId} {args : Array Value} {below : List Frame} {meth : Method} {c : Code} (G : tw_G) (sz : Nat) (hC : tw_C G p s m args meth c RX4 cX4_takenCount 3 (some .int)) (this : Nat)  (h : tm_H) (x1 : Int) (x2 : Int) (gx1 : tm_rg x1) (gx2 : tm_rg x2) (out : Int) (hk : fX4_takenCount_L4 this h x1 x2 = some out) (H : Heap) (locs : List Loc) (ls : Array Slot) (hR : tw_Rel G sz h H) (hL : tw_L G locs) (hl : lv_has ls 3 [(0, .ref this), (1, .int (tw_I x1)), (2, .int (tw_I x2))]) : W p l e rmX4_takenCount s m args below meth c H locs 0 0 (MQ below (tw_Qi G sz out h) args s 0 0 (tw_F G)) (F0 m 4 ls []) := by
  obtain ⟨k, hk⟩ := tm_wl_iff.mp hk
  exact sX4_takenCount_S0 G sz hC this  h k (.inl ((x1, x2))) out hk H locs ls gx1 gx2 hR hL hl
theorem sX4_takenCount_L21 {l : Launch} {p : Program} {e : Env} {s : State} {m : MethodId} {args : Array Value} {below : List Frame} {meth : Method} {c : Code} (G : tw_G) (sz : Nat) (hC : tw_C G p s m args meth c RX4 cX4_takenCount 3 (some .int)) (this : Nat)  (h : tm_H) (x1 : Int) (x2 : Int) (gx1 : tm_rg x1) (gx2 : tm_rg x2) (out : Int) (hk : fX4_takenCount_L21 this h x1 x2 = some out) (H : Heap) (locs : List Loc) (ls : Array Slot) (hR : tw_Rel G sz h H) (hL : tw_L G locs) (hl : lv_has ls 3 [(0, .ref this), (1, .int (tw_I x1)), (2, .int (tw_I x2))]) : W p l e rmX4_takenCount s m args below meth c H locs 0 0 (MQ below (tw_Qi G sz out h) args s 0 0 (tw_F G)) (F0 m 21 ls []) := by
  obtain ⟨k, hk⟩ := tm_wl_iff.mp hk
  exact sX4_takenCount_S0 G sz hC this  h k (.inr ((x1, x2))) out hk H locs ls gx1 gx2 hR hL hl
set_option maxRecDepth 100000 in
set_option maxHeartbeats 4000000 in
theorem cX4_takenCount_ok (l : Launch) (G : tw_G) (sz : Nat) (this : Nat)  (h : tm_H) (out : Int) (hk : fX4_takenCount this h = some out) : Met l yX4_takenCount (tw_WS yX4_takenCount cX4_takenCount 3 (some .int)) rmX4_takenCount (va_Pc [.ref this] (tw_Pre G sz h)) (tw_Qi G sz out h) 0 0 (tw_F G) := by
  refine tw_met (by decide +kernel) (Nat.le_of_ble_eq_true rfl) ?_
  intro p e s m args below meth c H ls hC hnm hR hl
  unfold fX4_takenCount at hk
  obtain ⟨hob, hk⟩ := tm_th_is hk
  have hl : lv_has ls 3 [(0, .ref this)] := hl
  have hL : tw_L G [] := fun q z => by cases z
  generalize hlc : ([] : List Loc) = locs at hL ⊢
  refine lv_iconst (v := tw_I 0) hC.1 hC.2.1 dX4_takenCount_0 rfl ?_
  refine lv_istore_n (lv' := [(1, .int (tw_I 0)), (0, .ref this)]) hC.1 hC.2.1 dX4_takenCount_1 rfl hl (by decide) rfl (fun ls hl => ?_)
  refine lv_iconst (v := tw_I 0) hC.1 hC.2.1 dX4_takenCount_2 rfl ?_
  refine lv_istore_n (lv' := [(2, .int (tw_I 0)), (1, .int (tw_I 0)), (0, .ref this)]) hC.1 hC.2.1 dX4_takenCount_3 rfl hl (by decide) rfl (fun ls hl => ?_)
  exact sX4_takenCount_L4 G sz hC this h 0 0 ((tw_rgL rfl)) ((tw_rgL rfl)) out hk H locs _ hR hL (lv_sub hl [2, 1, 0] rfl)
set_option maxRecDepth 100000 in
theorem kX4_takenCount {l : Launch} {p : Program} {e : Env} {R : Room} {s : State} {m : MethodId} {args : Array Value} {below : List Frame} {meth : Method} {c : Code} {H : Heap} {locs : List Loc} {cells slots : Nat} {Q : State → Prop} {cc : ByteArray} {pc nL idx : Nat} {ls : Array Slot} {rest : List Value} {G : tw_G} {h : tm_H} {own : String} {ret : Option FieldType} {α : Type} {x : α} {sz : Nat} {this : Nat} (hC : tw_C G p s m args meth c own cc nL ret) (hR : tw_Rel G sz h H) (hL : tw_L G locs) {F : Int → Option α} (hk : (fX4_takenCount this h).bind F = some x)  (hl : tw_mL own idx yX4_takenCount) (hRm : rmX4_takenCount.frames + 1 ≤ R.frames ∧ 8 + (3 + 11) + rmX4_takenCount.locals ≤ R.locals) (hsz : ls.size = nL) (hW : (rest.map fun v => v.category).sum ≤ 8) (hf : cells + 0 ≤ R.cells ∧ slots + 0 ≤ R.slots) (hdg : decode cc pc = .ok (.invokevirtual idx, 3)) (kk : ∀ (r : Int) (H1 : Heap) (locs1 : List Loc), tw_Rel G sz h H1 → tw_L G locs1 → tm_rg r → F r = some x → W p l e R s m args below meth c H1 locs1 (cells + 0) (slots + 0) Q (F0 m (pc + 3) ls (.int (tw_I r) :: rest))) : W p l e R s m args below meth c H locs cells slots Q (F0 m pc ls (.ref this :: rest)) := by
  obtain ⟨r, hr, hF⟩ := Option.bind_eq_some_iff.mp hk
  have ob : ∀ r, fX4_takenCount this h = some r → tm_is h 4 this := fun r hr => by
    unfold fX4_takenCount at hr
    exact (tm_th_is hr).1
  exact tw_backi (tw_runV hC hR (cX4_takenCount_ok l G sz this  h r hr) (n := 0) (As := []) ⟨tw_in_TB 349 (by decide +kernel) rfl, tw_in_TB 10 (by decide +kernel) rfl, by decide +kernel⟩ (tw_in_TB 347 (by decide +kernel) rfl) (tw_in_TB 348 (by decide +kernel) rfl) hl ⟨rfl, rfl⟩ hRm (ob r hr) (T := TX4) (N := 5) rfl rfl hsz rfl hW hdg hf) hL (fun H1 locs1 a b g => kk r H1 locs1 a b g hF)
def rmX4_keepChapters : Room := { frames := 2, cells := 0, slots := 0, locals := 48 }
set_option maxRecDepth 100000 in
set_option maxHeartbeats 4000000 in
theorem cX4_keepChapters_ok (l : Launch) (G : tw_G) (sz : Nat) (this : Nat) (a1 : Int) (ga1 : tm_rg a1) (h : tm_H) (out : tm_H) (hk : fX4_keepChapters this a1 h = some out) : Met l yX4_keepChapters (tw_WS yX4_keepChapters cX4_keepChapters 2 none) rmX4_keepChapters (va_Pc [.ref this, .int (tw_I a1)] (tw_Pre G sz h)) (tw_Qv G sz out) 0 0 (tw_F G) := by
  refine tw_met (by decide +kernel) (Nat.le_of_ble_eq_true rfl) ?_
  intro p e s m args below meth c H ls hC hnm hR hl
  unfold fX4_keepChapters at hk
  obtain ⟨hob, hk⟩ := tm_th_is hk
  have hl : lv_has ls 2 [(0, .ref this), (1, .int (tw_I a1))] := hl
  have hL : tw_L G [] := fun q z => by cases z
  generalize hlc : ([] : List Loc) = locs at hL ⊢
  refine lv_aload_n hC.1 hC.2.1 dX4_keepChapters_0 rfl (lv_at hl 0 rfl) ?_
  refine lv_iload_n hC.1 hC.2.1 dX4_keepChapters_1 rfl (lv_at hl 1 rfl) ?_
  refine kX4_hasSlot hC hR hL hk ga1 mlX4_40 ⟨by decide, by decide⟩ hl.1 (Nat.le_of_ble_eq_true rfl) ⟨Nat.zero_le _, Nat.zero_le _⟩ dX4_keepChapters_2 (fun v1 H locs hR hL gv1 hk => ?_)
  refine tw_zeq (tgt := 28) hC hk gv1 dX4_keepChapters_5 (by decide) (fun _ hk => ?_) (fun _ hk => ?_)
  · cases hk
    exact tw_vret hC hR hL rfl dX4_keepChapters_28
  · refine lv_aload_n hC.1 hC.2.1 dX4_keepChapters_8 rfl (lv_at hl 0 rfl) ?_
    refine tw_getR hC hR hk flX4_32 dX4_keepChapters_9 (fun r2 hk => ?_)
    refine lv_iload_n hC.1 hC.2.1 dX4_keepChapters_12 rfl (lv_at hl 1 rfl) ?_
    refine tw_aald hC hR hk dX4_keepChapters_13 (fun r3 hk => ?_)
    refine lv_aload_n hC.1 hC.2.1 dX4_keepChapters_14 rfl (lv_at hl 0 rfl) ?_
    refine tw_getR hC hR hk flX4_21 dX4_keepChapters_15 (fun r4 hk => ?_)
    refine kX0_copyFrom hC hR hL hk mlX4_44 ⟨by decide, by decide⟩ hl.1 (Nat.le_of_ble_eq_true rfl) ⟨Nat.zero_le _, Nat.zero_le _⟩ dX4_keepChapters_18 (fun h5 H locs hR hL hk => ?_)
    refine lv_aload_n hC.1 hC.2.1 dX4_keepChapters_21 rfl (lv_at hl 0 rfl) ?_
    refine tw_getR hC hR hk flX4_36 dX4_keepChapters_22 (fun r6 hk => ?_)
    refine lv_iload_n hC.1 hC.2.1 dX4_keepChapters_25 rfl (lv_at hl 1 rfl) ?_
    refine lv_iconst (v := tw_I 1) hC.1 hC.2.1 dX4_keepChapters_26 rfl ?_
    refine tw_zast hC hR hL hk dX4_keepChapters_27 (fun h7 H locs hR hL hk => ?_)
    cases hk
    exact tw_vret hC hR hL rfl dX4_keepChapters_28
set_option maxRecDepth 100000 in
theorem kX4_keepChapters {l : Launch} {p : Program} {e : Env} {R : Room} {s : State} {m : MethodId} {args : Array Value} {below : List Frame} {meth : Method} {c : Code} {H : Heap} {locs : List Loc} {cells slots : Nat} {Q : State → Prop} {cc : ByteArray} {pc nL idx : Nat} {ls : Array Slot} {rest : List Value} {G : tw_G} {h : tm_H} {own : String} {ret : Option FieldType} {α : Type} {x : α} {sz : Nat} {this : Nat} {a1 : Int} (hC : tw_C G p s m args meth c own cc nL ret) (hR : tw_Rel G sz h H) (hL : tw_L G locs) {F : tm_H → Option α} (hk : (fX4_keepChapters this a1 h).bind F = some x) (ga1 : tm_rg a1) (hl : tw_mL own idx yX4_keepChapters) (hRm : rmX4_keepChapters.frames + 1 ≤ R.frames ∧ 8 + (2 + 11) + rmX4_keepChapters.locals ≤ R.locals) (hsz : ls.size = nL) (hW : (rest.map fun v => v.category).sum ≤ 8) (hf : cells + 0 ≤ R.cells ∧ slots + 0 ≤ R.slots) (hdg : decode cc pc = .ok (.invokevirtual idx, 3)) (kk : ∀ (h1 : tm_H) (H1 : Heap) (locs1 : List Loc), tw_Rel G sz h1 H1 → tw_L G locs1 → F h1 = some x → W p l e R s m args below meth c H1 locs1 (cells + 0) (slots + 0) Q (F0 m (pc + 3) ls (rest))) : W p l e R s m args below meth c H locs cells slots Q (F0 m pc ls (.int (tw_I a1) :: .ref this :: rest)) := by
  obtain ⟨r, hr, hF⟩ := Option.bind_eq_some_iff.mp hk
  have ob : ∀ r, fX4_keepChapters this a1 h = some r → tm_is h 4 this := fun r hr => by
    unfold fX4_keepChapters at hr
    exact (tm_th_is hr).1
  exact tw_backv (tw_runV hC hR (cX4_keepChapters_ok l G sz this a1 ga1 h r hr) (n := 1) (As := [.int (tw_I a1)]) ⟨tw_in_TB 548 (by decide +kernel) rfl, tw_in_TB 10 (by decide +kernel) rfl, by decide +kernel⟩ (tw_in_TB 546 (by decide +kernel) rfl) (tw_in_TB 547 (by decide +kernel) rfl) hl ⟨rfl, rfl⟩ hRm (ob r hr) (T := TX4) (N := 5) rfl rfl hsz rfl hW hdg hf) hL (fun H1 locs1 a b => kk r H1 locs1 a b hF)
def rmX4_bringChapters : Room := { frames := 2, cells := 0, slots := 0, locals := 48 }
set_option maxRecDepth 100000 in
set_option maxHeartbeats 4000000 in
theorem cX4_bringChapters_ok (l : Launch) (G : tw_G) (sz : Nat) (this : Nat) (a1 : Int) (ga1 : tm_rg a1) (h : tm_H) (out : tm_H) (hk : fX4_bringChapters this a1 h = some out) : Met l yX4_bringChapters (tw_WS yX4_bringChapters cX4_bringChapters 2 none) rmX4_bringChapters (va_Pc [.ref this, .int (tw_I a1)] (tw_Pre G sz h)) (tw_Qv G sz out) 0 0 (tw_F G) := by
  refine tw_met (by decide +kernel) (Nat.le_of_ble_eq_true rfl) ?_
  intro p e s m args below meth c H ls hC hnm hR hl
  unfold fX4_bringChapters at hk
  obtain ⟨hob, hk⟩ := tm_th_is hk
  have hl : lv_has ls 2 [(0, .ref this), (1, .int (tw_I a1))] := hl
  have hL : tw_L G [] := fun q z => by cases z
  generalize hlc : ([] : List Loc) = locs at hL ⊢
  refine lv_aload_n hC.1 hC.2.1 dX4_bringChapters_0 rfl (lv_at hl 0 rfl) ?_
  refine lv_iload_n hC.1 hC.2.1 dX4_bringChapters_1 rfl (lv_at hl 1 rfl) ?_
  refine kX4_isTaken hC hR hL hk ga1 mlX4_48 ⟨by decide, by decide⟩ hl.1 (Nat.le_of_ble_eq_true rfl) ⟨Nat.zero_le _, Nat.zero_le _⟩ dX4_bringChapters_2 (fun v1 H locs hR hL gv1 hk => ?_)
  refine tw_zeq (tgt := 21) hC hk gv1 dX4_bringChapters_5 (by decide) (fun _ hk => ?_) (fun _ hk => ?_)
  · cases hk
    exact tw_vret hC hR hL rfl dX4_bringChapters_21
  · refine lv_aload_n hC.1 hC.2.1 dX4_bringChapters_8 rfl (lv_at hl 0 rfl) ?_
    refine tw_getR hC hR hk flX4_21 dX4_bringChapters_9 (fun r2 hk => ?_)
    refine lv_aload_n hC.1 hC.2.1 dX4_bringChapters_12 rfl (lv_at hl 0 rfl) ?_
    refine tw_getR hC hR hk flX4_32 dX4_bringChapters_13 (fun r3 hk => ?_)
    refine lv_iload_n hC.1 hC.2.1 dX4_bringChapters_16 rfl (lv_at hl 1 rfl) ?_
    refine tw_aald hC hR hk dX4_bringChapters_17 (fun r4 hk => ?_)
    refine kX0_copyFrom hC hR hL hk mlX4_44 ⟨by decide, by decide⟩ hl.1 (Nat.le_of_ble_eq_true rfl) ⟨Nat.zero_le _, Nat.zero_le _⟩ dX4_bringChapters_18 (fun h5 H locs hR hL hk => ?_)
    cases hk
    exact tw_vret hC hR hL rfl dX4_bringChapters_21
set_option maxRecDepth 100000 in
theorem kX4_bringChapters {l : Launch} {p : Program} {e : Env} {R : Room} {s : State} {m : MethodId} {args : Array Value} {below : List Frame} {meth : Method} {c : Code} {H : Heap} {locs : List Loc} {cells slots : Nat} {Q : State → Prop} {cc : ByteArray} {pc nL idx : Nat} {ls : Array Slot} {rest : List Value} {G : tw_G} {h : tm_H} {own : String} {ret : Option FieldType} {α : Type} {x : α} {sz : Nat} {this : Nat} {a1 : Int} (hC : tw_C G p s m args meth c own cc nL ret) (hR : tw_Rel G sz h H) (hL : tw_L G locs) {F : tm_H → Option α} (hk : (fX4_bringChapters this a1 h).bind F = some x) (ga1 : tm_rg a1) (hl : tw_mL own idx yX4_bringChapters) (hRm : rmX4_bringChapters.frames + 1 ≤ R.frames ∧ 8 + (2 + 11) + rmX4_bringChapters.locals ≤ R.locals) (hsz : ls.size = nL) (hW : (rest.map fun v => v.category).sum ≤ 8) (hf : cells + 0 ≤ R.cells ∧ slots + 0 ≤ R.slots) (hdg : decode cc pc = .ok (.invokevirtual idx, 3)) (kk : ∀ (h1 : tm_H) (H1 : Heap) (locs1 : List Loc), tw_Rel G sz h1 H1 → tw_L G locs1 → F h1 = some x → W p l e R s m args below meth c H1 locs1 (cells + 0) (slots + 0) Q (F0 m (pc + 3) ls (rest))) : W p l e R s m args below meth c H locs cells slots Q (F0 m pc ls (.int (tw_I a1) :: .ref this :: rest)) := by
  obtain ⟨r, hr, hF⟩ := Option.bind_eq_some_iff.mp hk
  have ob : ∀ r, fX4_bringChapters this a1 h = some r → tm_is h 4 this := fun r hr => by
    unfold fX4_bringChapters at hr
    exact (tm_th_is hr).1
  exact tw_backv (tw_runV hC hR (cX4_bringChapters_ok l G sz this a1 ga1 h r hr) (n := 1) (As := [.int (tw_I a1)]) ⟨tw_in_TB 561 (by decide +kernel) rfl, tw_in_TB 10 (by decide +kernel) rfl, by decide +kernel⟩ (tw_in_TB 559 (by decide +kernel) rfl) (tw_in_TB 560 (by decide +kernel) rfl) hl ⟨rfl, rfl⟩ hRm (ob r hr) (T := TX4) (N := 5) rfl rfl hsz rfl hW hdg hf) hL (fun H1 locs1 a b => kk r H1 locs1 a b hF)
def rmX7_isForm : Room := { frames := 1, cells := 0, slots := 0, locals := 21 }
set_option maxRecDepth 100000 in
set_option maxHeartbeats 4000000 in
theorem cX7_isForm_ok (l : Launch) (G : tw_G) (sz : Nat) (this : Nat) (a1 : Int) (ga1 : tm_rg a1) (h : tm_H) (out : Int) (hk : fX7_isForm this a1 h = some out) : Met l yX7_isForm (tw_WS yX7_isForm cX7_isForm 2 (some .boolean)) rmX7_isForm (va_Pc [.ref this, .int (tw_I a1)] (tw_Pre G sz h)) (tw_Qi G sz out h) 0 0 (tw_F G) := by
  refine tw_met (by decide +kernel) (Nat.le_of_ble_eq_true rfl) ?_
  intro p e s m args below meth c H ls hC hnm hR hl
  unfold fX7_isForm at hk
  obtain ⟨hob, hk⟩ := tm_th_is hk
  have hl : lv_has ls 2 [(0, .ref this), (1, .int (tw_I a1))] := hl
  have hL : tw_L G [] := fun q z => by cases z
  generalize hlc : ([] : List Loc) = locs at hL ⊢
  refine lv_aload_n hC.1 hC.2.1 dX7_isForm_0 rfl (lv_at hl 0 rfl) ?_
  refine lv_iload_n hC.1 hC.2.1 dX7_isForm_1 rfl (lv_at hl 1 rfl) ?_
  refine kX7_baseOf hC hR hL hk ga1 mlX7_31 ⟨by decide, by decide⟩ hl.1 (Nat.le_of_ble_eq_true rfl) ⟨Nat.zero_le _, Nat.zero_le _⟩ dX7_isForm_2 (fun v1 H locs hR hL gv1 hk => ?_)
  refine lv_iload_n hC.1 hC.2.1 dX7_isForm_5 rfl (lv_at hl 1 rfl) ?_
  refine tw_ceq (tgt := 13) hC hk gv1 ga1 dX7_isForm_6 (by decide) (fun _ hk => ?_) (fun _ hk => ?_)
  · refine lv_iconst (v := tw_I 0) hC.1 hC.2.1 dX7_isForm_13 rfl ?_
    cases hk
    exact tw_zret hC hR hL rfl rfl dX7_isForm_14
  · refine lv_iconst (v := tw_I 1) hC.1 hC.2.1 dX7_isForm_9 rfl ?_
    refine lv_goto (tgt := 14) hC.1 hC.2.1 dX7_isForm_10 (by decide) ?_
    cases hk
    exact tw_zret hC hR hL rfl rfl dX7_isForm_14
set_option maxRecDepth 100000 in
theorem kX7_isForm {l : Launch} {p : Program} {e : Env} {R : Room} {s : State} {m : MethodId} {args : Array Value} {below : List Frame} {meth : Method} {c : Code} {H : Heap} {locs : List Loc} {cells slots : Nat} {Q : State → Prop} {cc : ByteArray} {pc nL idx : Nat} {ls : Array Slot} {rest : List Value} {G : tw_G} {h : tm_H} {own : String} {ret : Option FieldType} {α : Type} {x : α} {sz : Nat} {this : Nat} {a1 : Int} (hC : tw_C G p s m args meth c own cc nL ret) (hR : tw_Rel G sz h H) (hL : tw_L G locs) {F : Int → Option α} (hk : (fX7_isForm this a1 h).bind F = some x) (ga1 : tm_rg a1) (hl : tw_mL own idx yX7_isForm) (hRm : rmX7_isForm.frames + 1 ≤ R.frames ∧ 8 + (2 + 11) + rmX7_isForm.locals ≤ R.locals) (hsz : ls.size = nL) (hW : (rest.map fun v => v.category).sum ≤ 8) (hf : cells + 0 ≤ R.cells ∧ slots + 0 ≤ R.slots) (hdg : decode cc pc = .ok (.invokevirtual idx, 3)) (kk : ∀ (r : Int) (H1 : Heap) (locs1 : List Loc), tw_Rel G sz h H1 → tw_L G locs1 → tm_rg r → F r = some x → W p l e R s m args below meth c H1 locs1 (cells + 0) (slots + 0) Q (F0 m (pc + 3) ls (.int (tw_I r) :: rest))) : W p l e R s m args below meth c H locs cells slots Q (F0 m pc ls (.int (tw_I a1) :: .ref this :: rest)) := by
  obtain ⟨r, hr, hF⟩ := Option.bind_eq_some_iff.mp hk
  have ob : ∀ r, fX7_isForm this a1 h = some r → tm_is h 7 this := fun r hr => by
    unfold fX7_isForm at hr
    exact (tm_th_is hr).1
  exact tw_backi (tw_runV hC hR (cX7_isForm_ok l G sz this a1 ga1 h r hr) (n := 1) (As := [.int (tw_I a1)]) ⟨tw_in_TB 521 (by decide +kernel) rfl, tw_in_TB 11 (by decide +kernel) rfl, by decide +kernel⟩ (tw_in_TB 519 (by decide +kernel) rfl) (tw_in_TB 520 (by decide +kernel) rfl) hl ⟨rfl, rfl⟩ hRm (ob r hr) (T := TX7) (N := 3) rfl rfl hsz rfl hW hdg hf) hL (fun H1 locs1 a b g => kk r H1 locs1 a b g hF)
def rmX7_hasForms : Room := { frames := 0, cells := 0, slots := 0, locals := 0 }
set_option maxRecDepth 100000 in
set_option maxHeartbeats 4000000 in
theorem sX7_hasForms_S0 {l : Launch} {p : Program} {e : Env} {s : State} {m : MethodId} {args : Array Value} {below : List Frame} {meth : Method} {c : Code} (G : tw_G) (sz : Nat) (hC : tw_C G p s m args meth c RX7 cX7_hasForms 3 (some .boolean)) (this : Nat) (a1 : Int) (ga1 : tm_rg a1) (h : tm_H) : ∀ (k : Nat) (st : (Int) ⊕ (Int)) (out : Int), tm_wit (fX7_hasForms_S0 this a1 h) k st = some out → match st with
    | .inl ((x2)) => ∀ (H : Heap) (locs : List Loc) (ls : Array Slot), tm_rg x2 → tw_Rel G sz h H → tw_L G locs → lv_has ls 3 [(0, .ref this), (1, .int (tw_I a1)), (2, .int (tw_I x2))] → W p l e rmX7_hasForms s m args below meth c H locs 0 0 (MQ below (tw_Qi G sz out h) args s 0 0 (tw_F G)) (F0 m 2 ls [])
    | .inr ((x2)) => ∀ (H : Heap) (locs : List Loc) (ls : Array Slot), tm_rg x2 → tw_Rel G sz h H → tw_L G locs → lv_has ls 3 [(0, .ref this), (1, .int (tw_I a1)), (2, .int (tw_I x2))] → W p l e rmX7_hasForms s m args below meth c H locs 0 0 (MQ below (tw_Qi G sz out h) args s 0 0 (tw_F G)) (F0 m 27 ls []) := by
  intro k
  induction k with
  | zero =>
    intro st out hk
    exact absurd hk (by unfold tm_wit; exact fun z => by cases z)
  | succ k ih =>
    intro st out hk
    obtain ⟨X, hk, hf⟩ := tm_wit_succ hk
    obtain x2 | x2 := st
    · intro H locs ls gx2 hR hL hl
      dsimp only [fX7_hasForms_S0] at hk
      refine lv_iload_n hC.1 hC.2.1 dX7_hasForms_2 rfl (lv_at hl 2 rfl) ?_
      refine lv_aload_n hC.1 hC.2.1 dX7_hasForms_3 rfl (lv_at hl 0 rfl) ?_
      refine tw_getI hC hR hk flX7_19 dX7_hasForms_4 (fun v1 gv1 hk => ?_)
      refine tw_cge (tgt := 33) hC hk gx2 gv1 dX7_hasForms_7 (by decide) (fun _ hk => ?_) (fun _ hk => ?_)
      · refine lv_iload_n hC.1 hC.2.1 dX7_hasForms_10 rfl (lv_at hl 2 rfl) ?_
        refine lv_iload_n hC.1 hC.2.1 dX7_hasForms_11 rfl (lv_at hl 1 rfl) ?_
        refine tw_ceq (tgt := 27) hC hk gx2 ga1 dX7_hasForms_12 (by decide) (fun _ hk => ?_) (fun _ hk => ?_)
        · cases hk
          exact ih _ out hf H locs _ gx2 hR hL (lv_sub hl [0, 1, 2] rfl)
        · refine lv_aload_n hC.1 hC.2.1 dX7_hasForms_15 rfl (lv_at hl 0 rfl) ?_
          refine tw_getR hC hR hk flX7_15 dX7_hasForms_16 (fun r2 hk => ?_)
          refine lv_iload_n hC.1 hC.2.1 dX7_hasForms_19 rfl (lv_at hl 2 rfl) ?_
          refine tw_iald hC hR hk dX7_hasForms_20 (fun v3 gv3 hk => ?_)
          refine lv_iload_n hC.1 hC.2.1 dX7_hasForms_21 rfl (lv_at hl 1 rfl) ?_
          refine tw_cne (tgt := 27) hC hk gv3 ga1 dX7_hasForms_22 (by decide) (fun _ hk => ?_) (fun _ hk => ?_)
          · refine lv_iconst (v := tw_I 1) hC.1 hC.2.1 dX7_hasForms_25 rfl ?_
            cases hk
            cases hf
            exact tw_zret hC hR hL rfl rfl dX7_hasForms_26
          · cases hk
            exact ih _ out hf H locs _ gx2 hR hL (lv_sub hl [0, 1, 2] rfl)
      · refine lv_iconst (v := tw_I 0) hC.1 hC.2.1 dX7_hasForms_33 rfl ?_
        cases hk
        cases hf
        exact tw_zret hC hR hL rfl rfl dX7_hasForms_34
    · intro H locs ls gx2 hR hL hl
      dsimp only [fX7_hasForms_S0] at hk
      refine tw_iinc (lv' := [(2, .int (tw_I (tm_wr (x2 + 1)))), (0, .ref this), (1, .int (tw_I a1))]) hC dX7_hasForms_27 hl (k := 2) rfl (by decide) rfl (fun ls hl => ?_)
      refine lv_goto (tgt := 2) hC.1 hC.2.1 dX7_hasForms_30 (by decide) ?_
      cases hk
      exact ih _ out hf H locs _ ((tm_wr_rg _)) hR hL (lv_sub hl [1, 2, 0] rfl)
theorem sX7_hasForms_L2 {l : Launch} {p : Program} {e : Env} {s : State} {m : MethodId} {args : Array Value} {below : List Frame} {meth : Method} {c : Code} (G : tw_G) (sz : Nat) (hC : tw_C G p s m args meth c RX7 cX7_hasForms 3 (some .boolean)) (this : Nat) (a1 : Int) (ga1 : tm_rg a1) (h : tm_H) (x2 : Int) (gx2 : tm_rg x2) (out : Int) (hk : fX7_hasForms_L2 this a1 h x2 = some out) (H : Heap) (locs : List Loc) (ls : Array Slot) (hR : tw_Rel G sz h H) (hL : tw_L G locs) (hl : lv_has ls 3 [(0, .ref this), (1, .int (tw_I a1)), (2, .int (tw_I x2))]) : W p l e rmX7_hasForms s m args below meth c H locs 0 0 (MQ below (tw_Qi G sz out h) args s 0 0 (tw_F G)) (F0 m 2 ls []) := by
  obtain ⟨k, hk⟩ := tm_wl_iff.mp hk
  exact sX7_hasForms_S0 G sz hC this a1 ga1 h k (.inl ((x2))) out hk H locs ls gx2 hR hL hl
theorem sX7_hasForms_L27 {l : Launch} {p : Program} {e : Env} {s : State} {m : MethodId} {args : Array Value} {below : List Frame} {meth : Method} {c : Code} (G : tw_G) (sz : Nat) (hC : tw_C G p s m args meth c RX7 cX7_hasForms 3 (some .boolean)) (this : Nat) (a1 : Int) (ga1 : tm_rg a1) (h : tm_H) (x2 : Int) (gx2 : tm_rg x2) (out : Int) (hk : fX7_hasForms_L27 this a1 h x2 = some out) (H : Heap) (locs : List Loc) (ls : Array Slot) (hR : tw_Rel G sz h H) (hL : tw_L G locs) (hl : lv_has ls 3 [(0, .ref this), (1, .int (tw_I a1)), (2, .int (tw_I x2))]) : W p l e rmX7_hasForms s m args below meth c H locs 0 0 (MQ below (tw_Qi G sz out h) args s 0 0 (tw_F G)) (F0 m 27 ls []) := by
  obtain ⟨k, hk⟩ := tm_wl_iff.mp hk
  exact sX7_hasForms_S0 G sz hC this a1 ga1 h k (.inr ((x2))) out hk H locs ls gx2 hR hL hl
set_option maxRecDepth 100000 in
set_option maxHeartbeats 4000000 in
theorem cX7_hasForms_ok (l : Launch) (G : tw_G) (sz : Nat) (this : Nat) (a1 : Int) (ga1 : tm_rg a1) (h : tm_H) (out : Int) (hk : fX7_hasForms this a1 h = some out) : Met l yX7_hasForms (tw_WS yX7_hasForms cX7_hasForms 3 (some .boolean)) rmX7_hasForms (va_Pc [.ref this, .int (tw_I a1)] (tw_Pre G sz h)) (tw_Qi G sz out h) 0 0 (tw_F G) := by
  refine tw_met (by decide +kernel) (Nat.le_of_ble_eq_true rfl) ?_
  intro p e s m args below meth c H ls hC hnm hR hl
  unfold fX7_hasForms at hk
  obtain ⟨hob, hk⟩ := tm_th_is hk
  have hl : lv_has ls 3 [(0, .ref this), (1, .int (tw_I a1))] := hl
  have hL : tw_L G [] := fun q z => by cases z
  generalize hlc : ([] : List Loc) = locs at hL ⊢
  refine lv_iconst (v := tw_I 0) hC.1 hC.2.1 dX7_hasForms_0 rfl ?_
  refine lv_istore_n (lv' := [(2, .int (tw_I 0)), (0, .ref this), (1, .int (tw_I a1))]) hC.1 hC.2.1 dX7_hasForms_1 rfl hl (by decide) rfl (fun ls hl => ?_)
  exact sX7_hasForms_L2 G sz hC this a1 ga1 h 0 ((tw_rgL rfl)) out hk H locs _ hR hL (lv_sub hl [1, 2, 0] rfl)
set_option maxRecDepth 100000 in
theorem kX7_hasForms {l : Launch} {p : Program} {e : Env} {R : Room} {s : State} {m : MethodId} {args : Array Value} {below : List Frame} {meth : Method} {c : Code} {H : Heap} {locs : List Loc} {cells slots : Nat} {Q : State → Prop} {cc : ByteArray} {pc nL idx : Nat} {ls : Array Slot} {rest : List Value} {G : tw_G} {h : tm_H} {own : String} {ret : Option FieldType} {α : Type} {x : α} {sz : Nat} {this : Nat} {a1 : Int} (hC : tw_C G p s m args meth c own cc nL ret) (hR : tw_Rel G sz h H) (hL : tw_L G locs) {F : Int → Option α} (hk : (fX7_hasForms this a1 h).bind F = some x) (ga1 : tm_rg a1) (hl : tw_mL own idx yX7_hasForms) (hRm : rmX7_hasForms.frames + 1 ≤ R.frames ∧ 8 + (3 + 11) + rmX7_hasForms.locals ≤ R.locals) (hsz : ls.size = nL) (hW : (rest.map fun v => v.category).sum ≤ 8) (hf : cells + 0 ≤ R.cells ∧ slots + 0 ≤ R.slots) (hdg : decode cc pc = .ok (.invokevirtual idx, 3)) (kk : ∀ (r : Int) (H1 : Heap) (locs1 : List Loc), tw_Rel G sz h H1 → tw_L G locs1 → tm_rg r → F r = some x → W p l e R s m args below meth c H1 locs1 (cells + 0) (slots + 0) Q (F0 m (pc + 3) ls (.int (tw_I r) :: rest))) : W p l e R s m args below meth c H locs cells slots Q (F0 m pc ls (.int (tw_I a1) :: .ref this :: rest)) := by
  obtain ⟨r, hr, hF⟩ := Option.bind_eq_some_iff.mp hk
  have ob : ∀ r, fX7_hasForms this a1 h = some r → tm_is h 7 this := fun r hr => by
    unfold fX7_hasForms at hr
    exact (tm_th_is hr).1
  exact tw_backi (tw_runV hC hR (cX7_hasForms_ok l G sz this a1 ga1 h r hr) (n := 1) (As := [.int (tw_I a1)]) ⟨tw_in_TB 526 (by decide +kernel) rfl, tw_in_TB 11 (by decide +kernel) rfl, by decide +kernel⟩ (tw_in_TB 524 (by decide +kernel) rfl) (tw_in_TB 525 (by decide +kernel) rfl) hl ⟨rfl, rfl⟩ hRm (ob r hr) (T := TX7) (N := 3) rfl rfl hsz rfl hW hdg hf) hL (fun H1 locs1 a b g => kk r H1 locs1 a b g hF)
def rmX7_has : Room := { frames := 0, cells := 0, slots := 0, locals := 0 }
set_option maxRecDepth 100000 in
set_option maxHeartbeats 4000000 in
theorem cX7_has_ok (l : Launch) (G : tw_G) (sz : Nat) (this : Nat) (a1 : Int) (ga1 : tm_rg a1) (h : tm_H) (out : Int) (hk : fX7_has this a1 h = some out) : Met l yX7_has (tw_WS yX7_has cX7_has 2 (some .boolean)) rmX7_has (va_Pc [.ref this, .int (tw_I a1)] (tw_Pre G sz h)) (tw_Qi G sz out h) 0 0 (tw_F G) := by
  refine tw_met (by decide +kernel) (Nat.le_of_ble_eq_true rfl) ?_
  intro p e s m args below meth c H ls hC hnm hR hl
  unfold fX7_has at hk
  obtain ⟨hob, hk⟩ := tm_th_is hk
  have hl : lv_has ls 2 [(0, .ref this), (1, .int (tw_I a1))] := hl
  have hL : tw_L G [] := fun q z => by cases z
  generalize hlc : ([] : List Loc) = locs at hL ⊢
  refine lv_iload_n hC.1 hC.2.1 dX7_has_0 rfl (lv_at hl 1 rfl) ?_
  refine tw_zlt (tgt := 16) hC hk ga1 dX7_has_1 (by decide) (fun _ hk => ?_) (fun _ hk => ?_)
  · refine lv_iconst (v := tw_I 0) hC.1 hC.2.1 dX7_has_16 rfl ?_
    cases hk
    exact tw_zret hC hR hL rfl rfl dX7_has_17
  · refine lv_iload_n hC.1 hC.2.1 dX7_has_4 rfl (lv_at hl 1 rfl) ?_
    refine lv_aload_n hC.1 hC.2.1 dX7_has_5 rfl (lv_at hl 0 rfl) ?_
    refine tw_getI hC hR hk flX7_19 dX7_has_6 (fun v1 gv1 hk => ?_)
    refine tw_cge (tgt := 16) hC hk ga1 gv1 dX7_has_9 (by decide) (fun _ hk => ?_) (fun _ hk => ?_)
    · refine lv_iconst (v := tw_I 1) hC.1 hC.2.1 dX7_has_12 rfl ?_
      refine lv_goto (tgt := 17) hC.1 hC.2.1 dX7_has_13 (by decide) ?_
      cases hk
      exact tw_zret hC hR hL rfl rfl dX7_has_17
    · refine lv_iconst (v := tw_I 0) hC.1 hC.2.1 dX7_has_16 rfl ?_
      cases hk
      exact tw_zret hC hR hL rfl rfl dX7_has_17
set_option maxRecDepth 100000 in
theorem kX7_has {l : Launch} {p : Program} {e : Env} {R : Room} {s : State} {m : MethodId} {args : Array Value} {below : List Frame} {meth : Method} {c : Code} {H : Heap} {locs : List Loc} {cells slots : Nat} {Q : State → Prop} {cc : ByteArray} {pc nL idx : Nat} {ls : Array Slot} {rest : List Value} {G : tw_G} {h : tm_H} {own : String} {ret : Option FieldType} {α : Type} {x : α} {sz : Nat} {this : Nat} {a1 : Int} (hC : tw_C G p s m args meth c own cc nL ret) (hR : tw_Rel G sz h H) (hL : tw_L G locs) {F : Int → Option α} (hk : (fX7_has this a1 h).bind F = some x) (ga1 : tm_rg a1) (hl : tw_mL own idx yX7_has) (hRm : rmX7_has.frames + 1 ≤ R.frames ∧ 8 + (2 + 11) + rmX7_has.locals ≤ R.locals) (hsz : ls.size = nL) (hW : (rest.map fun v => v.category).sum ≤ 8) (hf : cells + 0 ≤ R.cells ∧ slots + 0 ≤ R.slots) (hdg : decode cc pc = .ok (.invokevirtual idx, 3)) (kk : ∀ (r : Int) (H1 : Heap) (locs1 : List Loc), tw_Rel G sz h H1 → tw_L G locs1 → tm_rg r → F r = some x → W p l e R s m args below meth c H1 locs1 (cells + 0) (slots + 0) Q (F0 m (pc + 3) ls (.int (tw_I r) :: rest))) : W p l e R s m args below meth c H locs cells slots Q (F0 m pc ls (.int (tw_I a1) :: .ref this :: rest)) := by
  obtain ⟨r, hr, hF⟩ := Option.bind_eq_some_iff.mp hk
  have ob : ∀ r, fX7_has this a1 h = some r → tm_is h 7 this := fun r hr => by
    unfold fX7_has at hr
    exact (tm_th_is hr).1
  exact tw_backi (tw_runV hC hR (cX7_has_ok l G sz this a1 ga1 h r hr) (n := 1) (As := [.int (tw_I a1)]) ⟨tw_in_TB 422 (by decide +kernel) rfl, tw_in_TB 11 (by decide +kernel) rfl, by decide +kernel⟩ (tw_in_TB 420 (by decide +kernel) rfl) (tw_in_TB 421 (by decide +kernel) rfl) hl ⟨rfl, rfl⟩ hRm (ob r hr) (T := TX7) (N := 3) rfl rfl hsz rfl hW hdg hf) hL (fun H1 locs1 a b g => kk r H1 locs1 a b g hF)
def rmX7_putBase : Room := { frames := 1, cells := 0, slots := 0, locals := 21 }
set_option maxRecDepth 100000 in
set_option maxHeartbeats 4000000 in
theorem cX7_putBase_ok (l : Launch) (G : tw_G) (sz : Nat) (this : Nat) (a1 : Int) (a2 : Int) (ga1 : tm_rg a1) (ga2 : tm_rg a2) (h : tm_H) (out : tm_H) (hk : fX7_putBase this a1 a2 h = some out) : Met l yX7_putBase (tw_WS yX7_putBase cX7_putBase 3 none) rmX7_putBase (va_Pc [.ref this, .int (tw_I a1), .int (tw_I a2)] (tw_Pre G sz h)) (tw_Qv G sz out) 0 0 (tw_F G) := by
  refine tw_met (by decide +kernel) (Nat.le_of_ble_eq_true rfl) ?_
  intro p e s m args below meth c H ls hC hnm hR hl
  unfold fX7_putBase at hk
  obtain ⟨hob, hk⟩ := tm_th_is hk
  have hl : lv_has ls 3 [(0, .ref this), (1, .int (tw_I a1)), (2, .int (tw_I a2))] := hl
  have hL : tw_L G [] := fun q z => by cases z
  generalize hlc : ([] : List Loc) = locs at hL ⊢
  refine lv_aload_n hC.1 hC.2.1 dX7_putBase_0 rfl (lv_at hl 0 rfl) ?_
  refine lv_iload_n hC.1 hC.2.1 dX7_putBase_1 rfl (lv_at hl 1 rfl) ?_
  refine kX7_has hC hR hL hk ga1 mlX7_27 ⟨by decide, by decide⟩ hl.1 (Nat.le_of_ble_eq_true rfl) ⟨Nat.zero_le _, Nat.zero_le _⟩ dX7_putBase_2 (fun v1 H locs hR hL gv1 hk => ?_)
  refine tw_zeq (tgt := 23) hC hk gv1 dX7_putBase_5 (by decide) (fun _ hk => ?_) (fun _ hk => ?_)
  · cases hk
    exact tw_vret hC hR hL rfl dX7_putBase_23
  · refine lv_aload_n hC.1 hC.2.1 dX7_putBase_8 rfl (lv_at hl 0 rfl) ?_
    refine lv_iload_n hC.1 hC.2.1 dX7_putBase_9 rfl (lv_at hl 2 rfl) ?_
    refine kX7_has hC hR hL hk ga2 mlX7_27 ⟨by decide, by decide⟩ hl.1 (Nat.le_of_ble_eq_true rfl) ⟨Nat.zero_le _, Nat.zero_le _⟩ dX7_putBase_10 (fun v2 H locs hR hL gv2 hk => ?_)
    refine tw_zeq (tgt := 23) hC hk gv2 dX7_putBase_13 (by decide) (fun _ hk => ?_) (fun _ hk => ?_)
    · cases hk
      exact tw_vret hC hR hL rfl dX7_putBase_23
    · refine lv_aload_n hC.1 hC.2.1 dX7_putBase_16 rfl (lv_at hl 0 rfl) ?_
      refine tw_getR hC hR hk flX7_15 dX7_putBase_17 (fun r3 hk => ?_)
      refine lv_iload_n hC.1 hC.2.1 dX7_putBase_20 rfl (lv_at hl 1 rfl) ?_
      refine lv_iload_n hC.1 hC.2.1 dX7_putBase_21 rfl (lv_at hl 2 rfl) ?_
      refine tw_iast hC hR hL ga2 hk dX7_putBase_22 (fun h4 H locs hR hL hk => ?_)
      cases hk
      exact tw_vret hC hR hL rfl dX7_putBase_23
set_option maxRecDepth 100000 in
theorem kX7_putBase {l : Launch} {p : Program} {e : Env} {R : Room} {s : State} {m : MethodId} {args : Array Value} {below : List Frame} {meth : Method} {c : Code} {H : Heap} {locs : List Loc} {cells slots : Nat} {Q : State → Prop} {cc : ByteArray} {pc nL idx : Nat} {ls : Array Slot} {rest : List Value} {G : tw_G} {h : tm_H} {own : String} {ret : Option FieldType} {α : Type} {x : α} {sz : Nat} {this : Nat} {a1 : Int} {a2 : Int} (hC : tw_C G p s m args meth c own cc nL ret) (hR : tw_Rel G sz h H) (hL : tw_L G locs) {F : tm_H → Option α} (hk : (fX7_putBase this a1 a2 h).bind F = some x) (ga1 : tm_rg a1) (ga2 : tm_rg a2) (hl : tw_mL own idx yX7_putBase) (hRm : rmX7_putBase.frames + 1 ≤ R.frames ∧ 8 + (3 + 11) + rmX7_putBase.locals ≤ R.locals) (hsz : ls.size = nL) (hW : (rest.map fun v => v.category).sum ≤ 8) (hf : cells + 0 ≤ R.cells ∧ slots + 0 ≤ R.slots) (hdg : decode cc pc = .ok (.invokevirtual idx, 3)) (kk : ∀ (h1 : tm_H) (H1 : Heap) (locs1 : List Loc), tw_Rel G sz h1 H1 → tw_L G locs1 → F h1 = some x → W p l e R s m args below meth c H1 locs1 (cells + 0) (slots + 0) Q (F0 m (pc + 3) ls (rest))) : W p l e R s m args below meth c H locs cells slots Q (F0 m pc ls (.int (tw_I a2) :: .int (tw_I a1) :: .ref this :: rest)) := by
  obtain ⟨r, hr, hF⟩ := Option.bind_eq_some_iff.mp hk
  have ob : ∀ r, fX7_putBase this a1 a2 h = some r → tm_is h 7 this := fun r hr => by
    unfold fX7_putBase at hr
    exact (tm_th_is hr).1
  exact tw_backv (tw_runV hC hR (cX7_putBase_ok l G sz this a1 a2 ga1 ga2 h r hr) (n := 2) (As := [.int (tw_I a1), .int (tw_I a2)]) ⟨tw_in_TB 530 (by decide +kernel) rfl, tw_in_TB 11 (by decide +kernel) rfl, by decide +kernel⟩ (tw_in_TB 528 (by decide +kernel) rfl) (tw_in_TB 529 (by decide +kernel) rfl) hl ⟨rfl, rfl⟩ hRm (ob r hr) (T := TX7) (N := 3) rfl rfl hsz rfl hW hdg hf) hL (fun H1 locs1 a b => kk r H1 locs1 a b hF)
def rmX5_sameBases : Room := { frames := 1, cells := 0, slots := 0, locals := 21 }
set_option maxRecDepth 100000 in
set_option maxHeartbeats 4000000 in
theorem sX5_sameBases_S0 {l : Launch} {p : Program} {e : Env} {s : State} {m : MethodId} {args : Array Value} {below : List Frame} {meth : Method} {c : Code} (G : tw_G) (sz : Nat) (hC : tw_C G p s m args meth c RX5 cX5_sameBases 5 (some .boolean)) (a1 : Nat) (a2 : Nat) (a3 : Nat) (a4 : Int) (ga4 : tm_rg a4) (h : tm_H) : ∀ (k : Nat) (st : (Int)) (out : Int), tm_wit (fX5_sameBases_S0 a1 a2 a3 a4 h) k st = some out → match st with
    | (x4) => ∀ (H : Heap) (locs : List Loc) (ls : Array Slot), tm_rg x4 → tw_Rel G sz h H → tw_L G locs → lv_has ls 5 [(0, .ref a1), (1, .ref a2), (2, .ref a3), (3, .int (tw_I a4)), (4, .int (tw_I x4))] → W p l e rmX5_sameBases s m args below meth c H locs 0 0 (MQ below (tw_Qi G sz out h) args s 0 0 (tw_F G)) (F0 m 3 ls []) := by
  intro k
  induction k with
  | zero =>
    intro st out hk
    exact absurd hk (by unfold tm_wit; exact fun z => by cases z)
  | succ k ih =>
    intro x4 out hk
    obtain ⟨X, hk, hf⟩ := tm_wit_succ hk
    intro H locs ls gx4 hR hL hl
    dsimp only [fX5_sameBases_S0] at hk
    refine lv_iload hC.1 hC.2.1 dX5_sameBases_3 (lv_at hl 4 rfl) ?_
    refine lv_iload_n hC.1 hC.2.1 dX5_sameBases_5 rfl (lv_at hl 3 rfl) ?_
    refine tw_cge (tgt := 50) hC hk gx4 ga4 dX5_sameBases_6 (by decide) (fun _ hk => ?_) (fun _ hk => ?_)
    · refine lv_iload hC.1 hC.2.1 dX5_sameBases_9 (lv_at hl 4 rfl) ?_
      refine lv_aload_n hC.1 hC.2.1 dX5_sameBases_11 rfl (lv_at hl 1 rfl) ?_
      refine tw_alen hC hR hk dX5_sameBases_12 (fun v1 gv1 hk => ?_)
      refine tw_cge (tgt := 50) hC hk gx4 gv1 dX5_sameBases_13 (by decide) (fun _ hk => ?_) (fun _ hk => ?_)
      · refine lv_iload hC.1 hC.2.1 dX5_sameBases_16 (lv_at hl 4 rfl) ?_
        refine lv_aload_n hC.1 hC.2.1 dX5_sameBases_18 rfl (lv_at hl 2 rfl) ?_
        refine tw_alen hC hR hk dX5_sameBases_19 (fun v2 gv2 hk => ?_)
        refine tw_cge (tgt := 50) hC hk gx4 gv2 dX5_sameBases_20 (by decide) (fun _ hk => ?_) (fun _ hk => ?_)
        · refine lv_aload_n hC.1 hC.2.1 dX5_sameBases_23 rfl (lv_at hl 0 rfl) ?_
          refine lv_aload_n hC.1 hC.2.1 dX5_sameBases_24 rfl (lv_at hl 1 rfl) ?_
          refine lv_iload hC.1 hC.2.1 dX5_sameBases_25 (lv_at hl 4 rfl) ?_
          refine tw_iald hC hR hk dX5_sameBases_27 (fun v3 gv3 hk => ?_)
          refine kX7_baseOf hC hR hL hk gv3 mlX5_42 ⟨by decide, by decide⟩ hl.1 (Nat.le_of_ble_eq_true rfl) ⟨Nat.zero_le _, Nat.zero_le _⟩ dX5_sameBases_28 (fun v4 H locs hR hL gv4 hk => ?_)
          refine lv_aload_n hC.1 hC.2.1 dX5_sameBases_31 rfl (lv_at hl 0 rfl) ?_
          refine lv_aload_n hC.1 hC.2.1 dX5_sameBases_32 rfl (lv_at hl 2 rfl) ?_
          refine lv_iload hC.1 hC.2.1 dX5_sameBases_33 (lv_at hl 4 rfl) ?_
          refine tw_iald hC hR hk dX5_sameBases_35 (fun v5 gv5 hk => ?_)
          refine kX7_baseOf hC hR hL hk gv5 mlX5_42 ⟨by decide, by decide⟩ hl.1 (Nat.le_of_ble_eq_true rfl) ⟨Nat.zero_le _, Nat.zero_le _⟩ dX5_sameBases_36 (fun v6 H locs hR hL gv6 hk => ?_)
          refine tw_ceq (tgt := 44) hC hk gv4 gv6 dX5_sameBases_39 (by decide) (fun _ hk => ?_) (fun _ hk => ?_)
          · refine tw_iinc (lv' := [(4, .int (tw_I (tm_wr (x4 + 1)))), (0, .ref a1), (1, .ref a2), (2, .ref a3), (3, .int (tw_I a4))]) hC dX5_sameBases_44 hl (k := 4) rfl (by decide) rfl (fun ls hl => ?_)
            refine lv_goto (tgt := 3) hC.1 hC.2.1 dX5_sameBases_47 (by decide) ?_
            cases hk
            exact ih _ out hf H locs _ ((tm_wr_rg _)) hR hL (lv_sub hl [1, 2, 3, 4, 0] rfl)
          · refine lv_iconst (v := tw_I 0) hC.1 hC.2.1 dX5_sameBases_42 rfl ?_
            cases hk
            cases hf
            exact tw_zret hC hR hL rfl rfl dX5_sameBases_43
        · refine lv_iconst (v := tw_I 1) hC.1 hC.2.1 dX5_sameBases_50 rfl ?_
          cases hk
          cases hf
          exact tw_zret hC hR hL rfl rfl dX5_sameBases_51
      · refine lv_iconst (v := tw_I 1) hC.1 hC.2.1 dX5_sameBases_50 rfl ?_
        cases hk
        cases hf
        exact tw_zret hC hR hL rfl rfl dX5_sameBases_51
    · refine lv_iconst (v := tw_I 1) hC.1 hC.2.1 dX5_sameBases_50 rfl ?_
      cases hk
      cases hf
      exact tw_zret hC hR hL rfl rfl dX5_sameBases_51
theorem sX5_sameBases_L3 {l : Launch} {p : Program} {e : Env} {s : State} {m : MethodId} {args : Array Value} {below : List Frame} {meth : Method} {c : Code} (G : tw_G) (sz : Nat) (hC : tw_C G p s m args meth c RX5 cX5_sameBases 5 (some .boolean)) (a1 : Nat) (a2 : Nat) (a3 : Nat) (a4 : Int) (ga4 : tm_rg a4) (h : tm_H) (x4 : Int) (gx4 : tm_rg x4) (out : Int) (hk : fX5_sameBases_L3 a1 a2 a3 a4 h x4 = some out) (H : Heap) (locs : List Loc) (ls : Array Slot) (hR : tw_Rel G sz h H) (hL : tw_L G locs) (hl : lv_has ls 5 [(0, .ref a1), (1, .ref a2), (2, .ref a3), (3, .int (tw_I a4)), (4, .int (tw_I x4))]) : W p l e rmX5_sameBases s m args below meth c H locs 0 0 (MQ below (tw_Qi G sz out h) args s 0 0 (tw_F G)) (F0 m 3 ls []) := by
  obtain ⟨k, hk⟩ := tm_wl_iff.mp hk
  exact sX5_sameBases_S0 G sz hC a1 a2 a3 a4 ga4 h k ((x4)) out hk H locs ls gx4 hR hL hl
set_option maxRecDepth 100000 in
set_option maxHeartbeats 4000000 in
theorem cX5_sameBases_ok (l : Launch) (G : tw_G) (sz : Nat) (a1 : Nat) (a2 : Nat) (a3 : Nat) (a4 : Int) (ga4 : tm_rg a4) (h : tm_H) (out : Int) (hk : fX5_sameBases a1 a2 a3 a4 h = some out) : Met l yX5_sameBases (tw_WS yX5_sameBases cX5_sameBases 5 (some .boolean)) rmX5_sameBases (va_Pc [.ref a1, .ref a2, .ref a3, .int (tw_I a4)] (tw_Pre G sz h)) (tw_Qi G sz out h) 0 0 (tw_F G) := by
  refine tw_met (by decide +kernel) (Nat.le_of_ble_eq_true rfl) ?_
  intro p e s m args below meth c H ls hC hnm hR hl
  unfold fX5_sameBases at hk
  have hl : lv_has ls 5 [(0, .ref a1), (1, .ref a2), (2, .ref a3), (3, .int (tw_I a4))] := hl
  have hL : tw_L G [] := fun q z => by cases z
  generalize hlc : ([] : List Loc) = locs at hL ⊢
  refine lv_iconst (v := tw_I 0) hC.1 hC.2.1 dX5_sameBases_0 rfl ?_
  refine lv_istore (lv' := [(4, .int (tw_I 0)), (0, .ref a1), (1, .ref a2), (2, .ref a3), (3, .int (tw_I a4))]) hC.1 hC.2.1 dX5_sameBases_1 hl (by decide) rfl (fun ls hl => ?_)
  exact sX5_sameBases_L3 G sz hC a1 a2 a3 a4 ga4 h 0 ((tw_rgL rfl)) out hk H locs _ hR hL (lv_sub hl [1, 2, 3, 4, 0] rfl)
set_option maxRecDepth 100000 in
theorem kX5_sameBases {l : Launch} {p : Program} {e : Env} {R : Room} {s : State} {m : MethodId} {args : Array Value} {below : List Frame} {meth : Method} {c : Code} {H : Heap} {locs : List Loc} {cells slots : Nat} {Q : State → Prop} {cc : ByteArray} {pc nL idx : Nat} {ls : Array Slot} {rest : List Value} {G : tw_G} {h : tm_H} {own : String} {ret : Option FieldType} {α : Type} {x : α} {sz : Nat} {a1 : Nat} {a2 : Nat} {a3 : Nat} {a4 : Int} (hC : tw_C G p s m args meth c own cc nL ret) (hR : tw_Rel G sz h H) (hL : tw_L G locs) {F : Int → Option α} (hk : (fX5_sameBases a1 a2 a3 a4 h).bind F = some x) (ga4 : tm_rg a4) (hl : tw_mL own idx yX5_sameBases) (hRm : rmX5_sameBases.frames + 1 ≤ R.frames ∧ 8 + (5 + 11) + rmX5_sameBases.locals ≤ R.locals) (hsz : ls.size = nL) (hW : (rest.map fun v => v.category).sum ≤ 8) (hf : cells + 0 ≤ R.cells ∧ slots + 0 ≤ R.slots) (hdg : decode cc pc = .ok (.invokestatic idx, 3)) (kk : ∀ (r : Int) (H1 : Heap) (locs1 : List Loc), tw_Rel G sz h H1 → tw_L G locs1 → tm_rg r → F r = some x → W p l e R s m args below meth c H1 locs1 (cells + 0) (slots + 0) Q (F0 m (pc + 3) ls (.int (tw_I r) :: rest))) : W p l e R s m args below meth c H locs cells slots Q (F0 m pc ls (.int (tw_I a4) :: .ref a3 :: .ref a2 :: .ref a1 :: rest)) := by
  obtain ⟨r, hr, hF⟩ := Option.bind_eq_some_iff.mp hk
  exact tw_backi (tw_runS hC hR (cX5_sameBases_ok l G sz a1 a2 a3 a4 ga4 h r hr) (n := 4) ⟨tw_in_TB 488 (by decide +kernel) rfl, tw_in_TB 13 (by decide +kernel) rfl, by decide +kernel⟩ (tw_in_TB 487 (by decide +kernel) rfl) hl ⟨rfl, rfl⟩ hRm rfl hsz rfl hW hdg hf) hL (fun H1 locs1 a b g => kk r H1 locs1 a b g hF)
def rmX5_twoAreAlike : Room := { frames := 2, cells := 0, slots := 0, locals := 45 }
set_option maxRecDepth 100000 in
set_option maxHeartbeats 4000000 in
theorem sX5_twoAreAlike_S0 {l : Launch} {p : Program} {e : Env} {s : State} {m : MethodId} {args : Array Value} {below : List Frame} {meth : Method} {c : Code} (G : tw_G) (sz : Nat) (hC : tw_C G p s m args meth c RX5 cX5_twoAreAlike 4 (some .boolean)) (this : Nat) (a1 : Nat)  (h : tm_H) : ∀ (k : Nat) (st : (Int) ⊕ (Int × Int) ⊕ (Int × Int)) (out : Int), tm_wit (fX5_twoAreAlike_S0 this a1 h) k st = some out → match st with
    | .inl ((x2)) => ∀ (H : Heap) (locs : List Loc) (ls : Array Slot), tm_rg x2 → tw_Rel G sz h H → tw_L G locs → lv_has ls 4 [(0, .ref this), (1, .ref a1), (2, .int (tw_I x2))] → W p l e rmX5_twoAreAlike s m args below meth c H locs 0 0 (MQ below (tw_Qi G sz out h) args s 0 0 (tw_F G)) (F0 m 2 ls [])
    | .inr (.inl ((x2, x3))) => ∀ (H : Heap) (locs : List Loc) (ls : Array Slot), tm_rg x2 → tm_rg x3 → tw_Rel G sz h H → tw_L G locs → lv_has ls 4 [(0, .ref this), (1, .ref a1), (2, .int (tw_I x2)), (3, .int (tw_I x3))] → W p l e rmX5_twoAreAlike s m args below meth c H locs 0 0 (MQ below (tw_Qi G sz out h) args s 0 0 (tw_F G)) (F0 m 14 ls [])
    | .inr (.inr ((x2, x3))) => ∀ (H : Heap) (locs : List Loc) (ls : Array Slot), tm_rg x2 → tm_rg x3 → tw_Rel G sz h H → tw_L G locs → lv_has ls 4 [(0, .ref this), (1, .ref a1), (2, .int (tw_I x2)), (3, .int (tw_I x3))] → W p l e rmX5_twoAreAlike s m args below meth c H locs 0 0 (MQ below (tw_Qi G sz out h) args s 0 0 (tw_F G)) (F0 m 64 ls []) := by
  intro k
  induction k with
  | zero =>
    intro st out hk
    exact absurd hk (by unfold tm_wit; exact fun z => by cases z)
  | succ k ih =>
    intro st out hk
    obtain ⟨X, hk, hf⟩ := tm_wit_succ hk
    obtain x2 | ⟨x2, x3⟩ | ⟨x2, x3⟩ := st
    · intro H locs ls gx2 hR hL hl
      dsimp only [fX5_twoAreAlike_S0] at hk
      refine lv_iload_n hC.1 hC.2.1 dX5_twoAreAlike_2 rfl (lv_at hl 2 rfl) ?_
      refine lv_aload_n hC.1 hC.2.1 dX5_twoAreAlike_3 rfl (lv_at hl 0 rfl) ?_
      refine tw_getI hC hR hk flX5_24 dX5_twoAreAlike_4 (fun v1 gv1 hk => ?_)
      refine tw_cge (tgt := 76) hC hk gx2 gv1 dX5_twoAreAlike_7 (by decide) (fun _ hk => ?_) (fun _ hk => ?_)
      · refine lv_iload_n hC.1 hC.2.1 dX5_twoAreAlike_10 rfl (lv_at hl 2 rfl) ?_
        refine lv_iconst (v := tw_I 1) hC.1 hC.2.1 dX5_twoAreAlike_11 rfl ?_
        refine tw_iadd hC dX5_twoAreAlike_12 ?_
        refine lv_istore_n (lv' := [(3, .int (tw_I (tm_wr (x2 + 1)))), (0, .ref this), (1, .ref a1), (2, .int (tw_I x2))]) hC.1 hC.2.1 dX5_twoAreAlike_13 rfl hl (by decide) rfl (fun ls hl => ?_)
        cases hk
        exact ih _ out hf H locs _ gx2 ((tm_wr_rg _)) hR hL (lv_sub hl [1, 2, 3, 0] rfl)
      · refine lv_iconst (v := tw_I 0) hC.1 hC.2.1 dX5_twoAreAlike_76 rfl ?_
        cases hk
        cases hf
        exact tw_zret hC hR hL rfl rfl dX5_twoAreAlike_77
    · intro H locs ls gx2 gx3 hR hL hl
      dsimp only [fX5_twoAreAlike_S0] at hk
      refine lv_iload_n hC.1 hC.2.1 dX5_twoAreAlike_14 rfl (lv_at hl 3 rfl) ?_
      refine lv_aload_n hC.1 hC.2.1 dX5_twoAreAlike_15 rfl (lv_at hl 0 rfl) ?_
      refine tw_getI hC hR hk flX5_24 dX5_twoAreAlike_16 (fun v2 gv2 hk => ?_)
      refine tw_cge (tgt := 70) hC hk gx3 gv2 dX5_twoAreAlike_19 (by decide) (fun _ hk => ?_) (fun _ hk => ?_)
      · refine lv_aload_n hC.1 hC.2.1 dX5_twoAreAlike_22 rfl (lv_at hl 0 rfl) ?_
        refine tw_getR hC hR hk flX5_16 dX5_twoAreAlike_23 (fun r3 hk => ?_)
        refine lv_iload_n hC.1 hC.2.1 dX5_twoAreAlike_26 rfl (lv_at hl 2 rfl) ?_
        refine tw_iald hC hR hk dX5_twoAreAlike_27 (fun v4 gv4 hk => ?_)
        refine lv_aload_n hC.1 hC.2.1 dX5_twoAreAlike_28 rfl (lv_at hl 0 rfl) ?_
        refine tw_getR hC hR hk flX5_16 dX5_twoAreAlike_29 (fun r5 hk => ?_)
        refine lv_iload_n hC.1 hC.2.1 dX5_twoAreAlike_32 rfl (lv_at hl 3 rfl) ?_
        refine tw_iald hC hR hk dX5_twoAreAlike_33 (fun v6 gv6 hk => ?_)
        refine tw_cne (tgt := 64) hC hk gv4 gv6 dX5_twoAreAlike_34 (by decide) (fun _ hk => ?_) (fun _ hk => ?_)
        · refine lv_aload_n hC.1 hC.2.1 dX5_twoAreAlike_37 rfl (lv_at hl 1 rfl) ?_
          refine lv_aload_n hC.1 hC.2.1 dX5_twoAreAlike_38 rfl (lv_at hl 0 rfl) ?_
          refine tw_getR hC hR hk flX5_13 dX5_twoAreAlike_39 (fun r7 hk => ?_)
          refine lv_iload_n hC.1 hC.2.1 dX5_twoAreAlike_42 rfl (lv_at hl 2 rfl) ?_
          refine tw_aald hC hR hk dX5_twoAreAlike_43 (fun r8 hk => ?_)
          refine lv_aload_n hC.1 hC.2.1 dX5_twoAreAlike_44 rfl (lv_at hl 0 rfl) ?_
          refine tw_getR hC hR hk flX5_13 dX5_twoAreAlike_45 (fun r9 hk => ?_)
          refine lv_iload_n hC.1 hC.2.1 dX5_twoAreAlike_48 rfl (lv_at hl 3 rfl) ?_
          refine tw_aald hC hR hk dX5_twoAreAlike_49 (fun r10 hk => ?_)
          refine lv_aload_n hC.1 hC.2.1 dX5_twoAreAlike_50 rfl (lv_at hl 0 rfl) ?_
          refine tw_getR hC hR hk flX5_16 dX5_twoAreAlike_51 (fun r11 hk => ?_)
          refine lv_iload_n hC.1 hC.2.1 dX5_twoAreAlike_54 rfl (lv_at hl 2 rfl) ?_
          refine tw_iald hC hR hk dX5_twoAreAlike_55 (fun v12 gv12 hk => ?_)
          refine kX5_sameBases hC hR hL hk gv12 mlX5_38 ⟨by decide, by decide⟩ hl.1 (Nat.le_of_ble_eq_true rfl) ⟨Nat.zero_le _, Nat.zero_le _⟩ dX5_twoAreAlike_56 (fun v13 H locs hR hL gv13 hk => ?_)
          refine tw_zeq (tgt := 64) hC hk gv13 dX5_twoAreAlike_59 (by decide) (fun _ hk => ?_) (fun _ hk => ?_)
          · cases hk
            exact ih _ out hf H locs _ gx2 gx3 hR hL (lv_sub hl [0, 1, 2, 3] rfl)
          · refine lv_iconst (v := tw_I 1) hC.1 hC.2.1 dX5_twoAreAlike_62 rfl ?_
            cases hk
            cases hf
            exact tw_zret hC hR hL rfl rfl dX5_twoAreAlike_63
        · cases hk
          exact ih _ out hf H locs _ gx2 gx3 hR hL (lv_sub hl [0, 1, 2, 3] rfl)
      · refine tw_iinc (lv' := [(2, .int (tw_I (tm_wr (x2 + 1)))), (0, .ref this), (1, .ref a1), (3, .int (tw_I x3))]) hC dX5_twoAreAlike_70 hl (k := 2) rfl (by decide) rfl (fun ls hl => ?_)
        refine lv_goto (tgt := 2) hC.1 hC.2.1 dX5_twoAreAlike_73 (by decide) ?_
        cases hk
        exact ih _ out hf H locs _ ((tm_wr_rg _)) hR hL (lv_sub hl [1, 2, 0] rfl)
    · intro H locs ls gx2 gx3 hR hL hl
      dsimp only [fX5_twoAreAlike_S0] at hk
      refine tw_iinc (lv' := [(3, .int (tw_I (tm_wr (x3 + 1)))), (0, .ref this), (1, .ref a1), (2, .int (tw_I x2))]) hC dX5_twoAreAlike_64 hl (k := 3) rfl (by decide) rfl (fun ls hl => ?_)
      refine lv_goto (tgt := 14) hC.1 hC.2.1 dX5_twoAreAlike_67 (by decide) ?_
      cases hk
      exact ih _ out hf H locs _ gx2 ((tm_wr_rg _)) hR hL (lv_sub hl [1, 2, 3, 0] rfl)
theorem sX5_twoAreAlike_L2 {l : Launch} {p : Program} {e : Env} {s : State} {m : MethodId} {args : Array Value} {below : List Frame} {meth : Method} {c : Code} (G : tw_G) (sz : Nat) (hC : tw_C G p s m args meth c RX5 cX5_twoAreAlike 4 (some .boolean)) (this : Nat) (a1 : Nat)  (h : tm_H) (x2 : Int) (gx2 : tm_rg x2) (out : Int) (hk : fX5_twoAreAlike_L2 this a1 h x2 = some out) (H : Heap) (locs : List Loc) (ls : Array Slot) (hR : tw_Rel G sz h H) (hL : tw_L G locs) (hl : lv_has ls 4 [(0, .ref this), (1, .ref a1), (2, .int (tw_I x2))]) : W p l e rmX5_twoAreAlike s m args below meth c H locs 0 0 (MQ below (tw_Qi G sz out h) args s 0 0 (tw_F G)) (F0 m 2 ls []) := by
  obtain ⟨k, hk⟩ := tm_wl_iff.mp hk
  exact sX5_twoAreAlike_S0 G sz hC this a1  h k (.inl ((x2))) out hk H locs ls gx2 hR hL hl
theorem sX5_twoAreAlike_L14 {l : Launch} {p : Program} {e : Env} {s : State} {m : MethodId} {args : Array Value} {below : List Frame} {meth : Method} {c : Code} (G : tw_G) (sz : Nat) (hC : tw_C G p s m args meth c RX5 cX5_twoAreAlike 4 (some .boolean)) (this : Nat) (a1 : Nat)  (h : tm_H) (x2 : Int) (x3 : Int) (gx2 : tm_rg x2) (gx3 : tm_rg x3) (out : Int) (hk : fX5_twoAreAlike_L14 this a1 h x2 x3 = some out) (H : Heap) (locs : List Loc) (ls : Array Slot) (hR : tw_Rel G sz h H) (hL : tw_L G locs) (hl : lv_has ls 4 [(0, .ref this), (1, .ref a1), (2, .int (tw_I x2)), (3, .int (tw_I x3))]) : W p l e rmX5_twoAreAlike s m args below meth c H locs 0 0 (MQ below (tw_Qi G sz out h) args s 0 0 (tw_F G)) (F0 m 14 ls []) := by
  obtain ⟨k, hk⟩ := tm_wl_iff.mp hk
  exact sX5_twoAreAlike_S0 G sz hC this a1  h k (.inr (.inl ((x2, x3)))) out hk H locs ls gx2 gx3 hR hL hl
theorem sX5_twoAreAlike_L64 {l : Launch} {p : Program} {e : Env} {s : State} {m : MethodId} {args : Array Value} {below : List Frame} {meth : Method} {c : Code} (G : tw_G) (sz : Nat) (hC : tw_C G p s m args meth c RX5 cX5_twoAreAlike 4 (some .boolean)) (this : Nat) (a1 : Nat)  (h : tm_H) (x2 : Int) (x3 : Int) (gx2 : tm_rg x2) (gx3 : tm_rg x3) (out : Int) (hk : fX5_twoAreAlike_L64 this a1 h x2 x3 = some out) (H : Heap) (locs : List Loc) (ls : Array Slot) (hR : tw_Rel G sz h H) (hL : tw_L G locs) (hl : lv_has ls 4 [(0, .ref this), (1, .ref a1), (2, .int (tw_I x2)), (3, .int (tw_I x3))]) : W p l e rmX5_twoAreAlike s m args below meth c H locs 0 0 (MQ below (tw_Qi G sz out h) args s 0 0 (tw_F G)) (F0 m 64 ls []) := by
  obtain ⟨k, hk⟩ := tm_wl_iff.mp hk
  exact sX5_twoAreAlike_S0 G sz hC this a1  h k (.inr (.inr ((x2, x3)))) out hk H locs ls gx2 gx3 hR hL hl
set_option maxRecDepth 100000 in
set_option maxHeartbeats 4000000 in
theorem cX5_twoAreAlike_ok (l : Launch) (G : tw_G) (sz : Nat) (this : Nat) (a1 : Nat)  (h : tm_H) (out : Int) (hk : fX5_twoAreAlike this a1 h = some out) : Met l yX5_twoAreAlike (tw_WS yX5_twoAreAlike cX5_twoAreAlike 4 (some .boolean)) rmX5_twoAreAlike (va_Pc [.ref this, .ref a1] (tw_Pre G sz h)) (tw_Qi G sz out h) 0 0 (tw_F G) := by
  refine tw_met (by decide +kernel) (Nat.le_of_ble_eq_true rfl) ?_
  intro p e s m args below meth c H ls hC hnm hR hl
  unfold fX5_twoAreAlike at hk
  obtain ⟨hob, hk⟩ := tm_th_is hk
  have hl : lv_has ls 4 [(0, .ref this), (1, .ref a1)] := hl
  have hL : tw_L G [] := fun q z => by cases z
  generalize hlc : ([] : List Loc) = locs at hL ⊢
  refine lv_iconst (v := tw_I 0) hC.1 hC.2.1 dX5_twoAreAlike_0 rfl ?_
  refine lv_istore_n (lv' := [(2, .int (tw_I 0)), (0, .ref this), (1, .ref a1)]) hC.1 hC.2.1 dX5_twoAreAlike_1 rfl hl (by decide) rfl (fun ls hl => ?_)
  exact sX5_twoAreAlike_L2 G sz hC this a1 h 0 ((tw_rgL rfl)) out hk H locs _ hR hL (lv_sub hl [1, 2, 0] rfl)
set_option maxRecDepth 100000 in
theorem kX5_twoAreAlike {l : Launch} {p : Program} {e : Env} {R : Room} {s : State} {m : MethodId} {args : Array Value} {below : List Frame} {meth : Method} {c : Code} {H : Heap} {locs : List Loc} {cells slots : Nat} {Q : State → Prop} {cc : ByteArray} {pc nL idx : Nat} {ls : Array Slot} {rest : List Value} {G : tw_G} {h : tm_H} {own : String} {ret : Option FieldType} {α : Type} {x : α} {sz : Nat} {this : Nat} {a1 : Nat} (hC : tw_C G p s m args meth c own cc nL ret) (hR : tw_Rel G sz h H) (hL : tw_L G locs) {F : Int → Option α} (hk : (fX5_twoAreAlike this a1 h).bind F = some x)  (hl : tw_mL own idx yX5_twoAreAlike) (hRm : rmX5_twoAreAlike.frames + 1 ≤ R.frames ∧ 8 + (4 + 11) + rmX5_twoAreAlike.locals ≤ R.locals) (hsz : ls.size = nL) (hW : (rest.map fun v => v.category).sum ≤ 8) (hf : cells + 0 ≤ R.cells ∧ slots + 0 ≤ R.slots) (hdg : decode cc pc = .ok (.invokevirtual idx, 3)) (kk : ∀ (r : Int) (H1 : Heap) (locs1 : List Loc), tw_Rel G sz h H1 → tw_L G locs1 → tm_rg r → F r = some x → W p l e R s m args below meth c H1 locs1 (cells + 0) (slots + 0) Q (F0 m (pc + 3) ls (.int (tw_I r) :: rest))) : W p l e R s m args below meth c H locs cells slots Q (F0 m pc ls (.ref a1 :: .ref this :: rest)) := by
  obtain ⟨r, hr, hF⟩ := Option.bind_eq_some_iff.mp hk
  have ob : ∀ r, fX5_twoAreAlike this a1 h = some r → tm_is h 5 this := fun r hr => by
    unfold fX5_twoAreAlike at hr
    exact (tm_th_is hr).1
  exact tw_backi (tw_runV hC hR (cX5_twoAreAlike_ok l G sz this a1  h r hr) (n := 1) (As := [.ref a1]) ⟨tw_in_TB 535 (by decide +kernel) rfl, tw_in_TB 13 (by decide +kernel) rfl, by decide +kernel⟩ (tw_in_TB 533 (by decide +kernel) rfl) (tw_in_TB 534 (by decide +kernel) rfl) hl ⟨rfl, rfl⟩ hRm (ob r hr) (T := TX5) (N := 4) rfl rfl hsz rfl hW hdg hf) hL (fun H1 locs1 a b g => kk r H1 locs1 a b g hF)
def rmX4_mayHaveBase : Room := { frames := 3, cells := 0, slots := 0, locals := 68 }
set_option maxRecDepth 100000 in
set_option maxHeartbeats 4000000 in
theorem sX4_mayHaveBase_L29 {l : Launch} {p : Program} {e : Env} {s : State} {m : MethodId} {args : Array Value} {below : List Frame} {meth : Method} {c : Code} (G : tw_G) (sz : Nat) (hC : tw_C G p s m args meth c RX4 cX4_mayHaveBase 5 (some .boolean)) (this : Nat) (a1 : Int) (a2 : Int) (ga1 : tm_rg a1) (ga2 : tm_rg a2)  (h : tm_H)  (out : Int × tm_H) (hk : fX4_mayHaveBase_L29 this a1 a2 h = some out) (H : Heap) (locs : List Loc) (ls : Array Slot) (hR : tw_Rel G sz h H) (hL : tw_L G locs) (hl : lv_has ls 5 [(0, .ref this), (1, .int (tw_I a1)), (2, .int (tw_I a2))]) : W p l e rmX4_mayHaveBase s m args below meth c H locs 0 0 (MQ below (tw_Qi G sz out.1 out.2) args s 0 0 (tw_F G)) (F0 m 29 ls []) := by
  unfold fX4_mayHaveBase_L29 at hk
  refine lv_aload_n hC.1 hC.2.1 dX4_mayHaveBase_29 rfl (lv_at hl 0 rfl) ?_
  refine tw_getR hC hR hk flX4_12 dX4_mayHaveBase_30 (fun r5 hk => ?_)
  refine lv_iload_n hC.1 hC.2.1 dX4_mayHaveBase_33 rfl (lv_at hl 1 rfl) ?_
  refine kX7_baseOf hC hR hL hk ga1 mlX4_57 ⟨by decide, by decide⟩ hl.1 (Nat.le_of_ble_eq_true rfl) ⟨Nat.zero_le _, Nat.zero_le _⟩ dX4_mayHaveBase_34 (fun v6 H locs hR hL gv6 hk => ?_)
  refine lv_istore_n (lv' := [(3, .int (tw_I v6)), (0, .ref this), (1, .int (tw_I a1)), (2, .int (tw_I a2))]) hC.1 hC.2.1 dX4_mayHaveBase_37 rfl hl (by decide) rfl (fun ls hl => ?_)
  refine lv_aload_n hC.1 hC.2.1 dX4_mayHaveBase_38 rfl (lv_at hl 1 rfl) ?_
  refine tw_getR hC hR hk flX4_12 dX4_mayHaveBase_39 (fun r7 hk => ?_)
  refine lv_iload_n hC.1 hC.2.1 dX4_mayHaveBase_42 rfl (lv_at hl 2 rfl) ?_
  refine lv_iload_n hC.1 hC.2.1 dX4_mayHaveBase_43 rfl (lv_at hl 3 rfl) ?_
  refine kX7_putBase hC hR hL hk ga1 ga2 mlX4_61 ⟨by decide, by decide⟩ hl.1 (Nat.le_of_ble_eq_true rfl) ⟨Nat.zero_le _, Nat.zero_le _⟩ dX4_mayHaveBase_44 (fun h8 H locs hR hL hk => ?_)
  refine lv_aload_n hC.1 hC.2.1 dX4_mayHaveBase_47 rfl (lv_at hl 1 rfl) ?_
  refine tw_getR hC hR hk flX4_28 dX4_mayHaveBase_48 (fun r9 hk => ?_)
  refine lv_aload_n hC.1 hC.2.1 dX4_mayHaveBase_51 rfl (lv_at hl 1 rfl) ?_
  refine tw_getR hC hR hk flX4_12 dX4_mayHaveBase_52 (fun r10 hk => ?_)
  refine kX5_twoAreAlike hC hR hL hk mlX4_65 ⟨by decide, by decide⟩ hl.1 (Nat.le_of_ble_eq_true rfl) ⟨Nat.zero_le _, Nat.zero_le _⟩ dX4_mayHaveBase_55 (fun v11 H locs hR hL gv11 hk => ?_)
  refine lv_istore (lv' := [(4, .int (tw_I v11)), (3, .int (tw_I v6)), (0, .ref this), (1, .int (tw_I a1)), (2, .int (tw_I a2))]) hC.1 hC.2.1 dX4_mayHaveBase_58 hl (by decide) rfl (fun ls hl => ?_)
  refine lv_aload_n hC.1 hC.2.1 dX4_mayHaveBase_60 rfl (lv_at hl 2 rfl) ?_
  refine tw_getR hC hR hk flX4_12 dX4_mayHaveBase_61 (fun r12 hk => ?_)
  refine lv_iload_n hC.1 hC.2.1 dX4_mayHaveBase_64 rfl (lv_at hl 3 rfl) ?_
  refine lv_iload_n hC.1 hC.2.1 dX4_mayHaveBase_65 rfl (lv_at hl 1 rfl) ?_
  refine kX7_putBase hC hR hL hk ga1 gv6 mlX4_61 ⟨by decide, by decide⟩ hl.1 (Nat.le_of_ble_eq_true rfl) ⟨Nat.zero_le _, Nat.zero_le _⟩ dX4_mayHaveBase_66 (fun h13 H locs hR hL hk => ?_)
  refine lv_iload hC.1 hC.2.1 dX4_mayHaveBase_69 (lv_at hl 0 rfl) ?_
  refine tw_zne (tgt := 78) hC hk gv11 dX4_mayHaveBase_71 (by decide) (fun _ hk => ?_) (fun _ hk => ?_)
  · refine lv_iconst (v := tw_I 1) hC.1 hC.2.1 dX4_mayHaveBase_74 rfl ?_
    refine lv_goto (tgt := 79) hC.1 hC.2.1 dX4_mayHaveBase_75 (by decide) ?_
    cases hk
    exact tw_zret hC hR hL rfl rfl dX4_mayHaveBase_79
  · refine lv_iconst (v := tw_I 0) hC.1 hC.2.1 dX4_mayHaveBase_78 rfl ?_
    cases hk
    exact tw_zret hC hR hL rfl rfl dX4_mayHaveBase_79
set_option maxRecDepth 100000 in
set_option maxHeartbeats 4000000 in
theorem cX4_mayHaveBase_ok (l : Launch) (G : tw_G) (sz : Nat) (this : Nat) (a1 : Int) (a2 : Int) (ga1 : tm_rg a1) (ga2 : tm_rg a2) (h : tm_H) (out : Int × tm_H) (hk : fX4_mayHaveBase this a1 a2 h = some out) : Met l yX4_mayHaveBase (tw_WS yX4_mayHaveBase cX4_mayHaveBase 5 (some .boolean)) rmX4_mayHaveBase (va_Pc [.ref this, .int (tw_I a1), .int (tw_I a2)] (tw_Pre G sz h)) (tw_Qi G sz out.1 out.2) 0 0 (tw_F G) := by
  refine tw_met (by decide +kernel) (Nat.le_of_ble_eq_true rfl) ?_
  intro p e s m args below meth c H ls hC hnm hR hl
  unfold fX4_mayHaveBase at hk
  obtain ⟨hob, hk⟩ := tm_th_is hk
  have hl : lv_has ls 5 [(0, .ref this), (1, .int (tw_I a1)), (2, .int (tw_I a2))] := hl
  have hL : tw_L G [] := fun q z => by cases z
  generalize hlc : ([] : List Loc) = locs at hL ⊢
  refine lv_iload_n hC.1 hC.2.1 dX4_mayHaveBase_0 rfl (lv_at hl 2 rfl) ?_
  refine lv_iload_n hC.1 hC.2.1 dX4_mayHaveBase_1 rfl (lv_at hl 1 rfl) ?_
  refine tw_ceq (tgt := 29) hC hk ga2 ga1 dX4_mayHaveBase_2 (by decide) (fun _ hk => ?_) (fun _ hk => ?_)
  · exact sX4_mayHaveBase_L29 G sz hC this a1 a2 ga1 ga2 h out hk H locs _ hR hL (lv_sub hl [0, 1, 2] rfl)
  · refine lv_aload_n hC.1 hC.2.1 dX4_mayHaveBase_5 rfl (lv_at hl 0 rfl) ?_
    refine tw_getR hC hR hk flX4_12 dX4_mayHaveBase_6 (fun r1 hk => ?_)
    refine lv_iload_n hC.1 hC.2.1 dX4_mayHaveBase_9 rfl (lv_at hl 2 rfl) ?_
    refine kX7_isForm hC hR hL hk ga2 mlX4_51 ⟨by decide, by decide⟩ hl.1 (Nat.le_of_ble_eq_true rfl) ⟨Nat.zero_le _, Nat.zero_le _⟩ dX4_mayHaveBase_10 (fun v2 H locs hR hL gv2 hk => ?_)
    refine tw_zne (tgt := 27) hC hk gv2 dX4_mayHaveBase_13 (by decide) (fun _ hk => ?_) (fun _ hk => ?_)
    · refine lv_aload_n hC.1 hC.2.1 dX4_mayHaveBase_16 rfl (lv_at hl 0 rfl) ?_
      refine tw_getR hC hR hk flX4_12 dX4_mayHaveBase_17 (fun r3 hk => ?_)
      refine lv_iload_n hC.1 hC.2.1 dX4_mayHaveBase_20 rfl (lv_at hl 1 rfl) ?_
      refine kX7_hasForms hC hR hL hk ga1 mlX4_54 ⟨by decide, by decide⟩ hl.1 (Nat.le_of_ble_eq_true rfl) ⟨Nat.zero_le _, Nat.zero_le _⟩ dX4_mayHaveBase_21 (fun v4 H locs hR hL gv4 hk => ?_)
      refine tw_zeq (tgt := 29) hC hk gv4 dX4_mayHaveBase_24 (by decide) (fun _ hk => ?_) (fun _ hk => ?_)
      · exact sX4_mayHaveBase_L29 G sz hC this a1 a2 ga1 ga2 h out hk H locs _ hR hL (lv_sub hl [0, 1, 2] rfl)
      · refine lv_iconst (v := tw_I 0) hC.1 hC.2.1 dX4_mayHaveBase_27 rfl ?_
        cases hk
        exact tw_zret hC hR hL rfl rfl dX4_mayHaveBase_28
    · refine lv_iconst (v := tw_I 0) hC.1 hC.2.1 dX4_mayHaveBase_27 rfl ?_
      cases hk
      exact tw_zret hC hR hL rfl rfl dX4_mayHaveBase_28
set_option maxRecDepth 100000 in
theorem kX4_mayHaveBase {l : Launch} {p : Program} {e : Env} {R : Room} {s : State} {m : MethodId} {args : Array Value} {below : List Frame} {meth : Method} {c : Code} {H : Heap} {locs : List Loc} {cells slots : Nat} {Q : State → Prop} {cc : ByteArray} {pc nL idx : Nat} {ls : Array Slot} {rest : List Value} {G : tw_G} {h : tm_H} {own : String} {ret : Option FieldType} {α : Type} {x : α} {sz : Nat} {this : Nat} {a1 : Int} {a2 : Int} (hC : tw_C G p s m args meth c own cc nL ret) (hR : tw_Rel G sz h H) (hL : tw_L G locs) {F : Int × tm_H → Option α} (hk : (fX4_mayHaveBase this a1 a2 h).bind F = some x) (ga1 : tm_rg a1) (ga2 : tm_rg a2) (hl : tw_mL own idx yX4_mayHaveBase) (hRm : rmX4_mayHaveBase.frames + 1 ≤ R.frames ∧ 8 + (5 + 11) + rmX4_mayHaveBase.locals ≤ R.locals) (hsz : ls.size = nL) (hW : (rest.map fun v => v.category).sum ≤ 8) (hf : cells + 0 ≤ R.cells ∧ slots + 0 ≤ R.slots) (hdg : decode cc pc = .ok (.invokevirtual idx, 3)) (kk : ∀ (r : Int) (h1 : tm_H) (H1 : Heap) (locs1 : List Loc), tw_Rel G sz h1 H1 → tw_L G locs1 → tm_rg r → F (r, h1) = some x → W p l e R s m args below meth c H1 locs1 (cells + 0) (slots + 0) Q (F0 m (pc + 3) ls (.int (tw_I r) :: rest))) : W p l e R s m args below meth c H locs cells slots Q (F0 m pc ls (.int (tw_I a2) :: .int (tw_I a1) :: .ref this :: rest)) := by
  obtain ⟨r, hr, hF⟩ := Option.bind_eq_some_iff.mp hk
  have ob : ∀ r, fX4_mayHaveBase this a1 a2 h = some r → tm_is h 4 this := fun r hr => by
    unfold fX4_mayHaveBase at hr
    exact (tm_th_is hr).1
  exact tw_backi (tw_runV hC hR (cX4_mayHaveBase_ok l G sz this a1 a2 ga1 ga2 h r hr) (n := 2) (As := [.int (tw_I a1), .int (tw_I a2)]) ⟨tw_in_TB 517 (by decide +kernel) rfl, tw_in_TB 10 (by decide +kernel) rfl, by decide +kernel⟩ (tw_in_TB 515 (by decide +kernel) rfl) (tw_in_TB 516 (by decide +kernel) rfl) hl ⟨rfl, rfl⟩ hRm (ob r hr) (T := TX4) (N := 5) rfl rfl hsz rfl hW hdg hf) hL (fun H1 locs1 a b g => kk r.1 r.2 H1 locs1 a b g hF)
def rmX4_occurrences : Room := { frames := 2, cells := 0, slots := 0, locals := 47 }
set_option maxRecDepth 100000 in
set_option maxHeartbeats 4000000 in
theorem sX4_occurrences_S0 {l : Launch} {p : Program} {e : Env} {s : State} {m : MethodId} {args : Array Value} {below : List Frame} {meth : Method} {c : Code} (G : tw_G) (sz : Nat) (hC : tw_C G p s m args meth c RX4 cX4_occurrences 5 (some .int)) (this : Nat) (a1 : Int) (ga1 : tm_rg a1) (h : tm_H) : ∀ (k : Nat) (st : (Int × Int) ⊕ (Int × Int × Int) ⊕ (Int × Int × Int)) (out : Int), tm_wit (fX4_occurrences_S0 this a1 h) k st = some out → match st with
    | .inl ((x2, x3)) => ∀ (H : Heap) (locs : List Loc) (ls : Array Slot), tm_rg x2 → tm_rg x3 → tw_Rel G sz h H → tw_L G locs → lv_has ls 5 [(0, .ref this), (1, .int (tw_I a1)), (2, .int (tw_I x2)), (3, .int (tw_I x3))] → W p l e rmX4_occurrences s m args below meth c H locs 0 0 (MQ below (tw_Qi G sz out h) args s 0 0 (tw_F G)) (F0 m 4 ls [])
    | .inr (.inl ((x2, x3, x4))) => ∀ (H : Heap) (locs : List Loc) (ls : Array Slot), tm_rg x2 → tm_rg x3 → tm_rg x4 → tw_Rel G sz h H → tw_L G locs → lv_has ls 5 [(0, .ref this), (1, .int (tw_I a1)), (2, .int (tw_I x2)), (3, .int (tw_I x3)), (4, .int (tw_I x4))] → W p l e rmX4_occurrences s m args below meth c H locs 0 0 (MQ below (tw_Qi G sz out h) args s 0 0 (tw_F G)) (F0 m 13 ls [])
    | .inr (.inr ((x2, x3, x4))) => ∀ (H : Heap) (locs : List Loc) (ls : Array Slot), tm_rg x2 → tm_rg x3 → tm_rg x4 → tw_Rel G sz h H → tw_L G locs → lv_has ls 5 [(0, .ref this), (1, .int (tw_I a1)), (2, .int (tw_I x2)), (3, .int (tw_I x3)), (4, .int (tw_I x4))] → W p l e rmX4_occurrences s m args below meth c H locs 0 0 (MQ below (tw_Qi G sz out h) args s 0 0 (tw_F G)) (F0 m 40 ls []) := by
  intro k
  induction k with
  | zero =>
    intro st out hk
    exact absurd hk (by unfold tm_wit; exact fun z => by cases z)
  | succ k ih =>
    intro st out hk
    obtain ⟨X, hk, hf⟩ := tm_wit_succ hk
    obtain ⟨x2, x3⟩ | ⟨x2, x3, x4⟩ | ⟨x2, x3, x4⟩ := st
    · intro H locs ls gx2 gx3 hR hL hl
      dsimp only [fX4_occurrences_S0] at hk
      refine lv_iload_n hC.1 hC.2.1 dX4_occurrences_4 rfl (lv_at hl 3 rfl) ?_
      refine lv_bipush (v := tw_I 6) hC.1 hC.2.1 dX4_occurrences_5 (by decide) ?_
      refine tw_cge (tgt := 52) hC hk gx3 ((tw_rgL rfl)) dX4_occurrences_7 (by decide) (fun _ hk => ?_) (fun _ hk => ?_)
      · refine lv_iconst (v := tw_I 0) hC.1 hC.2.1 dX4_occurrences_10 rfl ?_
        refine lv_istore (lv' := [(4, .int (tw_I 0)), (0, .ref this), (1, .int (tw_I a1)), (2, .int (tw_I x2)), (3, .int (tw_I x3))]) hC.1 hC.2.1 dX4_occurrences_11 hl (by decide) rfl (fun ls hl => ?_)
        cases hk
        exact ih _ out hf H locs _ gx2 gx3 ((tw_rgL rfl)) hR hL (lv_sub hl [1, 2, 3, 4, 0] rfl)
      · refine lv_iload_n hC.1 hC.2.1 dX4_occurrences_52 rfl (lv_at hl 2 rfl) ?_
        cases hk
        cases hf
        exact tw_iret hC hR hL gx2 rfl rfl dX4_occurrences_53
    · intro H locs ls gx2 gx3 gx4 hR hL hl
      dsimp only [fX4_occurrences_S0] at hk
      refine lv_iload hC.1 hC.2.1 dX4_occurrences_13 (lv_at hl 4 rfl) ?_
      refine lv_aload_n hC.1 hC.2.1 dX4_occurrences_15 rfl (lv_at hl 0 rfl) ?_
      refine tw_getR hC hR hk flX4_21 dX4_occurrences_16 (fun r1 hk => ?_)
      refine lv_iload_n hC.1 hC.2.1 dX4_occurrences_19 rfl (lv_at hl 3 rfl) ?_
      refine kX0_lengthOf hC hR hL hk gx3 mlX4_72 ⟨by decide, by decide⟩ hl.1 (Nat.le_of_ble_eq_true rfl) ⟨Nat.zero_le _, Nat.zero_le _⟩ dX4_occurrences_20 (fun v2 H locs hR hL gv2 hk => ?_)
      refine tw_cge (tgt := 46) hC hk gx4 gv2 dX4_occurrences_23 (by decide) (fun _ hk => ?_) (fun _ hk => ?_)
      · refine lv_aload_n hC.1 hC.2.1 dX4_occurrences_26 rfl (lv_at hl 0 rfl) ?_
        refine lv_iload_n hC.1 hC.2.1 dX4_occurrences_27 rfl (lv_at hl 1 rfl) ?_
        refine lv_iload_n hC.1 hC.2.1 dX4_occurrences_28 rfl (lv_at hl 3 rfl) ?_
        refine lv_iload hC.1 hC.2.1 dX4_occurrences_29 (lv_at hl 4 rfl) ?_
        refine kX4_occursAt hC hR hL hk ga1 gx3 gx4 mlX4_78 ⟨by decide, by decide⟩ hl.1 (Nat.le_of_ble_eq_true rfl) ⟨Nat.zero_le _, Nat.zero_le _⟩ dX4_occurrences_31 (fun v3 H locs hR hL gv3 hk => ?_)
        refine tw_zeq (tgt := 40) hC hk gv3 dX4_occurrences_34 (by decide) (fun _ hk => ?_) (fun _ hk => ?_)
        · cases hk
          exact ih _ out hf H locs _ gx2 gx3 gx4 hR hL (lv_sub hl [0, 1, 2, 3, 4] rfl)
        · refine tw_iinc (lv' := [(2, .int (tw_I (tm_wr (x2 + 1)))), (0, .ref this), (1, .int (tw_I a1)), (3, .int (tw_I x3)), (4, .int (tw_I x4))]) hC dX4_occurrences_37 hl (k := 2) rfl (by decide) rfl (fun ls hl => ?_)
          cases hk
          exact ih _ out hf H locs _ ((tm_wr_rg _)) gx3 gx4 hR hL (lv_sub hl [1, 2, 0, 3, 4] rfl)
      · refine tw_iinc (lv' := [(3, .int (tw_I (tm_wr (x3 + 1)))), (0, .ref this), (1, .int (tw_I a1)), (2, .int (tw_I x2)), (4, .int (tw_I x4))]) hC dX4_occurrences_46 hl (k := 3) rfl (by decide) rfl (fun ls hl => ?_)
        refine lv_goto (tgt := 4) hC.1 hC.2.1 dX4_occurrences_49 (by decide) ?_
        cases hk
        exact ih _ out hf H locs _ gx2 ((tm_wr_rg _)) hR hL (lv_sub hl [1, 2, 3, 0] rfl)
    · intro H locs ls gx2 gx3 gx4 hR hL hl
      dsimp only [fX4_occurrences_S0] at hk
      refine tw_iinc (lv' := [(4, .int (tw_I (tm_wr (x4 + 1)))), (0, .ref this), (1, .int (tw_I a1)), (2, .int (tw_I x2)), (3, .int (tw_I x3))]) hC dX4_occurrences_40 hl (k := 4) rfl (by decide) rfl (fun ls hl => ?_)
      refine lv_goto (tgt := 13) hC.1 hC.2.1 dX4_occurrences_43 (by decide) ?_
      cases hk
      exact ih _ out hf H locs _ gx2 gx3 ((tm_wr_rg _)) hR hL (lv_sub hl [1, 2, 3, 4, 0] rfl)
theorem sX4_occurrences_L4 {l : Launch} {p : Program} {e : Env} {s : State} {m : MethodId} {args : Array Value} {below : List Frame} {meth : Method} {c : Code} (G : tw_G) (sz : Nat) (hC : tw_C G p s m args meth c RX4 cX4_occurrences 5 (some .int)) (this : Nat) (a1 : Int) (ga1 : tm_rg a1) (h : tm_H) (x2 : Int) (x3 : Int) (gx2 : tm_rg x2) (gx3 : tm_rg x3) (out : Int) (hk : fX4_occurrences_L4 this a1 h x2 x3 = some out) (H : Heap) (locs : List Loc) (ls : Array Slot) (hR : tw_Rel G sz h H) (hL : tw_L G locs) (hl : lv_has ls 5 [(0, .ref this), (1, .int (tw_I a1)), (2, .int (tw_I x2)), (3, .int (tw_I x3))]) : W p l e rmX4_occurrences s m args below meth c H locs 0 0 (MQ below (tw_Qi G sz out h) args s 0 0 (tw_F G)) (F0 m 4 ls []) := by
  obtain ⟨k, hk⟩ := tm_wl_iff.mp hk
  exact sX4_occurrences_S0 G sz hC this a1 ga1 h k (.inl ((x2, x3))) out hk H locs ls gx2 gx3 hR hL hl
theorem sX4_occurrences_L13 {l : Launch} {p : Program} {e : Env} {s : State} {m : MethodId} {args : Array Value} {below : List Frame} {meth : Method} {c : Code} (G : tw_G) (sz : Nat) (hC : tw_C G p s m args meth c RX4 cX4_occurrences 5 (some .int)) (this : Nat) (a1 : Int) (ga1 : tm_rg a1) (h : tm_H) (x2 : Int) (x3 : Int) (x4 : Int) (gx2 : tm_rg x2) (gx3 : tm_rg x3) (gx4 : tm_rg x4) (out : Int) (hk : fX4_occurrences_L13 this a1 h x2 x3 x4 = some out) (H : Heap) (locs : List Loc) (ls : Array Slot) (hR : tw_Rel G sz h H) (hL : tw_L G locs) (hl : lv_has ls 5 [(0, .ref this), (1, .int (tw_I a1)), (2, .int (tw_I x2)), (3, .int (tw_I x3)), (4, .int (tw_I x4))]) : W p l e rmX4_occurrences s m args below meth c H locs 0 0 (MQ below (tw_Qi G sz out h) args s 0 0 (tw_F G)) (F0 m 13 ls []) := by
  obtain ⟨k, hk⟩ := tm_wl_iff.mp hk
  exact sX4_occurrences_S0 G sz hC this a1 ga1 h k (.inr (.inl ((x2, x3, x4)))) out hk H locs ls gx2 gx3 gx4 hR hL hl
theorem sX4_occurrences_L40 {l : Launch} {p : Program} {e : Env} {s : State} {m : MethodId} {args : Array Value} {below : List Frame} {meth : Method} {c : Code} (G : tw_G) (sz : Nat) (hC : tw_C G p s m args meth c RX4 cX4_occurrences 5 (some .int)) (this : Nat) (a1 : Int) (ga1 : tm_rg a1) (h : tm_H) (x2 : Int) (x3 : Int) (x4 : Int) (gx2 : tm_rg x2) (gx3 : tm_rg x3) (gx4 : tm_rg x4) (out : Int) (hk : fX4_occurrences_L40 this a1 h x2 x3 x4 = some out) (H : Heap) (locs : List Loc) (ls : Array Slot) (hR : tw_Rel G sz h H) (hL : tw_L G locs) (hl : lv_has ls 5 [(0, .ref this), (1, .int (tw_I a1)), (2, .int (tw_I x2)), (3, .int (tw_I x3)), (4, .int (tw_I x4))]) : W p l e rmX4_occurrences s m args below meth c H locs 0 0 (MQ below (tw_Qi G sz out h) args s 0 0 (tw_F G)) (F0 m 40 ls []) := by
  obtain ⟨k, hk⟩ := tm_wl_iff.mp hk
  exact sX4_occurrences_S0 G sz hC this a1 ga1 h k (.inr (.inr ((x2, x3, x4)))) out hk H locs ls gx2 gx3 gx4 hR hL hl
set_option maxRecDepth 100000 in
set_option maxHeartbeats 4000000 in
theorem cX4_occurrences_ok (l : Launch) (G : tw_G) (sz : Nat) (this : Nat) (a1 : Int) (ga1 : tm_rg a1) (h : tm_H) (out : Int) (hk : fX4_occurrences this a1 h = some out) : Met l yX4_occurrences (tw_WS yX4_occurrences cX4_occurrences 5 (some .int)) rmX4_occurrences (va_Pc [.ref this, .int (tw_I a1)] (tw_Pre G sz h)) (tw_Qi G sz out h) 0 0 (tw_F G) := by
  refine tw_met (by decide +kernel) (Nat.le_of_ble_eq_true rfl) ?_
  intro p e s m args below meth c H ls hC hnm hR hl
  unfold fX4_occurrences at hk
  obtain ⟨hob, hk⟩ := tm_th_is hk
  have hl : lv_has ls 5 [(0, .ref this), (1, .int (tw_I a1))] := hl
  have hL : tw_L G [] := fun q z => by cases z
  generalize hlc : ([] : List Loc) = locs at hL ⊢
  refine lv_iconst (v := tw_I 0) hC.1 hC.2.1 dX4_occurrences_0 rfl ?_
  refine lv_istore_n (lv' := [(2, .int (tw_I 0)), (0, .ref this), (1, .int (tw_I a1))]) hC.1 hC.2.1 dX4_occurrences_1 rfl hl (by decide) rfl (fun ls hl => ?_)
  refine lv_iconst (v := tw_I 0) hC.1 hC.2.1 dX4_occurrences_2 rfl ?_
  refine lv_istore_n (lv' := [(3, .int (tw_I 0)), (2, .int (tw_I 0)), (0, .ref this), (1, .int (tw_I a1))]) hC.1 hC.2.1 dX4_occurrences_3 rfl hl (by decide) rfl (fun ls hl => ?_)
  exact sX4_occurrences_L4 G sz hC this a1 ga1 h 0 0 ((tw_rgL rfl)) ((tw_rgL rfl)) out hk H locs _ hR hL (lv_sub hl [2, 3, 1, 0] rfl)
set_option maxRecDepth 100000 in
theorem kX4_occurrences {l : Launch} {p : Program} {e : Env} {R : Room} {s : State} {m : MethodId} {args : Array Value} {below : List Frame} {meth : Method} {c : Code} {H : Heap} {locs : List Loc} {cells slots : Nat} {Q : State → Prop} {cc : ByteArray} {pc nL idx : Nat} {ls : Array Slot} {rest : List Value} {G : tw_G} {h : tm_H} {own : String} {ret : Option FieldType} {α : Type} {x : α} {sz : Nat} {this : Nat} {a1 : Int} (hC : tw_C G p s m args meth c own cc nL ret) (hR : tw_Rel G sz h H) (hL : tw_L G locs) {F : Int → Option α} (hk : (fX4_occurrences this a1 h).bind F = some x) (ga1 : tm_rg a1) (hl : tw_mL own idx yX4_occurrences) (hRm : rmX4_occurrences.frames + 1 ≤ R.frames ∧ 8 + (5 + 11) + rmX4_occurrences.locals ≤ R.locals) (hsz : ls.size = nL) (hW : (rest.map fun v => v.category).sum ≤ 8) (hf : cells + 0 ≤ R.cells ∧ slots + 0 ≤ R.slots) (hdg : decode cc pc = .ok (.invokevirtual idx, 3)) (kk : ∀ (r : Int) (H1 : Heap) (locs1 : List Loc), tw_Rel G sz h H1 → tw_L G locs1 → tm_rg r → F r = some x → W p l e R s m args below meth c H1 locs1 (cells + 0) (slots + 0) Q (F0 m (pc + 3) ls (.int (tw_I r) :: rest))) : W p l e R s m args below meth c H locs cells slots Q (F0 m pc ls (.int (tw_I a1) :: .ref this :: rest)) := by
  obtain ⟨r, hr, hF⟩ := Option.bind_eq_some_iff.mp hk
  have ob : ∀ r, fX4_occurrences this a1 h = some r → tm_is h 4 this := fun r hr => by
    unfold fX4_occurrences at hr
    exact (tm_th_is hr).1
  exact tw_backi (tw_runV hC hR (cX4_occurrences_ok l G sz this a1 ga1 h r hr) (n := 1) (As := [.int (tw_I a1)]) ⟨tw_in_TB 410 (by decide +kernel) rfl, tw_in_TB 10 (by decide +kernel) rfl, by decide +kernel⟩ (tw_in_TB 408 (by decide +kernel) rfl) (tw_in_TB 409 (by decide +kernel) rfl) hl ⟨rfl, rfl⟩ hRm (ob r hr) (T := TX4) (N := 5) rfl rfl hsz rfl hW hdg hf) hL (fun H1 locs1 a b g => kk r H1 locs1 a b g hF)
def rmX4_occursWithin : Room := { frames := 1, cells := 0, slots := 0, locals := 22 }
set_option maxRecDepth 100000 in
set_option maxHeartbeats 4000000 in
theorem sX4_occursWithin_S0 {l : Launch} {p : Program} {e : Env} {s : State} {m : MethodId} {args : Array Value} {below : List Frame} {meth : Method} {c : Code} (G : tw_G) (sz : Nat) (hC : tw_C G p s m args meth c RX4 cX4_occursWithin 5 (some .boolean)) (this : Nat) (a1 : Int) (a2 : Int) (a3 : Int) (ga1 : tm_rg a1) (ga2 : tm_rg a2) (ga3 : tm_rg a3) (h : tm_H) : ∀ (k : Nat) (st : (Int)) (out : Int), tm_wit (fX4_occursWithin_S0 this a1 a2 a3 h) k st = some out → match st with
    | (x4) => ∀ (H : Heap) (locs : List Loc) (ls : Array Slot), tm_rg x4 → tw_Rel G sz h H → tw_L G locs → lv_has ls 5 [(0, .ref this), (1, .int (tw_I a1)), (2, .int (tw_I a2)), (3, .int (tw_I a3)), (4, .int (tw_I x4))] → W p l e rmX4_occursWithin s m args below meth c H locs 0 0 (MQ below (tw_Qi G sz out h) args s 0 0 (tw_F G)) (F0 m 3 ls []) := by
  intro k
  induction k with
  | zero =>
    intro st out hk
    exact absurd hk (by unfold tm_wit; exact fun z => by cases z)
  | succ k ih =>
    intro x4 out hk
    obtain ⟨X, hk, hf⟩ := tm_wit_succ hk
    intro H locs ls gx4 hR hL hl
    dsimp only [fX4_occursWithin_S0] at hk
    refine lv_iload hC.1 hC.2.1 dX4_occursWithin_3 (lv_at hl 4 rfl) ?_
    refine lv_aload_n hC.1 hC.2.1 dX4_occursWithin_5 rfl (lv_at hl 0 rfl) ?_
    refine tw_getR hC hR hk flX4_28 dX4_occursWithin_6 (fun r1 hk => ?_)
    refine lv_iload_n hC.1 hC.2.1 dX4_occursWithin_9 rfl (lv_at hl 1 rfl) ?_
    refine kX5_lengthOf hC hR hL hk ga1 mlX4_69 ⟨by decide, by decide⟩ hl.1 (Nat.le_of_ble_eq_true rfl) ⟨Nat.zero_le _, Nat.zero_le _⟩ dX4_occursWithin_10 (fun v2 H locs hR hL gv2 hk => ?_)
    refine tw_cge (tgt := 63) hC hk gx4 gv2 dX4_occursWithin_13 (by decide) (fun _ hk => ?_) (fun _ hk => ?_)
    · refine lv_aload_n hC.1 hC.2.1 dX4_occursWithin_16 rfl (lv_at hl 0 rfl) ?_
      refine tw_getR hC hR hk flX4_12 dX4_occursWithin_17 (fun r3 hk => ?_)
      refine lv_aload_n hC.1 hC.2.1 dX4_occursWithin_20 rfl (lv_at hl 0 rfl) ?_
      refine tw_getR hC hR hk flX4_28 dX4_occursWithin_21 (fun r4 hk => ?_)
      refine lv_iload_n hC.1 hC.2.1 dX4_occursWithin_24 rfl (lv_at hl 1 rfl) ?_
      refine lv_iload hC.1 hC.2.1 dX4_occursWithin_25 (lv_at hl 4 rfl) ?_
      refine kX5_wordAt hC hR hL hk ga1 gx4 mlX4_73 ⟨by decide, by decide⟩ hl.1 (Nat.le_of_ble_eq_true rfl) ⟨Nat.zero_le _, Nat.zero_le _⟩ dX4_occursWithin_27 (fun v5 H locs hR hL gv5 hk => ?_)
      refine kX7_baseOf hC hR hL hk gv5 mlX4_57 ⟨by decide, by decide⟩ hl.1 (Nat.le_of_ble_eq_true rfl) ⟨Nat.zero_le _, Nat.zero_le _⟩ dX4_occursWithin_30 (fun v6 H locs hR hL gv6 hk => ?_)
      refine lv_aload_n hC.1 hC.2.1 dX4_occursWithin_33 rfl (lv_at hl 0 rfl) ?_
      refine tw_getR hC hR hk flX4_12 dX4_occursWithin_34 (fun r7 hk => ?_)
      refine lv_aload_n hC.1 hC.2.1 dX4_occursWithin_37 rfl (lv_at hl 0 rfl) ?_
      refine tw_getR hC hR hk flX4_28 dX4_occursWithin_38 (fun r8 hk => ?_)
      refine lv_iload_n hC.1 hC.2.1 dX4_occursWithin_41 rfl (lv_at hl 2 rfl) ?_
      refine lv_iload_n hC.1 hC.2.1 dX4_occursWithin_42 rfl (lv_at hl 3 rfl) ?_
      refine lv_iload hC.1 hC.2.1 dX4_occursWithin_43 (lv_at hl 4 rfl) ?_
      refine tw_iadd hC dX4_occursWithin_45 ?_
      refine kX5_wordAt hC hR hL hk ga2 ((tm_wr_rg _)) mlX4_73 ⟨by decide, by decide⟩ hl.1 (Nat.le_of_ble_eq_true rfl) ⟨Nat.zero_le _, Nat.zero_le _⟩ dX4_occursWithin_46 (fun v9 H locs hR hL gv9 hk => ?_)
      refine kX7_baseOf hC hR hL hk gv9 mlX4_57 ⟨by decide, by decide⟩ hl.1 (Nat.le_of_ble_eq_true rfl) ⟨Nat.zero_le _, Nat.zero_le _⟩ dX4_occursWithin_49 (fun v10 H locs hR hL gv10 hk => ?_)
      refine tw_ceq (tgt := 57) hC hk gv6 gv10 dX4_occursWithin_52 (by decide) (fun _ hk => ?_) (fun _ hk => ?_)
      · refine tw_iinc (lv' := [(4, .int (tw_I (tm_wr (x4 + 1)))), (0, .ref this), (1, .int (tw_I a1)), (2, .int (tw_I a2)), (3, .int (tw_I a3))]) hC dX4_occursWithin_57 hl (k := 4) rfl (by decide) rfl (fun ls hl => ?_)
        refine lv_goto (tgt := 3) hC.1 hC.2.1 dX4_occursWithin_60 (by decide) ?_
        cases hk
        exact ih _ out hf H locs _ ((tm_wr_rg _)) hR hL (lv_sub hl [1, 2, 3, 4, 0] rfl)
      · refine lv_iconst (v := tw_I 0) hC.1 hC.2.1 dX4_occursWithin_55 rfl ?_
        cases hk
        cases hf
        exact tw_zret hC hR hL rfl rfl dX4_occursWithin_56
    · refine lv_iconst (v := tw_I 1) hC.1 hC.2.1 dX4_occursWithin_63 rfl ?_
      cases hk
      cases hf
      exact tw_zret hC hR hL rfl rfl dX4_occursWithin_64
theorem sX4_occursWithin_L3 {l : Launch} {p : Program} {e : Env} {s : State} {m : MethodId} {args : Array Value} {below : List Frame} {meth : Method} {c : Code} (G : tw_G) (sz : Nat) (hC : tw_C G p s m args meth c RX4 cX4_occursWithin 5 (some .boolean)) (this : Nat) (a1 : Int) (a2 : Int) (a3 : Int) (ga1 : tm_rg a1) (ga2 : tm_rg a2) (ga3 : tm_rg a3) (h : tm_H) (x4 : Int) (gx4 : tm_rg x4) (out : Int) (hk : fX4_occursWithin_L3 this a1 a2 a3 h x4 = some out) (H : Heap) (locs : List Loc) (ls : Array Slot) (hR : tw_Rel G sz h H) (hL : tw_L G locs) (hl : lv_has ls 5 [(0, .ref this), (1, .int (tw_I a1)), (2, .int (tw_I a2)), (3, .int (tw_I a3)), (4, .int (tw_I x4))]) : W p l e rmX4_occursWithin s m args below meth c H locs 0 0 (MQ below (tw_Qi G sz out h) args s 0 0 (tw_F G)) (F0 m 3 ls []) := by
  obtain ⟨k, hk⟩ := tm_wl_iff.mp hk
  exact sX4_occursWithin_S0 G sz hC this a1 a2 a3 ga1 ga2 ga3 h k ((x4)) out hk H locs ls gx4 hR hL hl
set_option maxRecDepth 100000 in
set_option maxHeartbeats 4000000 in
theorem cX4_occursWithin_ok (l : Launch) (G : tw_G) (sz : Nat) (this : Nat) (a1 : Int) (a2 : Int) (a3 : Int) (ga1 : tm_rg a1) (ga2 : tm_rg a2) (ga3 : tm_rg a3) (h : tm_H) (out : Int) (hk : fX4_occursWithin this a1 a2 a3 h = some out) : Met l yX4_occursWithin (tw_WS yX4_occursWithin cX4_occursWithin 5 (some .boolean)) rmX4_occursWithin (va_Pc [.ref this, .int (tw_I a1), .int (tw_I a2), .int (tw_I a3)] (tw_Pre G sz h)) (tw_Qi G sz out h) 0 0 (tw_F G) := by
  refine tw_met (by decide +kernel) (Nat.le_of_ble_eq_true rfl) ?_
  intro p e s m args below meth c H ls hC hnm hR hl
  unfold fX4_occursWithin at hk
  obtain ⟨hob, hk⟩ := tm_th_is hk
  have hl : lv_has ls 5 [(0, .ref this), (1, .int (tw_I a1)), (2, .int (tw_I a2)), (3, .int (tw_I a3))] := hl
  have hL : tw_L G [] := fun q z => by cases z
  generalize hlc : ([] : List Loc) = locs at hL ⊢
  refine lv_iconst (v := tw_I 0) hC.1 hC.2.1 dX4_occursWithin_0 rfl ?_
  refine lv_istore (lv' := [(4, .int (tw_I 0)), (0, .ref this), (1, .int (tw_I a1)), (2, .int (tw_I a2)), (3, .int (tw_I a3))]) hC.1 hC.2.1 dX4_occursWithin_1 hl (by decide) rfl (fun ls hl => ?_)
  exact sX4_occursWithin_L3 G sz hC this a1 a2 a3 ga1 ga2 ga3 h 0 ((tw_rgL rfl)) out hk H locs _ hR hL (lv_sub hl [1, 2, 3, 4, 0] rfl)
set_option maxRecDepth 100000 in
theorem kX4_occursWithin {l : Launch} {p : Program} {e : Env} {R : Room} {s : State} {m : MethodId} {args : Array Value} {below : List Frame} {meth : Method} {c : Code} {H : Heap} {locs : List Loc} {cells slots : Nat} {Q : State → Prop} {cc : ByteArray} {pc nL idx : Nat} {ls : Array Slot} {rest : List Value} {G : tw_G} {h : tm_H} {own : String} {ret : Option FieldType} {α : Type} {x : α} {sz : Nat} {this : Nat} {a1 : Int} {a2 : Int} {a3 : Int} (hC : tw_C G p s m args meth c own cc nL ret) (hR : tw_Rel G sz h H) (hL : tw_L G locs) {F : Int → Option α} (hk : (fX4_occursWithin this a1 a2 a3 h).bind F = some x) (ga1 : tm_rg a1) (ga2 : tm_rg a2) (ga3 : tm_rg a3) (hl : tw_mL own idx yX4_occursWithin) (hRm : rmX4_occursWithin.frames + 1 ≤ R.frames ∧ 8 + (5 + 11) + rmX4_occursWithin.locals ≤ R.locals) (hsz : ls.size = nL) (hW : (rest.map fun v => v.category).sum ≤ 8) (hf : cells + 0 ≤ R.cells ∧ slots + 0 ≤ R.slots) (hdg : decode cc pc = .ok (.invokevirtual idx, 3)) (kk : ∀ (r : Int) (H1 : Heap) (locs1 : List Loc), tw_Rel G sz h H1 → tw_L G locs1 → tm_rg r → F r = some x → W p l e R s m args below meth c H1 locs1 (cells + 0) (slots + 0) Q (F0 m (pc + 3) ls (.int (tw_I r) :: rest))) : W p l e R s m args below meth c H locs cells slots Q (F0 m pc ls (.int (tw_I a3) :: .int (tw_I a2) :: .int (tw_I a1) :: .ref this :: rest)) := by
  obtain ⟨r, hr, hF⟩ := Option.bind_eq_some_iff.mp hk
  have ob : ∀ r, fX4_occursWithin this a1 a2 a3 h = some r → tm_is h 4 this := fun r hr => by
    unfold fX4_occursWithin at hr
    exact (tm_th_is hr).1
  exact tw_backi (tw_runV hC hR (cX4_occursWithin_ok l G sz this a1 a2 a3 ga1 ga2 ga3 h r hr) (n := 3) (As := [.int (tw_I a1), .int (tw_I a2), .int (tw_I a3)]) ⟨tw_in_TB 611 (by decide +kernel) rfl, tw_in_TB 10 (by decide +kernel) rfl, by decide +kernel⟩ (tw_in_TB 610 (by decide +kernel) rfl) (tw_in_TB 7 (by decide +kernel) rfl) hl ⟨rfl, rfl⟩ hRm (ob r hr) (T := TX4) (N := 5) rfl rfl hsz rfl hW hdg hf) hL (fun H1 locs1 a b g => kk r H1 locs1 a b g hF)
def rmX4_timesWithin : Room := { frames := 2, cells := 0, slots := 0, locals := 46 }
set_option maxRecDepth 100000 in
set_option maxHeartbeats 4000000 in
theorem sX4_timesWithin_S0 {l : Launch} {p : Program} {e : Env} {s : State} {m : MethodId} {args : Array Value} {below : List Frame} {meth : Method} {c : Code} (G : tw_G) (sz : Nat) (hC : tw_C G p s m args meth c RX4 cX4_timesWithin 5 (some .int)) (this : Nat) (a1 : Int) (a2 : Int) (ga1 : tm_rg a1) (ga2 : tm_rg a2) (h : tm_H) : ∀ (k : Nat) (st : (Int × Int) ⊕ (Int × Int)) (out : Int), tm_wit (fX4_timesWithin_S0 this a1 a2 h) k st = some out → match st with
    | .inl ((x3, x4)) => ∀ (H : Heap) (locs : List Loc) (ls : Array Slot), tm_rg x3 → tm_rg x4 → tw_Rel G sz h H → tw_L G locs → lv_has ls 5 [(0, .ref this), (1, .int (tw_I a1)), (2, .int (tw_I a2)), (3, .int (tw_I x3)), (4, .int (tw_I x4))] → W p l e rmX4_timesWithin s m args below meth c H locs 0 0 (MQ below (tw_Qi G sz out h) args s 0 0 (tw_F G)) (F0 m 5 ls [])
    | .inr ((x3, x4)) => ∀ (H : Heap) (locs : List Loc) (ls : Array Slot), tm_rg x3 → tm_rg x4 → tw_Rel G sz h H → tw_L G locs → lv_has ls 5 [(0, .ref this), (1, .int (tw_I a1)), (2, .int (tw_I a2)), (3, .int (tw_I x3)), (4, .int (tw_I x4))] → W p l e rmX4_timesWithin s m args below meth c H locs 0 0 (MQ below (tw_Qi G sz out h) args s 0 0 (tw_F G)) (F0 m 41 ls []) := by
  intro k
  induction k with
  | zero =>
    intro st out hk
    exact absurd hk (by unfold tm_wit; exact fun z => by cases z)
  | succ k ih =>
    intro st out hk
    obtain ⟨X, hk, hf⟩ := tm_wit_succ hk
    obtain ⟨x3, x4⟩ | ⟨x3, x4⟩ := st
    · intro H locs ls gx3 gx4 hR hL hl
      dsimp only [fX4_timesWithin_S0] at hk
      refine lv_iload hC.1 hC.2.1 dX4_timesWithin_5 (lv_at hl 4 rfl) ?_
      refine lv_aload_n hC.1 hC.2.1 dX4_timesWithin_7 rfl (lv_at hl 0 rfl) ?_
      refine tw_getR hC hR hk flX4_28 dX4_timesWithin_8 (fun r1 hk => ?_)
      refine lv_iload_n hC.1 hC.2.1 dX4_timesWithin_11 rfl (lv_at hl 2 rfl) ?_
      refine kX5_lengthOf hC hR hL hk ga2 mlX4_69 ⟨by decide, by decide⟩ hl.1 (Nat.le_of_ble_eq_true rfl) ⟨Nat.zero_le _, Nat.zero_le _⟩ dX4_timesWithin_12 (fun v2 H locs hR hL gv2 hk => ?_)
      refine lv_aload_n hC.1 hC.2.1 dX4_timesWithin_15 rfl (lv_at hl 0 rfl) ?_
      refine tw_getR hC hR hk flX4_28 dX4_timesWithin_16 (fun r3 hk => ?_)
      refine lv_iload_n hC.1 hC.2.1 dX4_timesWithin_19 rfl (lv_at hl 1 rfl) ?_
      refine kX5_lengthOf hC hR hL hk ga1 mlX4_69 ⟨by decide, by decide⟩ hl.1 (Nat.le_of_ble_eq_true rfl) ⟨Nat.zero_le _, Nat.zero_le _⟩ dX4_timesWithin_20 (fun v4 H locs hR hL gv4 hk => ?_)
      refine tw_isub hC dX4_timesWithin_23 ?_
      refine tw_cgt (tgt := 47) hC hk gx4 ((tm_wr_rg _)) dX4_timesWithin_24 (by decide) (fun _ hk => ?_) (fun _ hk => ?_)
      · refine lv_iload_n hC.1 hC.2.1 dX4_timesWithin_47 rfl (lv_at hl 3 rfl) ?_
        cases hk
        cases hf
        exact tw_iret hC hR hL gx3 rfl rfl dX4_timesWithin_48
      · refine lv_aload_n hC.1 hC.2.1 dX4_timesWithin_27 rfl (lv_at hl 0 rfl) ?_
        refine lv_iload_n hC.1 hC.2.1 dX4_timesWithin_28 rfl (lv_at hl 1 rfl) ?_
        refine lv_iload_n hC.1 hC.2.1 dX4_timesWithin_29 rfl (lv_at hl 2 rfl) ?_
        refine lv_iload hC.1 hC.2.1 dX4_timesWithin_30 (lv_at hl 4 rfl) ?_
        refine kX4_occursWithin hC hR hL hk ga1 ga2 gx4 mlX4_86 ⟨by decide, by decide⟩ hl.1 (Nat.le_of_ble_eq_true rfl) ⟨Nat.zero_le _, Nat.zero_le _⟩ dX4_timesWithin_32 (fun v5 H locs hR hL gv5 hk => ?_)
        refine tw_zeq (tgt := 41) hC hk gv5 dX4_timesWithin_35 (by decide) (fun _ hk => ?_) (fun _ hk => ?_)
        · cases hk
          exact ih _ out hf H locs _ gx3 gx4 hR hL (lv_sub hl [0, 1, 2, 3, 4] rfl)
        · refine tw_iinc (lv' := [(3, .int (tw_I (tm_wr (x3 + 1)))), (0, .ref this), (1, .int (tw_I a1)), (2, .int (tw_I a2)), (4, .int (tw_I x4))]) hC dX4_timesWithin_38 hl (k := 3) rfl (by decide) rfl (fun ls hl => ?_)
          cases hk
          exact ih _ out hf H locs _ ((tm_wr_rg _)) gx4 hR hL (lv_sub hl [1, 2, 3, 0, 4] rfl)
    · intro H locs ls gx3 gx4 hR hL hl
      dsimp only [fX4_timesWithin_S0] at hk
      refine tw_iinc (lv' := [(4, .int (tw_I (tm_wr (x4 + 1)))), (0, .ref this), (1, .int (tw_I a1)), (2, .int (tw_I a2)), (3, .int (tw_I x3))]) hC dX4_timesWithin_41 hl (k := 4) rfl (by decide) rfl (fun ls hl => ?_)
      refine lv_goto (tgt := 5) hC.1 hC.2.1 dX4_timesWithin_44 (by decide) ?_
      cases hk
      exact ih _ out hf H locs _ gx3 ((tm_wr_rg _)) hR hL (lv_sub hl [1, 2, 3, 4, 0] rfl)
theorem sX4_timesWithin_L5 {l : Launch} {p : Program} {e : Env} {s : State} {m : MethodId} {args : Array Value} {below : List Frame} {meth : Method} {c : Code} (G : tw_G) (sz : Nat) (hC : tw_C G p s m args meth c RX4 cX4_timesWithin 5 (some .int)) (this : Nat) (a1 : Int) (a2 : Int) (ga1 : tm_rg a1) (ga2 : tm_rg a2) (h : tm_H) (x3 : Int) (x4 : Int) (gx3 : tm_rg x3) (gx4 : tm_rg x4) (out : Int) (hk : fX4_timesWithin_L5 this a1 a2 h x3 x4 = some out) (H : Heap) (locs : List Loc) (ls : Array Slot) (hR : tw_Rel G sz h H) (hL : tw_L G locs) (hl : lv_has ls 5 [(0, .ref this), (1, .int (tw_I a1)), (2, .int (tw_I a2)), (3, .int (tw_I x3)), (4, .int (tw_I x4))]) : W p l e rmX4_timesWithin s m args below meth c H locs 0 0 (MQ below (tw_Qi G sz out h) args s 0 0 (tw_F G)) (F0 m 5 ls []) := by
  obtain ⟨k, hk⟩ := tm_wl_iff.mp hk
  exact sX4_timesWithin_S0 G sz hC this a1 a2 ga1 ga2 h k (.inl ((x3, x4))) out hk H locs ls gx3 gx4 hR hL hl
theorem sX4_timesWithin_L41 {l : Launch} {p : Program} {e : Env} {s : State} {m : MethodId} {args : Array Value} {below : List Frame} {meth : Method} {c : Code} (G : tw_G) (sz : Nat) (hC : tw_C G p s m args meth c RX4 cX4_timesWithin 5 (some .int)) (this : Nat) (a1 : Int) (a2 : Int) (ga1 : tm_rg a1) (ga2 : tm_rg a2) (h : tm_H) (x3 : Int) (x4 : Int) (gx3 : tm_rg x3) (gx4 : tm_rg x4) (out : Int) (hk : fX4_timesWithin_L41 this a1 a2 h x3 x4 = some out) (H : Heap) (locs : List Loc) (ls : Array Slot) (hR : tw_Rel G sz h H) (hL : tw_L G locs) (hl : lv_has ls 5 [(0, .ref this), (1, .int (tw_I a1)), (2, .int (tw_I a2)), (3, .int (tw_I x3)), (4, .int (tw_I x4))]) : W p l e rmX4_timesWithin s m args below meth c H locs 0 0 (MQ below (tw_Qi G sz out h) args s 0 0 (tw_F G)) (F0 m 41 ls []) := by
  obtain ⟨k, hk⟩ := tm_wl_iff.mp hk
  exact sX4_timesWithin_S0 G sz hC this a1 a2 ga1 ga2 h k (.inr ((x3, x4))) out hk H locs ls gx3 gx4 hR hL hl
set_option maxRecDepth 100000 in
set_option maxHeartbeats 4000000 in
theorem cX4_timesWithin_ok (l : Launch) (G : tw_G) (sz : Nat) (this : Nat) (a1 : Int) (a2 : Int) (ga1 : tm_rg a1) (ga2 : tm_rg a2) (h : tm_H) (out : Int) (hk : fX4_timesWithin this a1 a2 h = some out) : Met l yX4_timesWithin (tw_WS yX4_timesWithin cX4_timesWithin 5 (some .int)) rmX4_timesWithin (va_Pc [.ref this, .int (tw_I a1), .int (tw_I a2)] (tw_Pre G sz h)) (tw_Qi G sz out h) 0 0 (tw_F G) := by
  refine tw_met (by decide +kernel) (Nat.le_of_ble_eq_true rfl) ?_
  intro p e s m args below meth c H ls hC hnm hR hl
  unfold fX4_timesWithin at hk
  obtain ⟨hob, hk⟩ := tm_th_is hk
  have hl : lv_has ls 5 [(0, .ref this), (1, .int (tw_I a1)), (2, .int (tw_I a2))] := hl
  have hL : tw_L G [] := fun q z => by cases z
  generalize hlc : ([] : List Loc) = locs at hL ⊢
  refine lv_iconst (v := tw_I 0) hC.1 hC.2.1 dX4_timesWithin_0 rfl ?_
  refine lv_istore_n (lv' := [(3, .int (tw_I 0)), (0, .ref this), (1, .int (tw_I a1)), (2, .int (tw_I a2))]) hC.1 hC.2.1 dX4_timesWithin_1 rfl hl (by decide) rfl (fun ls hl => ?_)
  refine lv_iconst (v := tw_I 0) hC.1 hC.2.1 dX4_timesWithin_2 rfl ?_
  refine lv_istore (lv' := [(4, .int (tw_I 0)), (3, .int (tw_I 0)), (0, .ref this), (1, .int (tw_I a1)), (2, .int (tw_I a2))]) hC.1 hC.2.1 dX4_timesWithin_3 hl (by decide) rfl (fun ls hl => ?_)
  exact sX4_timesWithin_L5 G sz hC this a1 a2 ga1 ga2 h 0 0 ((tw_rgL rfl)) ((tw_rgL rfl)) out hk H locs _ hR hL (lv_sub hl [2, 3, 4, 1, 0] rfl)
set_option maxRecDepth 100000 in
theorem kX4_timesWithin {l : Launch} {p : Program} {e : Env} {R : Room} {s : State} {m : MethodId} {args : Array Value} {below : List Frame} {meth : Method} {c : Code} {H : Heap} {locs : List Loc} {cells slots : Nat} {Q : State → Prop} {cc : ByteArray} {pc nL idx : Nat} {ls : Array Slot} {rest : List Value} {G : tw_G} {h : tm_H} {own : String} {ret : Option FieldType} {α : Type} {x : α} {sz : Nat} {this : Nat} {a1 : Int} {a2 : Int} (hC : tw_C G p s m args meth c own cc nL ret) (hR : tw_Rel G sz h H) (hL : tw_L G locs) {F : Int → Option α} (hk : (fX4_timesWithin this a1 a2 h).bind F = some x) (ga1 : tm_rg a1) (ga2 : tm_rg a2) (hl : tw_mL own idx yX4_timesWithin) (hRm : rmX4_timesWithin.frames + 1 ≤ R.frames ∧ 8 + (5 + 11) + rmX4_timesWithin.locals ≤ R.locals) (hsz : ls.size = nL) (hW : (rest.map fun v => v.category).sum ≤ 8) (hf : cells + 0 ≤ R.cells ∧ slots + 0 ≤ R.slots) (hdg : decode cc pc = .ok (.invokevirtual idx, 3)) (kk : ∀ (r : Int) (H1 : Heap) (locs1 : List Loc), tw_Rel G sz h H1 → tw_L G locs1 → tm_rg r → F r = some x → W p l e R s m args below meth c H1 locs1 (cells + 0) (slots + 0) Q (F0 m (pc + 3) ls (.int (tw_I r) :: rest))) : W p l e R s m args below meth c H locs cells slots Q (F0 m pc ls (.int (tw_I a2) :: .int (tw_I a1) :: .ref this :: rest)) := by
  obtain ⟨r, hr, hF⟩ := Option.bind_eq_some_iff.mp hk
  have ob : ∀ r, fX4_timesWithin this a1 a2 h = some r → tm_is h 4 this := fun r hr => by
    unfold fX4_timesWithin at hr
    exact (tm_th_is hr).1
  exact tw_backi (tw_runV hC hR (cX4_timesWithin_ok l G sz this a1 a2 ga1 ga2 h r hr) (n := 2) (As := [.int (tw_I a1), .int (tw_I a2)]) ⟨tw_in_TB 607 (by decide +kernel) rfl, tw_in_TB 10 (by decide +kernel) rfl, by decide +kernel⟩ (tw_in_TB 605 (by decide +kernel) rfl) (tw_in_TB 606 (by decide +kernel) rfl) hl ⟨rfl, rfl⟩ hRm (ob r hr) (T := TX4) (N := 5) rfl rfl hsz rfl hW hdg hf) hL (fun H1 locs1 a b g => kk r H1 locs1 a b g hF)
def rmX5_quietCount : Room := { frames := 0, cells := 0, slots := 0, locals := 0 }
set_option maxRecDepth 100000 in
set_option maxHeartbeats 4000000 in
theorem sX5_quietCount_S0 {l : Launch} {p : Program} {e : Env} {s : State} {m : MethodId} {args : Array Value} {below : List Frame} {meth : Method} {c : Code} (G : tw_G) (sz : Nat) (hC : tw_C G p s m args meth c RX5 cX5_quietCount 3 (some .int)) (this : Nat)  (h : tm_H) : ∀ (k : Nat) (st : (Int × Int) ⊕ (Int × Int)) (out : Int), tm_wit (fX5_quietCount_S0 this h) k st = some out → match st with
    | .inl ((x1, x2)) => ∀ (H : Heap) (locs : List Loc) (ls : Array Slot), tm_rg x1 → tm_rg x2 → tw_Rel G sz h H → tw_L G locs → lv_has ls 3 [(0, .ref this), (1, .int (tw_I x1)), (2, .int (tw_I x2))] → W p l e rmX5_quietCount s m args below meth c H locs 0 0 (MQ below (tw_Qi G sz out h) args s 0 0 (tw_F G)) (F0 m 4 ls [])
    | .inr ((x1, x2)) => ∀ (H : Heap) (locs : List Loc) (ls : Array Slot), tm_rg x1 → tm_rg x2 → tw_Rel G sz h H → tw_L G locs → lv_has ls 3 [(0, .ref this), (1, .int (tw_I x1)), (2, .int (tw_I x2))] → W p l e rmX5_quietCount s m args below meth c H locs 0 0 (MQ below (tw_Qi G sz out h) args s 0 0 (tw_F G)) (F0 m 24 ls []) := by
  intro k
  induction k with
  | zero =>
    intro st out hk
    exact absurd hk (by unfold tm_wit; exact fun z => by cases z)
  | succ k ih =>
    intro st out hk
    obtain ⟨X, hk, hf⟩ := tm_wit_succ hk
    obtain ⟨x1, x2⟩ | ⟨x1, x2⟩ := st
    · intro H locs ls gx1 gx2 hR hL hl
      dsimp only [fX5_quietCount_S0] at hk
      refine lv_iload_n hC.1 hC.2.1 dX5_quietCount_4 rfl (lv_at hl 2 rfl) ?_
      refine lv_aload_n hC.1 hC.2.1 dX5_quietCount_5 rfl (lv_at hl 0 rfl) ?_
      refine tw_getI hC hR hk flX5_24 dX5_quietCount_6 (fun v1 gv1 hk => ?_)
      refine tw_cge (tgt := 30) hC hk gx2 gv1 dX5_quietCount_9 (by decide) (fun _ hk => ?_) (fun _ hk => ?_)
      · refine lv_aload_n hC.1 hC.2.1 dX5_quietCount_12 rfl (lv_at hl 0 rfl) ?_
        refine tw_getR hC hR hk flX5_20 dX5_quietCount_13 (fun r2 hk => ?_)
        refine lv_iload_n hC.1 hC.2.1 dX5_quietCount_16 rfl (lv_at hl 2 rfl) ?_
        refine tw_zald hC hR hk dX5_quietCount_17 (fun v3 gv3 hk => ?_)
        refine tw_zeq (tgt := 24) hC hk gv3 dX5_quietCount_18 (by decide) (fun _ hk => ?_) (fun _ hk => ?_)
        · cases hk
          exact ih _ out hf H locs _ gx1 gx2 hR hL (lv_sub hl [0, 1, 2] rfl)
        · refine tw_iinc (lv' := [(1, .int (tw_I (tm_wr (x1 + 1)))), (0, .ref this), (2, .int (tw_I x2))]) hC dX5_quietCount_21 hl (k := 1) rfl (by decide) rfl (fun ls hl => ?_)
          cases hk
          exact ih _ out hf H locs _ ((tm_wr_rg _)) gx2 hR hL (lv_sub hl [1, 0, 2] rfl)
      · refine lv_iload_n hC.1 hC.2.1 dX5_quietCount_30 rfl (lv_at hl 1 rfl) ?_
        cases hk
        cases hf
        exact tw_iret hC hR hL gx1 rfl rfl dX5_quietCount_31
    · intro H locs ls gx1 gx2 hR hL hl
      dsimp only [fX5_quietCount_S0] at hk
      refine tw_iinc (lv' := [(2, .int (tw_I (tm_wr (x2 + 1)))), (0, .ref this), (1, .int (tw_I x1))]) hC dX5_quietCount_24 hl (k := 2) rfl (by decide) rfl (fun ls hl => ?_)
      refine lv_goto (tgt := 4) hC.1 hC.2.1 dX5_quietCount_27 (by decide) ?_
      cases hk
      exact ih _ out hf H locs _ gx1 ((tm_wr_rg _)) hR hL (lv_sub hl [1, 2, 0] rfl)
theorem sX5_quietCount_L4 {l : Launch} {p : Program} {e : Env} {s : State} {m : MethodId} {args : Array Value} {below : List Frame} {meth : Method} {c : Code} (G : tw_G) (sz : Nat) (hC : tw_C G p s m args meth c RX5 cX5_quietCount 3 (some .int)) (this : Nat)  (h : tm_H) (x1 : Int) (x2 : Int) (gx1 : tm_rg x1) (gx2 : tm_rg x2) (out : Int) (hk : fX5_quietCount_L4 this h x1 x2 = some out) (H : Heap) (locs : List Loc) (ls : Array Slot) (hR : tw_Rel G sz h H) (hL : tw_L G locs) (hl : lv_has ls 3 [(0, .ref this), (1, .int (tw_I x1)), (2, .int (tw_I x2))]) : W p l e rmX5_quietCount s m args below meth c H locs 0 0 (MQ below (tw_Qi G sz out h) args s 0 0 (tw_F G)) (F0 m 4 ls []) := by
  obtain ⟨k, hk⟩ := tm_wl_iff.mp hk
  exact sX5_quietCount_S0 G sz hC this  h k (.inl ((x1, x2))) out hk H locs ls gx1 gx2 hR hL hl
theorem sX5_quietCount_L24 {l : Launch} {p : Program} {e : Env} {s : State} {m : MethodId} {args : Array Value} {below : List Frame} {meth : Method} {c : Code} (G : tw_G) (sz : Nat) (hC : tw_C G p s m args meth c RX5 cX5_quietCount 3 (some .int)) (this : Nat)  (h : tm_H) (x1 : Int) (x2 : Int) (gx1 : tm_rg x1) (gx2 : tm_rg x2) (out : Int) (hk : fX5_quietCount_L24 this h x1 x2 = some out) (H : Heap) (locs : List Loc) (ls : Array Slot) (hR : tw_Rel G sz h H) (hL : tw_L G locs) (hl : lv_has ls 3 [(0, .ref this), (1, .int (tw_I x1)), (2, .int (tw_I x2))]) : W p l e rmX5_quietCount s m args below meth c H locs 0 0 (MQ below (tw_Qi G sz out h) args s 0 0 (tw_F G)) (F0 m 24 ls []) := by
  obtain ⟨k, hk⟩ := tm_wl_iff.mp hk
  exact sX5_quietCount_S0 G sz hC this  h k (.inr ((x1, x2))) out hk H locs ls gx1 gx2 hR hL hl
set_option maxRecDepth 100000 in
set_option maxHeartbeats 4000000 in
theorem cX5_quietCount_ok (l : Launch) (G : tw_G) (sz : Nat) (this : Nat)  (h : tm_H) (out : Int) (hk : fX5_quietCount this h = some out) : Met l yX5_quietCount (tw_WS yX5_quietCount cX5_quietCount 3 (some .int)) rmX5_quietCount (va_Pc [.ref this] (tw_Pre G sz h)) (tw_Qi G sz out h) 0 0 (tw_F G) := by
  refine tw_met (by decide +kernel) (Nat.le_of_ble_eq_true rfl) ?_
  intro p e s m args below meth c H ls hC hnm hR hl
  unfold fX5_quietCount at hk
  obtain ⟨hob, hk⟩ := tm_th_is hk
  have hl : lv_has ls 3 [(0, .ref this)] := hl
  have hL : tw_L G [] := fun q z => by cases z
  generalize hlc : ([] : List Loc) = locs at hL ⊢
  refine lv_iconst (v := tw_I 0) hC.1 hC.2.1 dX5_quietCount_0 rfl ?_
  refine lv_istore_n (lv' := [(1, .int (tw_I 0)), (0, .ref this)]) hC.1 hC.2.1 dX5_quietCount_1 rfl hl (by decide) rfl (fun ls hl => ?_)
  refine lv_iconst (v := tw_I 0) hC.1 hC.2.1 dX5_quietCount_2 rfl ?_
  refine lv_istore_n (lv' := [(2, .int (tw_I 0)), (1, .int (tw_I 0)), (0, .ref this)]) hC.1 hC.2.1 dX5_quietCount_3 rfl hl (by decide) rfl (fun ls hl => ?_)
  exact sX5_quietCount_L4 G sz hC this h 0 0 ((tw_rgL rfl)) ((tw_rgL rfl)) out hk H locs _ hR hL (lv_sub hl [2, 1, 0] rfl)
set_option maxRecDepth 100000 in
theorem kX5_quietCount {l : Launch} {p : Program} {e : Env} {R : Room} {s : State} {m : MethodId} {args : Array Value} {below : List Frame} {meth : Method} {c : Code} {H : Heap} {locs : List Loc} {cells slots : Nat} {Q : State → Prop} {cc : ByteArray} {pc nL idx : Nat} {ls : Array Slot} {rest : List Value} {G : tw_G} {h : tm_H} {own : String} {ret : Option FieldType} {α : Type} {x : α} {sz : Nat} {this : Nat} (hC : tw_C G p s m args meth c own cc nL ret) (hR : tw_Rel G sz h H) (hL : tw_L G locs) {F : Int → Option α} (hk : (fX5_quietCount this h).bind F = some x)  (hl : tw_mL own idx yX5_quietCount) (hRm : rmX5_quietCount.frames + 1 ≤ R.frames ∧ 8 + (3 + 11) + rmX5_quietCount.locals ≤ R.locals) (hsz : ls.size = nL) (hW : (rest.map fun v => v.category).sum ≤ 8) (hf : cells + 0 ≤ R.cells ∧ slots + 0 ≤ R.slots) (hdg : decode cc pc = .ok (.invokevirtual idx, 3)) (kk : ∀ (r : Int) (H1 : Heap) (locs1 : List Loc), tw_Rel G sz h H1 → tw_L G locs1 → tm_rg r → F r = some x → W p l e R s m args below meth c H1 locs1 (cells + 0) (slots + 0) Q (F0 m (pc + 3) ls (.int (tw_I r) :: rest))) : W p l e R s m args below meth c H locs cells slots Q (F0 m pc ls (.ref this :: rest)) := by
  obtain ⟨r, hr, hF⟩ := Option.bind_eq_some_iff.mp hk
  have ob : ∀ r, fX5_quietCount this h = some r → tm_is h 5 this := fun r hr => by
    unfold fX5_quietCount at hr
    exact (tm_th_is hr).1
  exact tw_backi (tw_runV hC hR (cX5_quietCount_ok l G sz this  h r hr) (n := 0) (As := []) ⟨tw_in_TB 273 (by decide +kernel) rfl, tw_in_TB 13 (by decide +kernel) rfl, by decide +kernel⟩ (tw_in_TB 271 (by decide +kernel) rfl) (tw_in_TB 272 (by decide +kernel) rfl) hl ⟨rfl, rfl⟩ hRm (ob r hr) (T := TX5) (N := 4) rfl rfl hsz rfl hW hdg hf) hL (fun H1 locs1 a b g => kk r H1 locs1 a b g hF)
def rmX5_hush : Room := { frames := 1, cells := 0, slots := 0, locals := 21 }
set_option maxRecDepth 100000 in
set_option maxHeartbeats 4000000 in
theorem cX5_hush_ok (l : Launch) (G : tw_G) (sz : Nat) (this : Nat) (a1 : Int) (a2 : Int) (ga1 : tm_rg a1) (ga2 : tm_rg a2) (h : tm_H) (out : tm_H) (hk : fX5_hush this a1 a2 h = some out) : Met l yX5_hush (tw_WS yX5_hush cX5_hush 3 none) rmX5_hush (va_Pc [.ref this, .int (tw_I a1), .int (tw_I a2)] (tw_Pre G sz h)) (tw_Qv G sz out) 0 0 (tw_F G) := by
  refine tw_met (by decide +kernel) (Nat.le_of_ble_eq_true rfl) ?_
  intro p e s m args below meth c H ls hC hnm hR hl
  unfold fX5_hush at hk
  obtain ⟨hob, hk⟩ := tm_th_is hk
  have hl : lv_has ls 3 [(0, .ref this), (1, .int (tw_I a1)), (2, .int (tw_I a2))] := hl
  have hL : tw_L G [] := fun q z => by cases z
  generalize hlc : ([] : List Loc) = locs at hL ⊢
  refine lv_aload_n hC.1 hC.2.1 dX5_hush_0 rfl (lv_at hl 0 rfl) ?_
  refine lv_iload_n hC.1 hC.2.1 dX5_hush_1 rfl (lv_at hl 1 rfl) ?_
  refine kX5_has hC hR hL hk ga1 mlX5_28 ⟨by decide, by decide⟩ hl.1 (Nat.le_of_ble_eq_true rfl) ⟨Nat.zero_le _, Nat.zero_le _⟩ dX5_hush_2 (fun v1 H locs hR hL gv1 hk => ?_)
  refine tw_zeq (tgt := 15) hC hk gv1 dX5_hush_5 (by decide) (fun _ hk => ?_) (fun _ hk => ?_)
  · cases hk
    exact tw_vret hC hR hL rfl dX5_hush_15
  · refine lv_aload_n hC.1 hC.2.1 dX5_hush_8 rfl (lv_at hl 0 rfl) ?_
    refine tw_getR hC hR hk flX5_20 dX5_hush_9 (fun r2 hk => ?_)
    refine lv_iload_n hC.1 hC.2.1 dX5_hush_12 rfl (lv_at hl 1 rfl) ?_
    refine lv_iload_n hC.1 hC.2.1 dX5_hush_13 rfl (lv_at hl 2 rfl) ?_
    refine tw_zast hC hR hL hk dX5_hush_14 (fun h3 H locs hR hL hk => ?_)
    cases hk
    exact tw_vret hC hR hL rfl dX5_hush_15
set_option maxRecDepth 100000 in
theorem kX5_hush {l : Launch} {p : Program} {e : Env} {R : Room} {s : State} {m : MethodId} {args : Array Value} {below : List Frame} {meth : Method} {c : Code} {H : Heap} {locs : List Loc} {cells slots : Nat} {Q : State → Prop} {cc : ByteArray} {pc nL idx : Nat} {ls : Array Slot} {rest : List Value} {G : tw_G} {h : tm_H} {own : String} {ret : Option FieldType} {α : Type} {x : α} {sz : Nat} {this : Nat} {a1 : Int} {a2 : Int} (hC : tw_C G p s m args meth c own cc nL ret) (hR : tw_Rel G sz h H) (hL : tw_L G locs) {F : tm_H → Option α} (hk : (fX5_hush this a1 a2 h).bind F = some x) (ga1 : tm_rg a1) (ga2 : tm_rg a2) (hl : tw_mL own idx yX5_hush) (hRm : rmX5_hush.frames + 1 ≤ R.frames ∧ 8 + (3 + 11) + rmX5_hush.locals ≤ R.locals) (hsz : ls.size = nL) (hW : (rest.map fun v => v.category).sum ≤ 8) (hf : cells + 0 ≤ R.cells ∧ slots + 0 ≤ R.slots) (hdg : decode cc pc = .ok (.invokevirtual idx, 3)) (kk : ∀ (h1 : tm_H) (H1 : Heap) (locs1 : List Loc), tw_Rel G sz h1 H1 → tw_L G locs1 → F h1 = some x → W p l e R s m args below meth c H1 locs1 (cells + 0) (slots + 0) Q (F0 m (pc + 3) ls (rest))) : W p l e R s m args below meth c H locs cells slots Q (F0 m pc ls (.int (tw_I a2) :: .int (tw_I a1) :: .ref this :: rest)) := by
  obtain ⟨r, hr, hF⟩ := Option.bind_eq_some_iff.mp hk
  have ob : ∀ r, fX5_hush this a1 a2 h = some r → tm_is h 5 this := fun r hr => by
    unfold fX5_hush at hr
    exact (tm_th_is hr).1
  exact tw_backv (tw_runV hC hR (cX5_hush_ok l G sz this a1 a2 ga1 ga2 h r hr) (n := 2) (As := [.int (tw_I a1), .int (tw_I a2)]) ⟨tw_in_TB 509 (by decide +kernel) rfl, tw_in_TB 13 (by decide +kernel) rfl, by decide +kernel⟩ (tw_in_TB 507 (by decide +kernel) rfl) (tw_in_TB 508 (by decide +kernel) rfl) hl ⟨rfl, rfl⟩ hRm (ob r hr) (T := TX5) (N := 4) rfl rfl hsz rfl hW hdg hf) hL (fun H1 locs1 a b => kk r H1 locs1 a b hF)
def rmX5_add : Room := { frames := 1, cells := 0, slots := 0, locals := 26 }
set_option maxRecDepth 100000 in
set_option maxHeartbeats 4000000 in
theorem cX5_add_ok (l : Launch) (G : tw_G) (sz : Nat) (this : Nat) (a1 : Nat) (a2 : Int) (ga2 : tm_rg a2) (h : tm_H) (out : tm_H) (hk : fX5_add this a1 a2 h = some out) : Met l yX5_add (tw_WS yX5_add cX5_add 3 none) rmX5_add (va_Pc [.ref this, .ref a1, .int (tw_I a2)] (tw_Pre G sz h)) (tw_Qv G sz out) 0 0 (tw_F G) := by
  refine tw_met (by decide +kernel) (Nat.le_of_ble_eq_true rfl) ?_
  intro p e s m args below meth c H ls hC hnm hR hl
  unfold fX5_add at hk
  obtain ⟨hob, hk⟩ := tm_th_is hk
  have hl : lv_has ls 3 [(0, .ref this), (1, .ref a1), (2, .int (tw_I a2))] := hl
  have hL : tw_L G [] := fun q z => by cases z
  generalize hlc : ([] : List Loc) = locs at hL ⊢
  refine lv_aload_n hC.1 hC.2.1 dX5_add_0 rfl (lv_at hl 0 rfl) ?_
  refine tw_getI hC hR hk flX5_24 dX5_add_1 (fun v1 gv1 hk => ?_)
  refine lv_bipush (v := tw_I 13) hC.1 hC.2.1 dX5_add_4 (by decide) ?_
  refine tw_cge (tgt := 25) hC hk gv1 ((tw_rgL rfl)) dX5_add_6 (by decide) (fun _ hk => ?_) (fun _ hk => ?_)
  · refine lv_iload_n hC.1 hC.2.1 dX5_add_9 rfl (lv_at hl 2 rfl) ?_
    refine lv_iconst (v := tw_I 1) hC.1 hC.2.1 dX5_add_10 rfl ?_
    refine tw_clt (tgt := 25) hC hk ga2 ((tw_rgL rfl)) dX5_add_11 (by decide) (fun _ hk => ?_) (fun _ hk => ?_)
    · cases hk
      exact tw_vret hC hR hL rfl dX5_add_25
    · refine lv_iload_n hC.1 hC.2.1 dX5_add_14 rfl (lv_at hl 2 rfl) ?_
      refine lv_iconst (v := tw_I 4) hC.1 hC.2.1 dX5_add_15 rfl ?_
      refine tw_cgt (tgt := 25) hC hk ga2 ((tw_rgL rfl)) dX5_add_16 (by decide) (fun _ hk => ?_) (fun _ hk => ?_)
      · cases hk
        exact tw_vret hC hR hL rfl dX5_add_25
      · refine lv_iload_n hC.1 hC.2.1 dX5_add_19 rfl (lv_at hl 2 rfl) ?_
        refine lv_aload_n hC.1 hC.2.1 dX5_add_20 rfl (lv_at hl 1 rfl) ?_
        refine tw_alen hC hR hk dX5_add_21 (fun v2 gv2 hk => ?_)
        refine tw_cle (tgt := 26) hC hk ga2 gv2 dX5_add_22 (by decide) (fun _ hk => ?_) (fun _ hk => ?_)
        · cases hk
          exact tw_vret hC hR hL rfl dX5_add_25
        · refine lv_aload_n hC.1 hC.2.1 dX5_add_26 rfl (lv_at hl 1 rfl) ?_
          refine lv_iconst (v := tw_I 0) hC.1 hC.2.1 dX5_add_27 rfl ?_
          refine lv_aload_n hC.1 hC.2.1 dX5_add_28 rfl (lv_at hl 0 rfl) ?_
          refine tw_getR hC hR hk flX5_13 dX5_add_29 (fun r3 hk => ?_)
          refine lv_aload_n hC.1 hC.2.1 dX5_add_32 rfl (lv_at hl 0 rfl) ?_
          refine tw_getI hC hR hk flX5_24 dX5_add_33 (fun v4 gv4 hk => ?_)
          refine tw_aald hC hR hk dX5_add_36 (fun r5 hk => ?_)
          refine lv_iconst (v := tw_I 0) hC.1 hC.2.1 dX5_add_37 rfl ?_
          refine lv_iload_n hC.1 hC.2.1 dX5_add_38 rfl (lv_at hl 2 rfl) ?_
          refine tw_cpi hC hR hL (tw_in_TB 253 (by decide +kernel) rfl) tw_acN hl.1 hk (by decide) (Nat.le_of_ble_eq_true rfl) dX5_add_39 (fun h6 H locs hR hL hk => ?_)
          refine lv_aload_n hC.1 hC.2.1 dX5_add_42 rfl (lv_at hl 0 rfl) ?_
          refine tw_getR hC hR hk flX5_16 dX5_add_43 (fun r7 hk => ?_)
          refine lv_aload_n hC.1 hC.2.1 dX5_add_46 rfl (lv_at hl 0 rfl) ?_
          refine tw_getI hC hR hk flX5_24 dX5_add_47 (fun v8 gv8 hk => ?_)
          refine lv_iload_n hC.1 hC.2.1 dX5_add_50 rfl (lv_at hl 2 rfl) ?_
          refine tw_iast hC hR hL ga2 hk dX5_add_51 (fun h9 H locs hR hL hk => ?_)
          refine lv_aload_n hC.1 hC.2.1 dX5_add_52 rfl (lv_at hl 0 rfl) ?_
          refine tw_getR hC hR hk flX5_20 dX5_add_53 (fun r10 hk => ?_)
          refine lv_aload_n hC.1 hC.2.1 dX5_add_56 rfl (lv_at hl 0 rfl) ?_
          refine tw_getI hC hR hk flX5_24 dX5_add_57 (fun v11 gv11 hk => ?_)
          refine lv_iconst (v := tw_I 0) hC.1 hC.2.1 dX5_add_60 rfl ?_
          refine tw_zast hC hR hL hk dX5_add_61 (fun h12 H locs hR hL hk => ?_)
          refine lv_aload_n hC.1 hC.2.1 dX5_add_62 rfl (lv_at hl 0 rfl) ?_
          refine lv_dup hC.1 hC.2.1 dX5_add_63 rfl ?_
          refine tw_getI hC hR hk flX5_24 dX5_add_64 (fun v13 gv13 hk => ?_)
          refine lv_iconst (v := tw_I 1) hC.1 hC.2.1 dX5_add_67 rfl ?_
          refine tw_iadd hC dX5_add_68 ?_
          refine tw_putI hC hR hL ((tm_wr_rg _)) hk fpX5_24 dX5_add_69 (fun h14 H locs hR hL hk => ?_)
          cases hk
          exact tw_vret hC hR hL rfl dX5_add_72
  · cases hk
    exact tw_vret hC hR hL rfl dX5_add_25
set_option maxRecDepth 100000 in
theorem kX5_add {l : Launch} {p : Program} {e : Env} {R : Room} {s : State} {m : MethodId} {args : Array Value} {below : List Frame} {meth : Method} {c : Code} {H : Heap} {locs : List Loc} {cells slots : Nat} {Q : State → Prop} {cc : ByteArray} {pc nL idx : Nat} {ls : Array Slot} {rest : List Value} {G : tw_G} {h : tm_H} {own : String} {ret : Option FieldType} {α : Type} {x : α} {sz : Nat} {this : Nat} {a1 : Nat} {a2 : Int} (hC : tw_C G p s m args meth c own cc nL ret) (hR : tw_Rel G sz h H) (hL : tw_L G locs) {F : tm_H → Option α} (hk : (fX5_add this a1 a2 h).bind F = some x) (ga2 : tm_rg a2) (hl : tw_mL own idx yX5_add) (hRm : rmX5_add.frames + 1 ≤ R.frames ∧ 8 + (3 + 11) + rmX5_add.locals ≤ R.locals) (hsz : ls.size = nL) (hW : (rest.map fun v => v.category).sum ≤ 8) (hf : cells + 0 ≤ R.cells ∧ slots + 0 ≤ R.slots) (hdg : decode cc pc = .ok (.invokevirtual idx, 3)) (kk : ∀ (h1 : tm_H) (H1 : Heap) (locs1 : List Loc), tw_Rel G sz h1 H1 → tw_L G locs1 → F h1 = some x → W p l e R s m args below meth c H1 locs1 (cells + 0) (slots + 0) Q (F0 m (pc + 3) ls (rest))) : W p l e R s m args below meth c H locs cells slots Q (F0 m pc ls (.int (tw_I a2) :: .ref a1 :: .ref this :: rest)) := by
  obtain ⟨r, hr, hF⟩ := Option.bind_eq_some_iff.mp hk
  have ob : ∀ r, fX5_add this a1 a2 h = some r → tm_is h 5 this := fun r hr => by
    unfold fX5_add at hr
    exact (tm_th_is hr).1
  exact tw_backv (tw_runV hC hR (cX5_add_ok l G sz this a1 a2 ga2 h r hr) (n := 2) (As := [.ref a1, .int (tw_I a2)]) ⟨tw_in_TB 493 (by decide +kernel) rfl, tw_in_TB 13 (by decide +kernel) rfl, by decide +kernel⟩ (tw_in_TB 491 (by decide +kernel) rfl) (tw_in_TB 492 (by decide +kernel) rfl) hl ⟨rfl, rfl⟩ hRm (ob r hr) (T := TX5) (N := 4) rfl rfl hsz rfl hW hdg hf) hL (fun H1 locs1 a b => kk r H1 locs1 a b hF)
def rmX5_drop : Room := { frames := 1, cells := 0, slots := 0, locals := 21 }
set_option maxRecDepth 100000 in
set_option maxHeartbeats 4000000 in
theorem sX5_drop_S0 {l : Launch} {p : Program} {e : Env} {s : State} {m : MethodId} {args : Array Value} {below : List Frame} {meth : Method} {c : Code} (G : tw_G) (sz : Nat) (hC : tw_C G p s m args meth c RX5 cX5_drop 4 none) (this : Nat) (a1 : Int) (ga1 : tm_rg a1) : ∀ (k : Nat) (st : (Nat × Int × tm_H)) (out : tm_H), tm_wit (fX5_drop_S0 this a1) k st = some out → match st with
    | (x2, x3, h) => ∀ (H : Heap) (locs : List Loc) (ls : Array Slot), tm_rg x3 → tw_Rel G sz h H → tw_L G locs → lv_has ls 4 [(0, .ref this), (1, .int (tw_I a1)), (2, .ref x2), (3, .int (tw_I x3))] → W p l e rmX5_drop s m args below meth c H locs 0 0 (MQ below (tw_Qv G sz out) args s 0 0 (tw_F G)) (F0 m 20 ls []) := by
  intro k
  induction k with
  | zero =>
    intro st out hk
    exact absurd hk (by unfold tm_wit; exact fun z => by cases z)
  | succ k ih =>
    intro st out hk
    obtain ⟨X, hk, hf⟩ := tm_wit_succ hk
    obtain ⟨x2, x3, h⟩ := st
    intro H locs ls gx3 hR hL hl
    dsimp only [fX5_drop_S0] at hk
    refine lv_iload_n hC.1 hC.2.1 dX5_drop_20 rfl (lv_at hl 3 rfl) ?_
    refine lv_aload_n hC.1 hC.2.1 dX5_drop_21 rfl (lv_at hl 0 rfl) ?_
    refine tw_getI hC hR hk flX5_24 dX5_drop_22 (fun v4 gv4 hk => ?_)
    refine tw_cge (tgt := 76) hC hk gx3 gv4 dX5_drop_25 (by decide) (fun _ hk => ?_) (fun _ hk => ?_)
    · refine lv_aload_n hC.1 hC.2.1 dX5_drop_28 rfl (lv_at hl 0 rfl) ?_
      refine tw_getR hC hR hk flX5_13 dX5_drop_29 (fun r5 hk => ?_)
      refine lv_iload_n hC.1 hC.2.1 dX5_drop_32 rfl (lv_at hl 3 rfl) ?_
      refine lv_iconst (v := tw_I 1) hC.1 hC.2.1 dX5_drop_33 rfl ?_
      refine tw_isub hC dX5_drop_34 ?_
      refine lv_aload_n hC.1 hC.2.1 dX5_drop_35 rfl (lv_at hl 0 rfl) ?_
      refine tw_getR hC hR hk flX5_13 dX5_drop_36 (fun r6 hk => ?_)
      refine lv_iload_n hC.1 hC.2.1 dX5_drop_39 rfl (lv_at hl 3 rfl) ?_
      refine tw_aald hC hR hk dX5_drop_40 (fun r7 hk => ?_)
      refine tw_aast hC hR hL tw_ks5 hk dX5_drop_41 (fun h8 H locs hR hL hk => ?_)
      refine lv_aload_n hC.1 hC.2.1 dX5_drop_42 rfl (lv_at hl 0 rfl) ?_
      refine tw_getR hC hR hk flX5_16 dX5_drop_43 (fun r9 hk => ?_)
      refine lv_iload_n hC.1 hC.2.1 dX5_drop_46 rfl (lv_at hl 3 rfl) ?_
      refine lv_iconst (v := tw_I 1) hC.1 hC.2.1 dX5_drop_47 rfl ?_
      refine tw_isub hC dX5_drop_48 ?_
      refine lv_aload_n hC.1 hC.2.1 dX5_drop_49 rfl (lv_at hl 0 rfl) ?_
      refine tw_getR hC hR hk flX5_16 dX5_drop_50 (fun r10 hk => ?_)
      refine lv_iload_n hC.1 hC.2.1 dX5_drop_53 rfl (lv_at hl 3 rfl) ?_
      refine tw_iald hC hR hk dX5_drop_54 (fun v11 gv11 hk => ?_)
      refine tw_iast hC hR hL gv11 hk dX5_drop_55 (fun h12 H locs hR hL hk => ?_)
      refine lv_aload_n hC.1 hC.2.1 dX5_drop_56 rfl (lv_at hl 0 rfl) ?_
      refine tw_getR hC hR hk flX5_20 dX5_drop_57 (fun r13 hk => ?_)
      refine lv_iload_n hC.1 hC.2.1 dX5_drop_60 rfl (lv_at hl 3 rfl) ?_
      refine lv_iconst (v := tw_I 1) hC.1 hC.2.1 dX5_drop_61 rfl ?_
      refine tw_isub hC dX5_drop_62 ?_
      refine lv_aload_n hC.1 hC.2.1 dX5_drop_63 rfl (lv_at hl 0 rfl) ?_
      refine tw_getR hC hR hk flX5_20 dX5_drop_64 (fun r14 hk => ?_)
      refine lv_iload_n hC.1 hC.2.1 dX5_drop_67 rfl (lv_at hl 3 rfl) ?_
      refine tw_zald hC hR hk dX5_drop_68 (fun v15 gv15 hk => ?_)
      refine tw_zast hC hR hL hk dX5_drop_69 (fun h16 H locs hR hL hk => ?_)
      refine tw_iinc (lv' := [(3, .int (tw_I (tm_wr (x3 + 1)))), (0, .ref this), (1, .int (tw_I a1)), (2, .ref x2)]) hC dX5_drop_70 hl (k := 3) rfl (by decide) rfl (fun ls hl => ?_)
      refine lv_goto (tgt := 20) hC.1 hC.2.1 dX5_drop_73 (by decide) ?_
      cases hk
      exact ih _ out hf H locs _ ((tm_wr_rg _)) hR hL (lv_sub hl [1, 2, 3, 0] rfl)
    · refine lv_aload_n hC.1 hC.2.1 dX5_drop_76 rfl (lv_at hl 0 rfl) ?_
      refine lv_dup hC.1 hC.2.1 dX5_drop_77 rfl ?_
      refine tw_getI hC hR hk flX5_24 dX5_drop_78 (fun v17 gv17 hk => ?_)
      refine lv_iconst (v := tw_I 1) hC.1 hC.2.1 dX5_drop_81 rfl ?_
      refine tw_isub hC dX5_drop_82 ?_
      refine tw_putI hC hR hL ((tm_wr_rg _)) hk fpX5_24 dX5_drop_83 (fun h18 H locs hR hL hk => ?_)
      refine lv_aload_n hC.1 hC.2.1 dX5_drop_86 rfl (lv_at hl 0 rfl) ?_
      refine tw_getR hC hR hk flX5_13 dX5_drop_87 (fun r19 hk => ?_)
      refine lv_aload_n hC.1 hC.2.1 dX5_drop_90 rfl (lv_at hl 0 rfl) ?_
      refine tw_getI hC hR hk flX5_24 dX5_drop_91 (fun v20 gv20 hk => ?_)
      refine lv_aload_n hC.1 hC.2.1 dX5_drop_94 rfl (lv_at hl 2 rfl) ?_
      refine tw_aast hC hR hL tw_ks5 hk dX5_drop_95 (fun h21 H locs hR hL hk => ?_)
      cases hk
      cases hf
      exact tw_vret hC hR hL rfl dX5_drop_96
theorem sX5_drop_L20 {l : Launch} {p : Program} {e : Env} {s : State} {m : MethodId} {args : Array Value} {below : List Frame} {meth : Method} {c : Code} (G : tw_G) (sz : Nat) (hC : tw_C G p s m args meth c RX5 cX5_drop 4 none) (this : Nat) (a1 : Int) (ga1 : tm_rg a1) (x2 : Nat) (x3 : Int) (h : tm_H) (gx3 : tm_rg x3) (out : tm_H) (hk : fX5_drop_L20 this a1 x2 x3 h = some out) (H : Heap) (locs : List Loc) (ls : Array Slot) (hR : tw_Rel G sz h H) (hL : tw_L G locs) (hl : lv_has ls 4 [(0, .ref this), (1, .int (tw_I a1)), (2, .ref x2), (3, .int (tw_I x3))]) : W p l e rmX5_drop s m args below meth c H locs 0 0 (MQ below (tw_Qv G sz out) args s 0 0 (tw_F G)) (F0 m 20 ls []) := by
  obtain ⟨k, hk⟩ := tm_wl_iff.mp hk
  exact sX5_drop_S0 G sz hC this a1 ga1 k ((x2, x3, h)) out hk H locs ls gx3 hR hL hl
set_option maxRecDepth 100000 in
set_option maxHeartbeats 4000000 in
theorem cX5_drop_ok (l : Launch) (G : tw_G) (sz : Nat) (this : Nat) (a1 : Int) (ga1 : tm_rg a1) (h : tm_H) (out : tm_H) (hk : fX5_drop this a1 h = some out) : Met l yX5_drop (tw_WS yX5_drop cX5_drop 4 none) rmX5_drop (va_Pc [.ref this, .int (tw_I a1)] (tw_Pre G sz h)) (tw_Qv G sz out) 0 0 (tw_F G) := by
  refine tw_met (by decide +kernel) (Nat.le_of_ble_eq_true rfl) ?_
  intro p e s m args below meth c H ls hC hnm hR hl
  unfold fX5_drop at hk
  obtain ⟨hob, hk⟩ := tm_th_is hk
  have hl : lv_has ls 4 [(0, .ref this), (1, .int (tw_I a1))] := hl
  have hL : tw_L G [] := fun q z => by cases z
  generalize hlc : ([] : List Loc) = locs at hL ⊢
  refine lv_aload_n hC.1 hC.2.1 dX5_drop_0 rfl (lv_at hl 0 rfl) ?_
  refine lv_iload_n hC.1 hC.2.1 dX5_drop_1 rfl (lv_at hl 1 rfl) ?_
  refine kX5_has hC hR hL hk ga1 mlX5_28 ⟨by decide, by decide⟩ hl.1 (Nat.le_of_ble_eq_true rfl) ⟨Nat.zero_le _, Nat.zero_le _⟩ dX5_drop_2 (fun v1 H locs hR hL gv1 hk => ?_)
  refine tw_zne (tgt := 9) hC hk gv1 dX5_drop_5 (by decide) (fun _ hk => ?_) (fun _ hk => ?_)
  · cases hk
    exact tw_vret hC hR hL rfl dX5_drop_8
  · refine lv_aload_n hC.1 hC.2.1 dX5_drop_9 rfl (lv_at hl 0 rfl) ?_
    refine tw_getR hC hR hk flX5_13 dX5_drop_10 (fun r2 hk => ?_)
    refine lv_iload_n hC.1 hC.2.1 dX5_drop_13 rfl (lv_at hl 1 rfl) ?_
    refine tw_aald hC hR hk dX5_drop_14 (fun r3 hk => ?_)
    refine lv_astore_n (lv' := [(2, .ref r3), (0, .ref this), (1, .int (tw_I a1))]) hC.1 hC.2.1 dX5_drop_15 rfl hl (by decide) rfl (fun ls hl => ?_)
    refine lv_iload_n hC.1 hC.2.1 dX5_drop_16 rfl (lv_at hl 2 rfl) ?_
    refine lv_iconst (v := tw_I 1) hC.1 hC.2.1 dX5_drop_17 rfl ?_
    refine tw_iadd hC dX5_drop_18 ?_
    refine lv_istore_n (lv' := [(3, .int (tw_I (tm_wr (a1 + 1)))), (2, .ref r3), (0, .ref this), (1, .int (tw_I a1))]) hC.1 hC.2.1 dX5_drop_19 rfl hl (by decide) rfl (fun ls hl => ?_)
    exact sX5_drop_L20 G sz hC this a1 ga1 r3 (tm_wr (a1 + 1)) h ((tm_wr_rg _)) out hk H locs _ hR hL (lv_sub hl [2, 3, 1, 0] rfl)
set_option maxRecDepth 100000 in
theorem kX5_drop {l : Launch} {p : Program} {e : Env} {R : Room} {s : State} {m : MethodId} {args : Array Value} {below : List Frame} {meth : Method} {c : Code} {H : Heap} {locs : List Loc} {cells slots : Nat} {Q : State → Prop} {cc : ByteArray} {pc nL idx : Nat} {ls : Array Slot} {rest : List Value} {G : tw_G} {h : tm_H} {own : String} {ret : Option FieldType} {α : Type} {x : α} {sz : Nat} {this : Nat} {a1 : Int} (hC : tw_C G p s m args meth c own cc nL ret) (hR : tw_Rel G sz h H) (hL : tw_L G locs) {F : tm_H → Option α} (hk : (fX5_drop this a1 h).bind F = some x) (ga1 : tm_rg a1) (hl : tw_mL own idx yX5_drop) (hRm : rmX5_drop.frames + 1 ≤ R.frames ∧ 8 + (4 + 11) + rmX5_drop.locals ≤ R.locals) (hsz : ls.size = nL) (hW : (rest.map fun v => v.category).sum ≤ 8) (hf : cells + 0 ≤ R.cells ∧ slots + 0 ≤ R.slots) (hdg : decode cc pc = .ok (.invokevirtual idx, 3)) (kk : ∀ (h1 : tm_H) (H1 : Heap) (locs1 : List Loc), tw_Rel G sz h1 H1 → tw_L G locs1 → F h1 = some x → W p l e R s m args below meth c H1 locs1 (cells + 0) (slots + 0) Q (F0 m (pc + 3) ls (rest))) : W p l e R s m args below meth c H locs cells slots Q (F0 m pc ls (.int (tw_I a1) :: .ref this :: rest)) := by
  obtain ⟨r, hr, hF⟩ := Option.bind_eq_some_iff.mp hk
  have ob : ∀ r, fX5_drop this a1 h = some r → tm_is h 5 this := fun r hr => by
    unfold fX5_drop at hr
    exact (tm_th_is hr).1
  exact tw_backv (tw_runV hC hR (cX5_drop_ok l G sz this a1 ga1 h r hr) (n := 1) (As := [.int (tw_I a1)]) ⟨tw_in_TB 501 (by decide +kernel) rfl, tw_in_TB 13 (by decide +kernel) rfl, by decide +kernel⟩ (tw_in_TB 499 (by decide +kernel) rfl) (tw_in_TB 500 (by decide +kernel) rfl) hl ⟨rfl, rfl⟩ hRm (ob r hr) (T := TX5) (N := 4) rfl rfl hsz rfl hW hdg hf) hL (fun H1 locs1 a b => kk r H1 locs1 a b hF)
def rmX5_hasLike : Room := { frames := 2, cells := 0, slots := 0, locals := 45 }
set_option maxRecDepth 100000 in
set_option maxHeartbeats 4000000 in
theorem sX5_hasLike_S0 {l : Launch} {p : Program} {e : Env} {s : State} {m : MethodId} {args : Array Value} {below : List Frame} {meth : Method} {c : Code} (G : tw_G) (sz : Nat) (hC : tw_C G p s m args meth c RX5 cX5_hasLike 5 (some .boolean)) (this : Nat) (a1 : Nat) (a2 : Nat) (a3 : Int) (ga3 : tm_rg a3) (h : tm_H) : ∀ (k : Nat) (st : (Int) ⊕ (Int)) (out : Int), tm_wit (fX5_hasLike_S0 this a1 a2 a3 h) k st = some out → match st with
    | .inl ((x4)) => ∀ (H : Heap) (locs : List Loc) (ls : Array Slot), tm_rg x4 → tw_Rel G sz h H → tw_L G locs → lv_has ls 5 [(0, .ref this), (1, .ref a1), (2, .ref a2), (3, .int (tw_I a3)), (4, .int (tw_I x4))] → W p l e rmX5_hasLike s m args below meth c H locs 0 0 (MQ below (tw_Qi G sz out h) args s 0 0 (tw_F G)) (F0 m 3 ls [])
    | .inr ((x4)) => ∀ (H : Heap) (locs : List Loc) (ls : Array Slot), tm_rg x4 → tw_Rel G sz h H → tw_L G locs → lv_has ls 5 [(0, .ref this), (1, .ref a1), (2, .ref a2), (3, .int (tw_I a3)), (4, .int (tw_I x4))] → W p l e rmX5_hasLike s m args below meth c H locs 0 0 (MQ below (tw_Qi G sz out h) args s 0 0 (tw_F G)) (F0 m 41 ls []) := by
  intro k
  induction k with
  | zero =>
    intro st out hk
    exact absurd hk (by unfold tm_wit; exact fun z => by cases z)
  | succ k ih =>
    intro st out hk
    obtain ⟨X, hk, hf⟩ := tm_wit_succ hk
    obtain x4 | x4 := st
    · intro H locs ls gx4 hR hL hl
      dsimp only [fX5_hasLike_S0] at hk
      refine lv_iload hC.1 hC.2.1 dX5_hasLike_3 (lv_at hl 4 rfl) ?_
      refine lv_aload_n hC.1 hC.2.1 dX5_hasLike_5 rfl (lv_at hl 0 rfl) ?_
      refine tw_getI hC hR hk flX5_24 dX5_hasLike_6 (fun v1 gv1 hk => ?_)
      refine tw_cge (tgt := 47) hC hk gx4 gv1 dX5_hasLike_9 (by decide) (fun _ hk => ?_) (fun _ hk => ?_)
      · refine lv_aload_n hC.1 hC.2.1 dX5_hasLike_12 rfl (lv_at hl 0 rfl) ?_
        refine tw_getR hC hR hk flX5_16 dX5_hasLike_13 (fun r2 hk => ?_)
        refine lv_iload hC.1 hC.2.1 dX5_hasLike_16 (lv_at hl 4 rfl) ?_
        refine tw_iald hC hR hk dX5_hasLike_18 (fun v3 gv3 hk => ?_)
        refine lv_iload_n hC.1 hC.2.1 dX5_hasLike_19 rfl (lv_at hl 3 rfl) ?_
        refine tw_cne (tgt := 41) hC hk gv3 ga3 dX5_hasLike_20 (by decide) (fun _ hk => ?_) (fun _ hk => ?_)
        · refine lv_aload_n hC.1 hC.2.1 dX5_hasLike_23 rfl (lv_at hl 1 rfl) ?_
          refine lv_aload_n hC.1 hC.2.1 dX5_hasLike_24 rfl (lv_at hl 0 rfl) ?_
          refine tw_getR hC hR hk flX5_13 dX5_hasLike_25 (fun r4 hk => ?_)
          refine lv_iload hC.1 hC.2.1 dX5_hasLike_28 (lv_at hl 4 rfl) ?_
          refine tw_aald hC hR hk dX5_hasLike_30 (fun r5 hk => ?_)
          refine lv_aload_n hC.1 hC.2.1 dX5_hasLike_31 rfl (lv_at hl 2 rfl) ?_
          refine lv_iload_n hC.1 hC.2.1 dX5_hasLike_32 rfl (lv_at hl 3 rfl) ?_
          refine kX5_sameBases hC hR hL hk ga3 mlX5_38 ⟨by decide, by decide⟩ hl.1 (Nat.le_of_ble_eq_true rfl) ⟨Nat.zero_le _, Nat.zero_le _⟩ dX5_hasLike_33 (fun v6 H locs hR hL gv6 hk => ?_)
          refine tw_zeq (tgt := 41) hC hk gv6 dX5_hasLike_36 (by decide) (fun _ hk => ?_) (fun _ hk => ?_)
          · cases hk
            exact ih _ out hf H locs _ gx4 hR hL (lv_sub hl [0, 1, 2, 3, 4] rfl)
          · refine lv_iconst (v := tw_I 1) hC.1 hC.2.1 dX5_hasLike_39 rfl ?_
            cases hk
            cases hf
            exact tw_zret hC hR hL rfl rfl dX5_hasLike_40
        · cases hk
          exact ih _ out hf H locs _ gx4 hR hL (lv_sub hl [0, 1, 2, 3, 4] rfl)
      · refine lv_iconst (v := tw_I 0) hC.1 hC.2.1 dX5_hasLike_47 rfl ?_
        cases hk
        cases hf
        exact tw_zret hC hR hL rfl rfl dX5_hasLike_48
    · intro H locs ls gx4 hR hL hl
      dsimp only [fX5_hasLike_S0] at hk
      refine tw_iinc (lv' := [(4, .int (tw_I (tm_wr (x4 + 1)))), (0, .ref this), (1, .ref a1), (2, .ref a2), (3, .int (tw_I a3))]) hC dX5_hasLike_41 hl (k := 4) rfl (by decide) rfl (fun ls hl => ?_)
      refine lv_goto (tgt := 3) hC.1 hC.2.1 dX5_hasLike_44 (by decide) ?_
      cases hk
      exact ih _ out hf H locs _ ((tm_wr_rg _)) hR hL (lv_sub hl [1, 2, 3, 4, 0] rfl)
theorem sX5_hasLike_L3 {l : Launch} {p : Program} {e : Env} {s : State} {m : MethodId} {args : Array Value} {below : List Frame} {meth : Method} {c : Code} (G : tw_G) (sz : Nat) (hC : tw_C G p s m args meth c RX5 cX5_hasLike 5 (some .boolean)) (this : Nat) (a1 : Nat) (a2 : Nat) (a3 : Int) (ga3 : tm_rg a3) (h : tm_H) (x4 : Int) (gx4 : tm_rg x4) (out : Int) (hk : fX5_hasLike_L3 this a1 a2 a3 h x4 = some out) (H : Heap) (locs : List Loc) (ls : Array Slot) (hR : tw_Rel G sz h H) (hL : tw_L G locs) (hl : lv_has ls 5 [(0, .ref this), (1, .ref a1), (2, .ref a2), (3, .int (tw_I a3)), (4, .int (tw_I x4))]) : W p l e rmX5_hasLike s m args below meth c H locs 0 0 (MQ below (tw_Qi G sz out h) args s 0 0 (tw_F G)) (F0 m 3 ls []) := by
  obtain ⟨k, hk⟩ := tm_wl_iff.mp hk
  exact sX5_hasLike_S0 G sz hC this a1 a2 a3 ga3 h k (.inl ((x4))) out hk H locs ls gx4 hR hL hl
theorem sX5_hasLike_L41 {l : Launch} {p : Program} {e : Env} {s : State} {m : MethodId} {args : Array Value} {below : List Frame} {meth : Method} {c : Code} (G : tw_G) (sz : Nat) (hC : tw_C G p s m args meth c RX5 cX5_hasLike 5 (some .boolean)) (this : Nat) (a1 : Nat) (a2 : Nat) (a3 : Int) (ga3 : tm_rg a3) (h : tm_H) (x4 : Int) (gx4 : tm_rg x4) (out : Int) (hk : fX5_hasLike_L41 this a1 a2 a3 h x4 = some out) (H : Heap) (locs : List Loc) (ls : Array Slot) (hR : tw_Rel G sz h H) (hL : tw_L G locs) (hl : lv_has ls 5 [(0, .ref this), (1, .ref a1), (2, .ref a2), (3, .int (tw_I a3)), (4, .int (tw_I x4))]) : W p l e rmX5_hasLike s m args below meth c H locs 0 0 (MQ below (tw_Qi G sz out h) args s 0 0 (tw_F G)) (F0 m 41 ls []) := by
  obtain ⟨k, hk⟩ := tm_wl_iff.mp hk
  exact sX5_hasLike_S0 G sz hC this a1 a2 a3 ga3 h k (.inr ((x4))) out hk H locs ls gx4 hR hL hl
set_option maxRecDepth 100000 in
set_option maxHeartbeats 4000000 in
theorem cX5_hasLike_ok (l : Launch) (G : tw_G) (sz : Nat) (this : Nat) (a1 : Nat) (a2 : Nat) (a3 : Int) (ga3 : tm_rg a3) (h : tm_H) (out : Int) (hk : fX5_hasLike this a1 a2 a3 h = some out) : Met l yX5_hasLike (tw_WS yX5_hasLike cX5_hasLike 5 (some .boolean)) rmX5_hasLike (va_Pc [.ref this, .ref a1, .ref a2, .int (tw_I a3)] (tw_Pre G sz h)) (tw_Qi G sz out h) 0 0 (tw_F G) := by
  refine tw_met (by decide +kernel) (Nat.le_of_ble_eq_true rfl) ?_
  intro p e s m args below meth c H ls hC hnm hR hl
  unfold fX5_hasLike at hk
  obtain ⟨hob, hk⟩ := tm_th_is hk
  have hl : lv_has ls 5 [(0, .ref this), (1, .ref a1), (2, .ref a2), (3, .int (tw_I a3))] := hl
  have hL : tw_L G [] := fun q z => by cases z
  generalize hlc : ([] : List Loc) = locs at hL ⊢
  refine lv_iconst (v := tw_I 0) hC.1 hC.2.1 dX5_hasLike_0 rfl ?_
  refine lv_istore (lv' := [(4, .int (tw_I 0)), (0, .ref this), (1, .ref a1), (2, .ref a2), (3, .int (tw_I a3))]) hC.1 hC.2.1 dX5_hasLike_1 hl (by decide) rfl (fun ls hl => ?_)
  exact sX5_hasLike_L3 G sz hC this a1 a2 a3 ga3 h 0 ((tw_rgL rfl)) out hk H locs _ hR hL (lv_sub hl [1, 2, 3, 4, 0] rfl)
set_option maxRecDepth 100000 in
theorem kX5_hasLike {l : Launch} {p : Program} {e : Env} {R : Room} {s : State} {m : MethodId} {args : Array Value} {below : List Frame} {meth : Method} {c : Code} {H : Heap} {locs : List Loc} {cells slots : Nat} {Q : State → Prop} {cc : ByteArray} {pc nL idx : Nat} {ls : Array Slot} {rest : List Value} {G : tw_G} {h : tm_H} {own : String} {ret : Option FieldType} {α : Type} {x : α} {sz : Nat} {this : Nat} {a1 : Nat} {a2 : Nat} {a3 : Int} (hC : tw_C G p s m args meth c own cc nL ret) (hR : tw_Rel G sz h H) (hL : tw_L G locs) {F : Int → Option α} (hk : (fX5_hasLike this a1 a2 a3 h).bind F = some x) (ga3 : tm_rg a3) (hl : tw_mL own idx yX5_hasLike) (hRm : rmX5_hasLike.frames + 1 ≤ R.frames ∧ 8 + (5 + 11) + rmX5_hasLike.locals ≤ R.locals) (hsz : ls.size = nL) (hW : (rest.map fun v => v.category).sum ≤ 8) (hf : cells + 0 ≤ R.cells ∧ slots + 0 ≤ R.slots) (hdg : decode cc pc = .ok (.invokevirtual idx, 3)) (kk : ∀ (r : Int) (H1 : Heap) (locs1 : List Loc), tw_Rel G sz h H1 → tw_L G locs1 → tm_rg r → F r = some x → W p l e R s m args below meth c H1 locs1 (cells + 0) (slots + 0) Q (F0 m (pc + 3) ls (.int (tw_I r) :: rest))) : W p l e R s m args below meth c H locs cells slots Q (F0 m pc ls (.int (tw_I a3) :: .ref a2 :: .ref a1 :: .ref this :: rest)) := by
  obtain ⟨r, hr, hF⟩ := Option.bind_eq_some_iff.mp hk
  have ob : ∀ r, fX5_hasLike this a1 a2 a3 h = some r → tm_is h 5 this := fun r hr => by
    unfold fX5_hasLike at hr
    exact (tm_th_is hr).1
  exact tw_backi (tw_runV hC hR (cX5_hasLike_ok l G sz this a1 a2 a3 ga3 h r hr) (n := 3) (As := [.ref a1, .ref a2, .int (tw_I a3)]) ⟨tw_in_TB 485 (by decide +kernel) rfl, tw_in_TB 13 (by decide +kernel) rfl, by decide +kernel⟩ (tw_in_TB 483 (by decide +kernel) rfl) (tw_in_TB 484 (by decide +kernel) rfl) hl ⟨rfl, rfl⟩ hRm (ob r hr) (T := TX5) (N := 4) rfl rfl hsz rfl hW hdg hf) hL (fun H1 locs1 a b g => kk r H1 locs1 a b g hF)
def rmX6_length : Room := { frames := 0, cells := 0, slots := 0, locals := 0 }
set_option maxRecDepth 100000 in
set_option maxHeartbeats 4000000 in
theorem cX6_length_ok (l : Launch) (G : tw_G) (sz : Nat) (this : Nat)  (h : tm_H) (out : Int) (hk : fX6_length this h = some out) : Met l yX6_length (tw_WS yX6_length cX6_length 1 (some .int)) rmX6_length (va_Pc [.ref this] (tw_Pre G sz h)) (tw_Qi G sz out h) 0 0 (tw_F G) := by
  refine tw_met (by decide +kernel) (Nat.le_of_ble_eq_true rfl) ?_
  intro p e s m args below meth c H ls hC hnm hR hl
  unfold fX6_length at hk
  obtain ⟨hob, hk⟩ := tm_th_is hk
  have hl : lv_has ls 1 [(0, .ref this)] := hl
  have hL : tw_L G [] := fun q z => by cases z
  generalize hlc : ([] : List Loc) = locs at hL ⊢
  refine lv_aload_n hC.1 hC.2.1 dX6_length_0 rfl (lv_at hl 0 rfl) ?_
  refine tw_getI hC hR hk flX6_13 dX6_length_1 (fun v1 gv1 hk => ?_)
  cases hk
  exact tw_iret hC hR hL gv1 rfl rfl dX6_length_4
set_option maxRecDepth 100000 in
theorem kX6_length {l : Launch} {p : Program} {e : Env} {R : Room} {s : State} {m : MethodId} {args : Array Value} {below : List Frame} {meth : Method} {c : Code} {H : Heap} {locs : List Loc} {cells slots : Nat} {Q : State → Prop} {cc : ByteArray} {pc nL idx : Nat} {ls : Array Slot} {rest : List Value} {G : tw_G} {h : tm_H} {own : String} {ret : Option FieldType} {α : Type} {x : α} {sz : Nat} {this : Nat} (hC : tw_C G p s m args meth c own cc nL ret) (hR : tw_Rel G sz h H) (hL : tw_L G locs) {F : Int → Option α} (hk : (fX6_length this h).bind F = some x)  (hl : tw_mL own idx yX6_length) (hRm : rmX6_length.frames + 1 ≤ R.frames ∧ 8 + (1 + 11) + rmX6_length.locals ≤ R.locals) (hsz : ls.size = nL) (hW : (rest.map fun v => v.category).sum ≤ 8) (hf : cells + 0 ≤ R.cells ∧ slots + 0 ≤ R.slots) (hdg : decode cc pc = .ok (.invokevirtual idx, 3)) (kk : ∀ (r : Int) (H1 : Heap) (locs1 : List Loc), tw_Rel G sz h H1 → tw_L G locs1 → tm_rg r → F r = some x → W p l e R s m args below meth c H1 locs1 (cells + 0) (slots + 0) Q (F0 m (pc + 3) ls (.int (tw_I r) :: rest))) : W p l e R s m args below meth c H locs cells slots Q (F0 m pc ls (.ref this :: rest)) := by
  obtain ⟨r, hr, hF⟩ := Option.bind_eq_some_iff.mp hk
  have ob : ∀ r, fX6_length this h = some r → tm_is h 6 this := fun r hr => by
    unfold fX6_length at hr
    exact (tm_th_is hr).1
  exact tw_backi (tw_runV hC hR (cX6_length_ok l G sz this  h r hr) (n := 0) (As := []) ⟨tw_in_TB 353 (by decide +kernel) rfl, tw_in_TB 16 (by decide +kernel) rfl, by decide +kernel⟩ (tw_in_TB 351 (by decide +kernel) rfl) (tw_in_TB 352 (by decide +kernel) rfl) hl ⟨rfl, rfl⟩ hRm (ob r hr) (T := TX6) (N := 2) rfl rfl hsz rfl hW hdg hf) hL (fun H1 locs1 a b g => kk r H1 locs1 a b g hF)
def rmX6_add : Room := { frames := 0, cells := 0, slots := 0, locals := 0 }
set_option maxRecDepth 100000 in
set_option maxHeartbeats 4000000 in
theorem cX6_add_ok (l : Launch) (G : tw_G) (sz : Nat) (this : Nat) (a1 : Int) (ga1 : tm_rg a1) (h : tm_H) (out : tm_H) (hk : fX6_add this a1 h = some out) : Met l yX6_add (tw_WS yX6_add cX6_add 2 none) rmX6_add (va_Pc [.ref this, .int (tw_I a1)] (tw_Pre G sz h)) (tw_Qv G sz out) 0 0 (tw_F G) := by
  refine tw_met (by decide +kernel) (Nat.le_of_ble_eq_true rfl) ?_
  intro p e s m args below meth c H ls hC hnm hR hl
  unfold fX6_add at hk
  obtain ⟨hob, hk⟩ := tm_th_is hk
  have hl : lv_has ls 2 [(0, .ref this), (1, .int (tw_I a1))] := hl
  have hL : tw_L G [] := fun q z => by cases z
  generalize hlc : ([] : List Loc) = locs at hL ⊢
  refine lv_aload_n hC.1 hC.2.1 dX6_add_0 rfl (lv_at hl 0 rfl) ?_
  refine tw_getI hC hR hk flX6_13 dX6_add_1 (fun v1 gv1 hk => ?_)
  refine lv_sipush (v := tw_I 140) hC.1 hC.2.1 dX6_add_4 (by decide) ?_
  refine tw_cge (tgt := 30) hC hk gv1 ((tw_rgL rfl)) dX6_add_7 (by decide) (fun _ hk => ?_) (fun _ hk => ?_)
  · refine lv_aload_n hC.1 hC.2.1 dX6_add_10 rfl (lv_at hl 0 rfl) ?_
    refine tw_getR hC hR hk flX6_9 dX6_add_11 (fun r2 hk => ?_)
    refine lv_aload_n hC.1 hC.2.1 dX6_add_14 rfl (lv_at hl 0 rfl) ?_
    refine tw_getI hC hR hk flX6_13 dX6_add_15 (fun v3 gv3 hk => ?_)
    refine lv_iload_n hC.1 hC.2.1 dX6_add_18 rfl (lv_at hl 1 rfl) ?_
    refine tw_iast hC hR hL ga1 hk dX6_add_19 (fun h4 H locs hR hL hk => ?_)
    refine lv_aload_n hC.1 hC.2.1 dX6_add_20 rfl (lv_at hl 0 rfl) ?_
    refine lv_dup hC.1 hC.2.1 dX6_add_21 rfl ?_
    refine tw_getI hC hR hk flX6_13 dX6_add_22 (fun v5 gv5 hk => ?_)
    refine lv_iconst (v := tw_I 1) hC.1 hC.2.1 dX6_add_25 rfl ?_
    refine tw_iadd hC dX6_add_26 ?_
    refine tw_putI hC hR hL ((tm_wr_rg _)) hk fpX6_13 dX6_add_27 (fun h6 H locs hR hL hk => ?_)
    cases hk
    exact tw_vret hC hR hL rfl dX6_add_30
  · cases hk
    exact tw_vret hC hR hL rfl dX6_add_30
set_option maxRecDepth 100000 in
theorem kX6_add {l : Launch} {p : Program} {e : Env} {R : Room} {s : State} {m : MethodId} {args : Array Value} {below : List Frame} {meth : Method} {c : Code} {H : Heap} {locs : List Loc} {cells slots : Nat} {Q : State → Prop} {cc : ByteArray} {pc nL idx : Nat} {ls : Array Slot} {rest : List Value} {G : tw_G} {h : tm_H} {own : String} {ret : Option FieldType} {α : Type} {x : α} {sz : Nat} {this : Nat} {a1 : Int} (hC : tw_C G p s m args meth c own cc nL ret) (hR : tw_Rel G sz h H) (hL : tw_L G locs) {F : tm_H → Option α} (hk : (fX6_add this a1 h).bind F = some x) (ga1 : tm_rg a1) (hl : tw_mL own idx yX6_add) (hRm : rmX6_add.frames + 1 ≤ R.frames ∧ 8 + (2 + 11) + rmX6_add.locals ≤ R.locals) (hsz : ls.size = nL) (hW : (rest.map fun v => v.category).sum ≤ 8) (hf : cells + 0 ≤ R.cells ∧ slots + 0 ≤ R.slots) (hdg : decode cc pc = .ok (.invokevirtual idx, 3)) (kk : ∀ (h1 : tm_H) (H1 : Heap) (locs1 : List Loc), tw_Rel G sz h1 H1 → tw_L G locs1 → F h1 = some x → W p l e R s m args below meth c H1 locs1 (cells + 0) (slots + 0) Q (F0 m (pc + 3) ls (rest))) : W p l e R s m args below meth c H locs cells slots Q (F0 m pc ls (.int (tw_I a1) :: .ref this :: rest)) := by
  obtain ⟨r, hr, hF⟩ := Option.bind_eq_some_iff.mp hk
  have ob : ∀ r, fX6_add this a1 h = some r → tm_is h 6 this := fun r hr => by
    unfold fX6_add at hr
    exact (tm_th_is hr).1
  exact tw_backv (tw_runV hC hR (cX6_add_ok l G sz this a1 ga1 h r hr) (n := 1) (As := [.int (tw_I a1)]) ⟨tw_in_TB 570 (by decide +kernel) rfl, tw_in_TB 16 (by decide +kernel) rfl, by decide +kernel⟩ (tw_in_TB 568 (by decide +kernel) rfl) (tw_in_TB 569 (by decide +kernel) rfl) hl ⟨rfl, rfl⟩ hRm (ob r hr) (T := TX6) (N := 2) rfl rfl hsz rfl hW hdg hf) hL (fun H1 locs1 a b => kk r H1 locs1 a b hF)
def rmX7_size : Room := { frames := 0, cells := 0, slots := 0, locals := 0 }
set_option maxRecDepth 100000 in
set_option maxHeartbeats 4000000 in
theorem cX7_size_ok (l : Launch) (G : tw_G) (sz : Nat) (this : Nat)  (h : tm_H) (out : Int) (hk : fX7_size this h = some out) : Met l yX7_size (tw_WS yX7_size cX7_size 1 (some .int)) rmX7_size (va_Pc [.ref this] (tw_Pre G sz h)) (tw_Qi G sz out h) 0 0 (tw_F G) := by
  refine tw_met (by decide +kernel) (Nat.le_of_ble_eq_true rfl) ?_
  intro p e s m args below meth c H ls hC hnm hR hl
  unfold fX7_size at hk
  obtain ⟨hob, hk⟩ := tm_th_is hk
  have hl : lv_has ls 1 [(0, .ref this)] := hl
  have hL : tw_L G [] := fun q z => by cases z
  generalize hlc : ([] : List Loc) = locs at hL ⊢
  refine lv_aload_n hC.1 hC.2.1 dX7_size_0 rfl (lv_at hl 0 rfl) ?_
  refine tw_getI hC hR hk flX7_19 dX7_size_1 (fun v1 gv1 hk => ?_)
  cases hk
  exact tw_iret hC hR hL gv1 rfl rfl dX7_size_4
set_option maxRecDepth 100000 in
theorem kX7_size {l : Launch} {p : Program} {e : Env} {R : Room} {s : State} {m : MethodId} {args : Array Value} {below : List Frame} {meth : Method} {c : Code} {H : Heap} {locs : List Loc} {cells slots : Nat} {Q : State → Prop} {cc : ByteArray} {pc nL idx : Nat} {ls : Array Slot} {rest : List Value} {G : tw_G} {h : tm_H} {own : String} {ret : Option FieldType} {α : Type} {x : α} {sz : Nat} {this : Nat} (hC : tw_C G p s m args meth c own cc nL ret) (hR : tw_Rel G sz h H) (hL : tw_L G locs) {F : Int → Option α} (hk : (fX7_size this h).bind F = some x)  (hl : tw_mL own idx yX7_size) (hRm : rmX7_size.frames + 1 ≤ R.frames ∧ 8 + (1 + 11) + rmX7_size.locals ≤ R.locals) (hsz : ls.size = nL) (hW : (rest.map fun v => v.category).sum ≤ 8) (hf : cells + 0 ≤ R.cells ∧ slots + 0 ≤ R.slots) (hdg : decode cc pc = .ok (.invokevirtual idx, 3)) (kk : ∀ (r : Int) (H1 : Heap) (locs1 : List Loc), tw_Rel G sz h H1 → tw_L G locs1 → tm_rg r → F r = some x → W p l e R s m args below meth c H1 locs1 (cells + 0) (slots + 0) Q (F0 m (pc + 3) ls (.int (tw_I r) :: rest))) : W p l e R s m args below meth c H locs cells slots Q (F0 m pc ls (.ref this :: rest)) := by
  obtain ⟨r, hr, hF⟩ := Option.bind_eq_some_iff.mp hk
  have ob : ∀ r, fX7_size this h = some r → tm_is h 7 this := fun r hr => by
    unfold fX7_size at hr
    exact (tm_th_is hr).1
  exact tw_backi (tw_runV hC hR (cX7_size_ok l G sz this  h r hr) (n := 0) (As := []) ⟨tw_in_TB 261 (by decide +kernel) rfl, tw_in_TB 11 (by decide +kernel) rfl, by decide +kernel⟩ (tw_in_TB 259 (by decide +kernel) rfl) (tw_in_TB 260 (by decide +kernel) rfl) hl ⟨rfl, rfl⟩ hRm (ob r hr) (T := TX7) (N := 3) rfl rfl hsz rfl hW hdg hf) hL (fun H1 locs1 a b g => kk r H1 locs1 a b g hF)
def rmX7_letterAt : Room := { frames := 1, cells := 0, slots := 0, locals := 21 }
set_option maxRecDepth 100000 in
set_option maxHeartbeats 4000000 in
theorem cX7_letterAt_ok (l : Launch) (G : tw_G) (sz : Nat) (this : Nat) (a1 : Int) (a2 : Int) (ga1 : tm_rg a1) (ga2 : tm_rg a2) (h : tm_H) (out : Int) (hk : fX7_letterAt this a1 a2 h = some out) : Met l yX7_letterAt (tw_WS yX7_letterAt cX7_letterAt 4 (some .int)) rmX7_letterAt (va_Pc [.ref this, .int (tw_I a1), .int (tw_I a2)] (tw_Pre G sz h)) (tw_Qi G sz out h) 0 0 (tw_F G) := by
  refine tw_met (by decide +kernel) (Nat.le_of_ble_eq_true rfl) ?_
  intro p e s m args below meth c H ls hC hnm hR hl
  unfold fX7_letterAt at hk
  obtain ⟨hob, hk⟩ := tm_th_is hk
  have hl : lv_has ls 4 [(0, .ref this), (1, .int (tw_I a1)), (2, .int (tw_I a2))] := hl
  have hL : tw_L G [] := fun q z => by cases z
  generalize hlc : ([] : List Loc) = locs at hL ⊢
  refine lv_aload_n hC.1 hC.2.1 dX7_letterAt_0 rfl (lv_at hl 0 rfl) ?_
  refine lv_iload_n hC.1 hC.2.1 dX7_letterAt_1 rfl (lv_at hl 1 rfl) ?_
  refine kX7_has hC hR hL hk ga1 mlX7_27 ⟨by decide, by decide⟩ hl.1 (Nat.le_of_ble_eq_true rfl) ⟨Nat.zero_le _, Nat.zero_le _⟩ dX7_letterAt_2 (fun v1 H locs hR hL gv1 hk => ?_)
  refine tw_zeq (tgt := 18) hC hk gv1 dX7_letterAt_5 (by decide) (fun _ hk => ?_) (fun _ hk => ?_)
  · refine lv_bipush (v := tw_I (-99)) hC.1 hC.2.1 dX7_letterAt_18 (by decide) ?_
    cases hk
    exact tw_iret hC hR hL ((tw_rgL rfl)) rfl rfl dX7_letterAt_20
  · refine lv_iload_n hC.1 hC.2.1 dX7_letterAt_8 rfl (lv_at hl 2 rfl) ?_
    refine tw_zlt (tgt := 18) hC hk ga2 dX7_letterAt_9 (by decide) (fun _ hk => ?_) (fun _ hk => ?_)
    · refine lv_bipush (v := tw_I (-99)) hC.1 hC.2.1 dX7_letterAt_18 (by decide) ?_
      cases hk
      exact tw_iret hC hR hL ((tw_rgL rfl)) rfl rfl dX7_letterAt_20
    · refine lv_iload_n hC.1 hC.2.1 dX7_letterAt_12 rfl (lv_at hl 2 rfl) ?_
      refine lv_bipush (v := tw_I 8) hC.1 hC.2.1 dX7_letterAt_13 (by decide) ?_
      refine tw_clt (tgt := 21) hC hk ga2 ((tw_rgL rfl)) dX7_letterAt_15 (by decide) (fun _ hk => ?_) (fun _ hk => ?_)
      · refine lv_aload_n hC.1 hC.2.1 dX7_letterAt_21 rfl (lv_at hl 0 rfl) ?_
        refine tw_getR hC hR hk flX7_11 dX7_letterAt_22 (fun r2 hk => ?_)
        refine lv_iload_n hC.1 hC.2.1 dX7_letterAt_25 rfl (lv_at hl 1 rfl) ?_
        refine tw_lald hC hR hk dX7_letterAt_26 (fun j3 hk => ?_)
        refine lv_iload_n hC.1 hC.2.1 dX7_letterAt_27 rfl (lv_at hl 2 rfl) ?_
        refine lv_bipush (v := tw_I 8) hC.1 hC.2.1 dX7_letterAt_28 (by decide) ?_
        refine tw_imul hC dX7_letterAt_30 ?_
        refine tw_lushr hC dX7_letterAt_31 ?_
        refine tw_l2i hC dX7_letterAt_32 ?_
        refine lv_sipush (v := tw_I 255) hC.1 hC.2.1 dX7_letterAt_33 (by decide) ?_
        refine tw_iand hC dX7_letterAt_36 ?_
        refine lv_istore_n (lv' := [(3, .int (tw_I (tm_and (tm_l2i (tm_lushr j3 (tm_wr (a2 * 8)))) 255))), (0, .ref this), (1, .int (tw_I a1)), (2, .int (tw_I a2))]) hC.1 hC.2.1 dX7_letterAt_37 rfl hl (by decide) rfl (fun ls hl => ?_)
        refine lv_iload_n hC.1 hC.2.1 dX7_letterAt_38 rfl (lv_at hl 0 rfl) ?_
        refine tw_zne (tgt := 47) hC hk ((tm_and_rg _ _)) dX7_letterAt_39 (by decide) (fun _ hk => ?_) (fun _ hk => ?_)
        · refine lv_bipush (v := tw_I (-99)) hC.1 hC.2.1 dX7_letterAt_42 (by decide) ?_
          refine lv_goto (tgt := 48) hC.1 hC.2.1 dX7_letterAt_44 (by decide) ?_
          cases hk
          exact tw_iret hC hR hL ((tw_rgL rfl)) rfl rfl dX7_letterAt_48
        · refine lv_iload_n hC.1 hC.2.1 dX7_letterAt_47 rfl (lv_at hl 0 rfl) ?_
          cases hk
          exact tw_iret hC hR hL ((tm_and_rg _ _)) rfl rfl dX7_letterAt_48
      · refine lv_bipush (v := tw_I (-99)) hC.1 hC.2.1 dX7_letterAt_18 (by decide) ?_
        cases hk
        exact tw_iret hC hR hL ((tw_rgL rfl)) rfl rfl dX7_letterAt_20
set_option maxRecDepth 100000 in
theorem kX7_letterAt {l : Launch} {p : Program} {e : Env} {R : Room} {s : State} {m : MethodId} {args : Array Value} {below : List Frame} {meth : Method} {c : Code} {H : Heap} {locs : List Loc} {cells slots : Nat} {Q : State → Prop} {cc : ByteArray} {pc nL idx : Nat} {ls : Array Slot} {rest : List Value} {G : tw_G} {h : tm_H} {own : String} {ret : Option FieldType} {α : Type} {x : α} {sz : Nat} {this : Nat} {a1 : Int} {a2 : Int} (hC : tw_C G p s m args meth c own cc nL ret) (hR : tw_Rel G sz h H) (hL : tw_L G locs) {F : Int → Option α} (hk : (fX7_letterAt this a1 a2 h).bind F = some x) (ga1 : tm_rg a1) (ga2 : tm_rg a2) (hl : tw_mL own idx yX7_letterAt) (hRm : rmX7_letterAt.frames + 1 ≤ R.frames ∧ 8 + (4 + 11) + rmX7_letterAt.locals ≤ R.locals) (hsz : ls.size = nL) (hW : (rest.map fun v => v.category).sum ≤ 8) (hf : cells + 0 ≤ R.cells ∧ slots + 0 ≤ R.slots) (hdg : decode cc pc = .ok (.invokevirtual idx, 3)) (kk : ∀ (r : Int) (H1 : Heap) (locs1 : List Loc), tw_Rel G sz h H1 → tw_L G locs1 → tm_rg r → F r = some x → W p l e R s m args below meth c H1 locs1 (cells + 0) (slots + 0) Q (F0 m (pc + 3) ls (.int (tw_I r) :: rest))) : W p l e R s m args below meth c H locs cells slots Q (F0 m pc ls (.int (tw_I a2) :: .int (tw_I a1) :: .ref this :: rest)) := by
  obtain ⟨r, hr, hF⟩ := Option.bind_eq_some_iff.mp hk
  have ob : ∀ r, fX7_letterAt this a1 a2 h = some r → tm_is h 7 this := fun r hr => by
    unfold fX7_letterAt at hr
    exact (tm_th_is hr).1
  exact tw_backi (tw_runV hC hR (cX7_letterAt_ok l G sz this a1 a2 ga1 ga2 h r hr) (n := 2) (As := [.int (tw_I a1), .int (tw_I a2)]) ⟨tw_in_TB 578 (by decide +kernel) rfl, tw_in_TB 11 (by decide +kernel) rfl, by decide +kernel⟩ (tw_in_TB 576 (by decide +kernel) rfl) (tw_in_TB 577 (by decide +kernel) rfl) hl ⟨rfl, rfl⟩ hRm (ob r hr) (T := TX7) (N := 3) rfl rfl hsz rfl hW hdg hf) hL (fun H1 locs1 a b g => kk r H1 locs1 a b g hF)
def rmX7_formCount : Room := { frames := 0, cells := 0, slots := 0, locals := 0 }
set_option maxRecDepth 100000 in
set_option maxHeartbeats 4000000 in
theorem sX7_formCount_S0 {l : Launch} {p : Program} {e : Env} {s : State} {m : MethodId} {args : Array Value} {below : List Frame} {meth : Method} {c : Code} (G : tw_G) (sz : Nat) (hC : tw_C G p s m args meth c RX7 cX7_formCount 3 (some .int)) (this : Nat)  (h : tm_H) : ∀ (k : Nat) (st : (Int × Int) ⊕ (Int × Int)) (out : Int), tm_wit (fX7_formCount_S0 this h) k st = some out → match st with
    | .inl ((x1, x2)) => ∀ (H : Heap) (locs : List Loc) (ls : Array Slot), tm_rg x1 → tm_rg x2 → tw_Rel G sz h H → tw_L G locs → lv_has ls 3 [(0, .ref this), (1, .int (tw_I x1)), (2, .int (tw_I x2))] → W p l e rmX7_formCount s m args below meth c H locs 0 0 (MQ below (tw_Qi G sz out h) args s 0 0 (tw_F G)) (F0 m 4 ls [])
    | .inr ((x1, x2)) => ∀ (H : Heap) (locs : List Loc) (ls : Array Slot), tm_rg x1 → tm_rg x2 → tw_Rel G sz h H → tw_L G locs → lv_has ls 3 [(0, .ref this), (1, .int (tw_I x1)), (2, .int (tw_I x2))] → W p l e rmX7_formCount s m args below meth c H locs 0 0 (MQ below (tw_Qi G sz out h) args s 0 0 (tw_F G)) (F0 m 25 ls []) := by
  intro k
  induction k with
  | zero =>
    intro st out hk
    exact absurd hk (by unfold tm_wit; exact fun z => by cases z)
  | succ k ih =>
    intro st out hk
    obtain ⟨X, hk, hf⟩ := tm_wit_succ hk
    obtain ⟨x1, x2⟩ | ⟨x1, x2⟩ := st
    · intro H locs ls gx1 gx2 hR hL hl
      dsimp only [fX7_formCount_S0] at hk
      refine lv_iload_n hC.1 hC.2.1 dX7_formCount_4 rfl (lv_at hl 2 rfl) ?_
      refine lv_aload_n hC.1 hC.2.1 dX7_formCount_5 rfl (lv_at hl 0 rfl) ?_
      refine tw_getI hC hR hk flX7_19 dX7_formCount_6 (fun v1 gv1 hk => ?_)
      refine tw_cge (tgt := 31) hC hk gx2 gv1 dX7_formCount_9 (by decide) (fun _ hk => ?_) (fun _ hk => ?_)
      · refine lv_aload_n hC.1 hC.2.1 dX7_formCount_12 rfl (lv_at hl 0 rfl) ?_
        refine tw_getR hC hR hk flX7_15 dX7_formCount_13 (fun r2 hk => ?_)
        refine lv_iload_n hC.1 hC.2.1 dX7_formCount_16 rfl (lv_at hl 2 rfl) ?_
        refine tw_iald hC hR hk dX7_formCount_17 (fun v3 gv3 hk => ?_)
        refine lv_iload_n hC.1 hC.2.1 dX7_formCount_18 rfl (lv_at hl 2 rfl) ?_
        refine tw_ceq (tgt := 25) hC hk gv3 gx2 dX7_formCount_19 (by decide) (fun _ hk => ?_) (fun _ hk => ?_)
        · cases hk
          exact ih _ out hf H locs _ gx1 gx2 hR hL (lv_sub hl [0, 1, 2] rfl)
        · refine tw_iinc (lv' := [(1, .int (tw_I (tm_wr (x1 + 1)))), (0, .ref this), (2, .int (tw_I x2))]) hC dX7_formCount_22 hl (k := 1) rfl (by decide) rfl (fun ls hl => ?_)
          cases hk
          exact ih _ out hf H locs _ ((tm_wr_rg _)) gx2 hR hL (lv_sub hl [1, 0, 2] rfl)
      · refine lv_iload_n hC.1 hC.2.1 dX7_formCount_31 rfl (lv_at hl 1 rfl) ?_
        cases hk
        cases hf
        exact tw_iret hC hR hL gx1 rfl rfl dX7_formCount_32
    · intro H locs ls gx1 gx2 hR hL hl
      dsimp only [fX7_formCount_S0] at hk
      refine tw_iinc (lv' := [(2, .int (tw_I (tm_wr (x2 + 1)))), (0, .ref this), (1, .int (tw_I x1))]) hC dX7_formCount_25 hl (k := 2) rfl (by decide) rfl (fun ls hl => ?_)
      refine lv_goto (tgt := 4) hC.1 hC.2.1 dX7_formCount_28 (by decide) ?_
      cases hk
      exact ih _ out hf H locs _ gx1 ((tm_wr_rg _)) hR hL (lv_sub hl [1, 2, 0] rfl)
theorem sX7_formCount_L4 {l : Launch} {p : Program} {e : Env} {s : State} {m : MethodId} {args : Array Value} {below : List Frame} {meth : Method} {c : Code} (G : tw_G) (sz : Nat) (hC : tw_C G p s m args meth c RX7 cX7_formCount 3 (some .int)) (this : Nat)  (h : tm_H) (x1 : Int) (x2 : Int) (gx1 : tm_rg x1) (gx2 : tm_rg x2) (out : Int) (hk : fX7_formCount_L4 this h x1 x2 = some out) (H : Heap) (locs : List Loc) (ls : Array Slot) (hR : tw_Rel G sz h H) (hL : tw_L G locs) (hl : lv_has ls 3 [(0, .ref this), (1, .int (tw_I x1)), (2, .int (tw_I x2))]) : W p l e rmX7_formCount s m args below meth c H locs 0 0 (MQ below (tw_Qi G sz out h) args s 0 0 (tw_F G)) (F0 m 4 ls []) := by
  obtain ⟨k, hk⟩ := tm_wl_iff.mp hk
  exact sX7_formCount_S0 G sz hC this  h k (.inl ((x1, x2))) out hk H locs ls gx1 gx2 hR hL hl
theorem sX7_formCount_L25 {l : Launch} {p : Program} {e : Env} {s : State} {m : MethodId} {args : Array Value} {below : List Frame} {meth : Method} {c : Code} (G : tw_G) (sz : Nat) (hC : tw_C G p s m args meth c RX7 cX7_formCount 3 (some .int)) (this : Nat)  (h : tm_H) (x1 : Int) (x2 : Int) (gx1 : tm_rg x1) (gx2 : tm_rg x2) (out : Int) (hk : fX7_formCount_L25 this h x1 x2 = some out) (H : Heap) (locs : List Loc) (ls : Array Slot) (hR : tw_Rel G sz h H) (hL : tw_L G locs) (hl : lv_has ls 3 [(0, .ref this), (1, .int (tw_I x1)), (2, .int (tw_I x2))]) : W p l e rmX7_formCount s m args below meth c H locs 0 0 (MQ below (tw_Qi G sz out h) args s 0 0 (tw_F G)) (F0 m 25 ls []) := by
  obtain ⟨k, hk⟩ := tm_wl_iff.mp hk
  exact sX7_formCount_S0 G sz hC this  h k (.inr ((x1, x2))) out hk H locs ls gx1 gx2 hR hL hl
set_option maxRecDepth 100000 in
set_option maxHeartbeats 4000000 in
theorem cX7_formCount_ok (l : Launch) (G : tw_G) (sz : Nat) (this : Nat)  (h : tm_H) (out : Int) (hk : fX7_formCount this h = some out) : Met l yX7_formCount (tw_WS yX7_formCount cX7_formCount 3 (some .int)) rmX7_formCount (va_Pc [.ref this] (tw_Pre G sz h)) (tw_Qi G sz out h) 0 0 (tw_F G) := by
  refine tw_met (by decide +kernel) (Nat.le_of_ble_eq_true rfl) ?_
  intro p e s m args below meth c H ls hC hnm hR hl
  unfold fX7_formCount at hk
  obtain ⟨hob, hk⟩ := tm_th_is hk
  have hl : lv_has ls 3 [(0, .ref this)] := hl
  have hL : tw_L G [] := fun q z => by cases z
  generalize hlc : ([] : List Loc) = locs at hL ⊢
  refine lv_iconst (v := tw_I 0) hC.1 hC.2.1 dX7_formCount_0 rfl ?_
  refine lv_istore_n (lv' := [(1, .int (tw_I 0)), (0, .ref this)]) hC.1 hC.2.1 dX7_formCount_1 rfl hl (by decide) rfl (fun ls hl => ?_)
  refine lv_iconst (v := tw_I 0) hC.1 hC.2.1 dX7_formCount_2 rfl ?_
  refine lv_istore_n (lv' := [(2, .int (tw_I 0)), (1, .int (tw_I 0)), (0, .ref this)]) hC.1 hC.2.1 dX7_formCount_3 rfl hl (by decide) rfl (fun ls hl => ?_)
  exact sX7_formCount_L4 G sz hC this h 0 0 ((tw_rgL rfl)) ((tw_rgL rfl)) out hk H locs _ hR hL (lv_sub hl [2, 1, 0] rfl)
set_option maxRecDepth 100000 in
theorem kX7_formCount {l : Launch} {p : Program} {e : Env} {R : Room} {s : State} {m : MethodId} {args : Array Value} {below : List Frame} {meth : Method} {c : Code} {H : Heap} {locs : List Loc} {cells slots : Nat} {Q : State → Prop} {cc : ByteArray} {pc nL idx : Nat} {ls : Array Slot} {rest : List Value} {G : tw_G} {h : tm_H} {own : String} {ret : Option FieldType} {α : Type} {x : α} {sz : Nat} {this : Nat} (hC : tw_C G p s m args meth c own cc nL ret) (hR : tw_Rel G sz h H) (hL : tw_L G locs) {F : Int → Option α} (hk : (fX7_formCount this h).bind F = some x)  (hl : tw_mL own idx yX7_formCount) (hRm : rmX7_formCount.frames + 1 ≤ R.frames ∧ 8 + (3 + 11) + rmX7_formCount.locals ≤ R.locals) (hsz : ls.size = nL) (hW : (rest.map fun v => v.category).sum ≤ 8) (hf : cells + 0 ≤ R.cells ∧ slots + 0 ≤ R.slots) (hdg : decode cc pc = .ok (.invokevirtual idx, 3)) (kk : ∀ (r : Int) (H1 : Heap) (locs1 : List Loc), tw_Rel G sz h H1 → tw_L G locs1 → tm_rg r → F r = some x → W p l e R s m args below meth c H1 locs1 (cells + 0) (slots + 0) Q (F0 m (pc + 3) ls (.int (tw_I r) :: rest))) : W p l e R s m args below meth c H locs cells slots Q (F0 m pc ls (.ref this :: rest)) := by
  obtain ⟨r, hr, hF⟩ := Option.bind_eq_some_iff.mp hk
  have ob : ∀ r, fX7_formCount this h = some r → tm_is h 7 this := fun r hr => by
    unfold fX7_formCount at hr
    exact (tm_th_is hr).1
  exact tw_backi (tw_runV hC hR (cX7_formCount_ok l G sz this  h r hr) (n := 0) (As := []) ⟨tw_in_TB 345 (by decide +kernel) rfl, tw_in_TB 11 (by decide +kernel) rfl, by decide +kernel⟩ (tw_in_TB 343 (by decide +kernel) rfl) (tw_in_TB 344 (by decide +kernel) rfl) hl ⟨rfl, rfl⟩ hRm (ob r hr) (T := TX7) (N := 3) rfl rfl hsz rfl hW hdg hf) hL (fun H1 locs1 a b g => kk r H1 locs1 a b g hF)
