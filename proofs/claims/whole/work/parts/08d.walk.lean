def rmX3_timesRead : Room := { frames := 0, cells := 0, slots := 0, locals := 0 }
set_option maxRecDepth 100000 in
set_option maxHeartbeats 4000000 in
theorem cX3_timesRead_ok (l : Launch) (G : tw_G) (sz : Nat) (this : Nat) (a1 : Int) (ga1 : tm_rg a1) (h : tm_H) (out : Int) (hk : fX3_timesRead this a1 h = some out) : Met l yX3_timesRead (tw_WS yX3_timesRead cX3_timesRead 2 (some .int)) rmX3_timesRead (va_Pc [.ref this, .int (tw_I a1)] (tw_Pre G sz h)) (tw_Qi G sz out h) 0 0 (tw_F G) := by
  refine tw_met (by decide +kernel) (Nat.le_of_ble_eq_true rfl) ?_
  intro p e s m args below meth c H ls hC hnm hR hl
  unfold fX3_timesRead at hk
  obtain ⟨hob, hk⟩ := tm_th_is hk
  have hl : lv_has ls 2 [(0, .ref this), (1, .int (tw_I a1))] := hl
  have hL : tw_L G [] := fun q z => by cases z
  generalize hlc : ([] : List Loc) = locs at hL ⊢
  refine lv_iload_n hC.1 hC.2.1 dX3_timesRead_0 rfl (lv_at hl 1 rfl) ?_
  refine tw_zlt (tgt := 19) hC hk ga1 dX3_timesRead_1 (by decide) (fun _ hk => ?_) (fun _ hk => ?_)
  · refine lv_iconst (v := tw_I 0) hC.1 hC.2.1 dX3_timesRead_19 rfl ?_
    cases hk
    exact tw_iret hC hR hL ((tw_rgL rfl)) rfl rfl dX3_timesRead_20
  · refine lv_iload_n hC.1 hC.2.1 dX3_timesRead_4 rfl (lv_at hl 1 rfl) ?_
    refine lv_bipush (v := tw_I 13) hC.1 hC.2.1 dX3_timesRead_5 (by decide) ?_
    refine tw_cge (tgt := 19) hC hk ga1 ((tw_rgL rfl)) dX3_timesRead_7 (by decide) (fun _ hk => ?_) (fun _ hk => ?_)
    · refine lv_aload_n hC.1 hC.2.1 dX3_timesRead_10 rfl (lv_at hl 0 rfl) ?_
      refine tw_getR hC hR hk flX3_26 dX3_timesRead_11 (fun r1 hk => ?_)
      refine lv_iload_n hC.1 hC.2.1 dX3_timesRead_14 rfl (lv_at hl 1 rfl) ?_
      refine tw_iald hC hR hk dX3_timesRead_15 (fun v2 gv2 hk => ?_)
      refine lv_goto (tgt := 20) hC.1 hC.2.1 dX3_timesRead_16 (by decide) ?_
      cases hk
      exact tw_iret hC hR hL gv2 rfl rfl dX3_timesRead_20
    · refine lv_iconst (v := tw_I 0) hC.1 hC.2.1 dX3_timesRead_19 rfl ?_
      cases hk
      exact tw_iret hC hR hL ((tw_rgL rfl)) rfl rfl dX3_timesRead_20
set_option maxRecDepth 100000 in
theorem kX3_timesRead {l : Launch} {p : Program} {e : Env} {R : Room} {s : State} {m : MethodId} {args : Array Value} {below : List Frame} {meth : Method} {c : Code} {H : Heap} {locs : List Loc} {cells slots : Nat} {Q : State → Prop} {cc : ByteArray} {pc nL idx : Nat} {ls : Array Slot} {rest : List Value} {G : tw_G} {h : tm_H} {own : String} {ret : Option FieldType} {α : Type} {x : α} {sz : Nat} {this : Nat} {a1 : Int} (hC : tw_C G p s m args meth c own cc nL ret) (hR : tw_Rel G sz h H) (hL : tw_L G locs) {F : Int → Option α} (hk : (fX3_timesRead this a1 h).bind F = some x) (ga1 : tm_rg a1) (hl : tw_mL own idx yX3_timesRead) (hRm : rmX3_timesRead.frames + 1 ≤ R.frames ∧ 8 + (2 + 11) + rmX3_timesRead.locals ≤ R.locals) (hsz : ls.size = nL) (hW : (rest.map fun v => v.category).sum ≤ 8) (hf : cells + 0 ≤ R.cells ∧ slots + 0 ≤ R.slots) (hdg : decode cc pc = .ok (.invokevirtual idx, 3)) (kk : ∀ (r : Int) (H1 : Heap) (locs1 : List Loc), tw_Rel G sz h H1 → tw_L G locs1 → tm_rg r → F r = some x → W p l e R s m args below meth c H1 locs1 (cells + 0) (slots + 0) Q (F0 m (pc + 3) ls (.int (tw_I r) :: rest))) : W p l e R s m args below meth c H locs cells slots Q (F0 m pc ls (.int (tw_I a1) :: .ref this :: rest)) := by
  obtain ⟨r, hr, hF⟩ := Option.bind_eq_some_iff.mp hk
  have ob : ∀ r, fX3_timesRead this a1 h = some r → tm_is h 3 this := fun r hr => by
    unfold fX3_timesRead at hr
    exact (tm_th_is hr).1
  exact tw_backi (tw_runV hC hR (cX3_timesRead_ok l G sz this a1 ga1 h r hr) (n := 1) (As := [.int (tw_I a1)]) ⟨tw_in_TB 737 (by decide +kernel) rfl, tw_in_TB 61 (by decide +kernel) rfl, by decide +kernel⟩ (tw_in_TB 735 (by decide +kernel) rfl) (tw_in_TB 736 (by decide +kernel) rfl) hl ⟨rfl, rfl⟩ hRm (ob r hr) (T := TX3) (N := 9) rfl rfl hsz rfl hW hdg hf) hL (fun H1 locs1 a b g => kk r H1 locs1 a b g hF)
def rmX3_firstPlace : Room := { frames := 0, cells := 0, slots := 0, locals := 0 }
set_option maxRecDepth 100000 in
set_option maxHeartbeats 4000000 in
theorem cX3_firstPlace_ok (l : Launch) (G : tw_G) (sz : Nat) (this : Nat) (a1 : Int) (a2 : Int) (ga1 : tm_rg a1) (ga2 : tm_rg a2) (h : tm_H) (out : Int) (hk : fX3_firstPlace this a1 a2 h = some out) : Met l yX3_firstPlace (tw_WS yX3_firstPlace cX3_firstPlace 3 (some .int)) rmX3_firstPlace (va_Pc [.ref this, .int (tw_I a1), .int (tw_I a2)] (tw_Pre G sz h)) (tw_Qi G sz out h) 0 0 (tw_F G) := by
  refine tw_met (by decide +kernel) (Nat.le_of_ble_eq_true rfl) ?_
  intro p e s m args below meth c H ls hC hnm hR hl
  unfold fX3_firstPlace at hk
  obtain ⟨hob, hk⟩ := tm_th_is hk
  have hl : lv_has ls 3 [(0, .ref this), (1, .int (tw_I a1)), (2, .int (tw_I a2))] := hl
  have hL : tw_L G [] := fun q z => by cases z
  generalize hlc : ([] : List Loc) = locs at hL ⊢
  refine lv_iload_n hC.1 hC.2.1 dX3_firstPlace_0 rfl (lv_at hl 1 rfl) ?_
  refine tw_zlt (tgt := 20) hC hk ga1 dX3_firstPlace_1 (by decide) (fun _ hk => ?_) (fun _ hk => ?_)
  · refine lv_bipush (v := tw_I (-99)) hC.1 hC.2.1 dX3_firstPlace_20 (by decide) ?_
    cases hk
    exact tw_iret hC hR hL ((tw_rgL rfl)) rfl rfl dX3_firstPlace_22
  · refine lv_iload_n hC.1 hC.2.1 dX3_firstPlace_4 rfl (lv_at hl 1 rfl) ?_
    refine lv_bipush (v := tw_I 13) hC.1 hC.2.1 dX3_firstPlace_5 (by decide) ?_
    refine tw_cge (tgt := 20) hC hk ga1 ((tw_rgL rfl)) dX3_firstPlace_7 (by decide) (fun _ hk => ?_) (fun _ hk => ?_)
    · refine lv_iload_n hC.1 hC.2.1 dX3_firstPlace_10 rfl (lv_at hl 2 rfl) ?_
      refine tw_zlt (tgt := 20) hC hk ga2 dX3_firstPlace_11 (by decide) (fun _ hk => ?_) (fun _ hk => ?_)
      · refine lv_bipush (v := tw_I (-99)) hC.1 hC.2.1 dX3_firstPlace_20 (by decide) ?_
        cases hk
        exact tw_iret hC hR hL ((tw_rgL rfl)) rfl rfl dX3_firstPlace_22
      · refine lv_iload_n hC.1 hC.2.1 dX3_firstPlace_14 rfl (lv_at hl 2 rfl) ?_
        refine lv_bipush (v := tw_I 6) hC.1 hC.2.1 dX3_firstPlace_15 (by decide) ?_
        refine tw_clt (tgt := 23) hC hk ga2 ((tw_rgL rfl)) dX3_firstPlace_17 (by decide) (fun _ hk => ?_) (fun _ hk => ?_)
        · refine lv_aload_n hC.1 hC.2.1 dX3_firstPlace_23 rfl (lv_at hl 0 rfl) ?_
          refine tw_getR hC hR hk flX3_23 dX3_firstPlace_24 (fun r1 hk => ?_)
          refine lv_iload_n hC.1 hC.2.1 dX3_firstPlace_27 rfl (lv_at hl 1 rfl) ?_
          refine tw_aald hC hR hk dX3_firstPlace_28 (fun r2 hk => ?_)
          refine lv_iload_n hC.1 hC.2.1 dX3_firstPlace_29 rfl (lv_at hl 2 rfl) ?_
          refine tw_iald hC hR hk dX3_firstPlace_30 (fun v3 gv3 hk => ?_)
          cases hk
          exact tw_iret hC hR hL gv3 rfl rfl dX3_firstPlace_31
        · refine lv_bipush (v := tw_I (-99)) hC.1 hC.2.1 dX3_firstPlace_20 (by decide) ?_
          cases hk
          exact tw_iret hC hR hL ((tw_rgL rfl)) rfl rfl dX3_firstPlace_22
    · refine lv_bipush (v := tw_I (-99)) hC.1 hC.2.1 dX3_firstPlace_20 (by decide) ?_
      cases hk
      exact tw_iret hC hR hL ((tw_rgL rfl)) rfl rfl dX3_firstPlace_22
set_option maxRecDepth 100000 in
theorem kX3_firstPlace {l : Launch} {p : Program} {e : Env} {R : Room} {s : State} {m : MethodId} {args : Array Value} {below : List Frame} {meth : Method} {c : Code} {H : Heap} {locs : List Loc} {cells slots : Nat} {Q : State → Prop} {cc : ByteArray} {pc nL idx : Nat} {ls : Array Slot} {rest : List Value} {G : tw_G} {h : tm_H} {own : String} {ret : Option FieldType} {α : Type} {x : α} {sz : Nat} {this : Nat} {a1 : Int} {a2 : Int} (hC : tw_C G p s m args meth c own cc nL ret) (hR : tw_Rel G sz h H) (hL : tw_L G locs) {F : Int → Option α} (hk : (fX3_firstPlace this a1 a2 h).bind F = some x) (ga1 : tm_rg a1) (ga2 : tm_rg a2) (hl : tw_mL own idx yX3_firstPlace) (hRm : rmX3_firstPlace.frames + 1 ≤ R.frames ∧ 8 + (3 + 11) + rmX3_firstPlace.locals ≤ R.locals) (hsz : ls.size = nL) (hW : (rest.map fun v => v.category).sum ≤ 8) (hf : cells + 0 ≤ R.cells ∧ slots + 0 ≤ R.slots) (hdg : decode cc pc = .ok (.invokevirtual idx, 3)) (kk : ∀ (r : Int) (H1 : Heap) (locs1 : List Loc), tw_Rel G sz h H1 → tw_L G locs1 → tm_rg r → F r = some x → W p l e R s m args below meth c H1 locs1 (cells + 0) (slots + 0) Q (F0 m (pc + 3) ls (.int (tw_I r) :: rest))) : W p l e R s m args below meth c H locs cells slots Q (F0 m pc ls (.int (tw_I a2) :: .int (tw_I a1) :: .ref this :: rest)) := by
  obtain ⟨r, hr, hF⟩ := Option.bind_eq_some_iff.mp hk
  have ob : ∀ r, fX3_firstPlace this a1 a2 h = some r → tm_is h 3 this := fun r hr => by
    unfold fX3_firstPlace at hr
    exact (tm_th_is hr).1
  exact tw_backi (tw_runV hC hR (cX3_firstPlace_ok l G sz this a1 a2 ga1 ga2 h r hr) (n := 2) (As := [.int (tw_I a1), .int (tw_I a2)]) ⟨tw_in_TB 753 (by decide +kernel) rfl, tw_in_TB 61 (by decide +kernel) rfl, by decide +kernel⟩ (tw_in_TB 751 (by decide +kernel) rfl) (tw_in_TB 752 (by decide +kernel) rfl) hl ⟨rfl, rfl⟩ hRm (ob r hr) (T := TX3) (N := 9) rfl rfl hsz rfl hW hdg hf) hL (fun H1 locs1 a b g => kk r H1 locs1 a b g hF)
def rmX3_marksOf : Room := { frames := 0, cells := 0, slots := 0, locals := 0 }
set_option maxRecDepth 100000 in
set_option maxHeartbeats 4000000 in
theorem sX3_marksOf_S0 {l : Launch} {p : Program} {e : Env} {s : State} {m : MethodId} {args : Array Value} {below : List Frame} {meth : Method} {c : Code} (G : tw_G) (sz : Nat) (hC : tw_C G p s m args meth c RX3 cX3_marksOf 4 (some .int)) (this : Nat) (a1 : Int) (ga1 : tm_rg a1) (h : tm_H) : ∀ (k : Nat) (st : (Int × Int) ⊕ (Int × Int)) (out : Int), tm_wit (fX3_marksOf_S0 this a1 h) k st = some out → match st with
    | .inl ((x2, x3)) => ∀ (H : Heap) (locs : List Loc) (ls : Array Slot), tm_rg x2 → tm_rg x3 → tw_Rel G sz h H → tw_L G locs → lv_has ls 4 [(0, .ref this), (1, .int (tw_I a1)), (2, .int (tw_I x2)), (3, .int (tw_I x3))] → W p l e rmX3_marksOf s m args below meth c H locs 0 0 (MQ below (tw_Qi G sz out h) args s 0 0 (tw_F G)) (F0 m 4 ls [])
    | .inr ((x2, x3)) => ∀ (H : Heap) (locs : List Loc) (ls : Array Slot), tm_rg x2 → tm_rg x3 → tw_Rel G sz h H → tw_L G locs → lv_has ls 4 [(0, .ref this), (1, .int (tw_I a1)), (2, .int (tw_I x2)), (3, .int (tw_I x3))] → W p l e rmX3_marksOf s m args below meth c H locs 0 0 (MQ below (tw_Qi G sz out h) args s 0 0 (tw_F G)) (F0 m 25 ls []) := by
  intro k
  induction k with
  | zero =>
    intro st out hk
    exact absurd hk (by unfold tm_wit; exact fun z => by cases z)
  | succ k ih =>
    intro st out hk
    obtain ⟨X, hk, hf⟩ := tm_wit_succ hk
    obtain ⟨x2, x3⟩ | ⟨x2, x3⟩ := st
    · intro H locs ls gx2 gx3 hR hL hl
      dsimp only [fX3_marksOf_S0] at hk
      refine lv_iload_n hC.1 hC.2.1 dX3_marksOf_4 rfl (lv_at hl 3 rfl) ?_
      refine lv_aload_n hC.1 hC.2.1 dX3_marksOf_5 rfl (lv_at hl 0 rfl) ?_
      refine tw_getI hC hR hk flX3_39 dX3_marksOf_6 (fun v1 gv1 hk => ?_)
      refine tw_cge (tgt := 31) hC hk gx3 gv1 dX3_marksOf_9 (by decide) (fun _ hk => ?_) (fun _ hk => ?_)
      · refine lv_aload_n hC.1 hC.2.1 dX3_marksOf_12 rfl (lv_at hl 0 rfl) ?_
        refine tw_getR hC hR hk flX3_36 dX3_marksOf_13 (fun r2 hk => ?_)
        refine lv_iload_n hC.1 hC.2.1 dX3_marksOf_16 rfl (lv_at hl 3 rfl) ?_
        refine tw_iald hC hR hk dX3_marksOf_17 (fun v3 gv3 hk => ?_)
        refine lv_iload_n hC.1 hC.2.1 dX3_marksOf_18 rfl (lv_at hl 1 rfl) ?_
        refine tw_cne (tgt := 25) hC hk gv3 ga1 dX3_marksOf_19 (by decide) (fun _ hk => ?_) (fun _ hk => ?_)
        · refine tw_iinc (lv' := [(2, .int (tw_I (tm_wr (x2 + 1)))), (0, .ref this), (1, .int (tw_I a1)), (3, .int (tw_I x3))]) hC dX3_marksOf_22 hl (k := 2) rfl (by decide) rfl (fun ls hl => ?_)
          cases hk
          exact ih _ out hf H locs _ ((tm_wr_rg _)) gx3 hR hL (lv_sub hl [1, 2, 0, 3] rfl)
        · cases hk
          exact ih _ out hf H locs _ gx2 gx3 hR hL (lv_sub hl [0, 1, 2, 3] rfl)
      · refine lv_iload_n hC.1 hC.2.1 dX3_marksOf_31 rfl (lv_at hl 2 rfl) ?_
        cases hk
        cases hf
        exact tw_iret hC hR hL gx2 rfl rfl dX3_marksOf_32
    · intro H locs ls gx2 gx3 hR hL hl
      dsimp only [fX3_marksOf_S0] at hk
      refine tw_iinc (lv' := [(3, .int (tw_I (tm_wr (x3 + 1)))), (0, .ref this), (1, .int (tw_I a1)), (2, .int (tw_I x2))]) hC dX3_marksOf_25 hl (k := 3) rfl (by decide) rfl (fun ls hl => ?_)
      refine lv_goto (tgt := 4) hC.1 hC.2.1 dX3_marksOf_28 (by decide) ?_
      cases hk
      exact ih _ out hf H locs _ gx2 ((tm_wr_rg _)) hR hL (lv_sub hl [1, 2, 3, 0] rfl)
theorem sX3_marksOf_L4 {l : Launch} {p : Program} {e : Env} {s : State} {m : MethodId} {args : Array Value} {below : List Frame} {meth : Method} {c : Code} (G : tw_G) (sz : Nat) (hC : tw_C G p s m args meth c RX3 cX3_marksOf 4 (some .int)) (this : Nat) (a1 : Int) (ga1 : tm_rg a1) (h : tm_H) (x2 : Int) (x3 : Int) (gx2 : tm_rg x2) (gx3 : tm_rg x3) (out : Int) (hk : fX3_marksOf_L4 this a1 h x2 x3 = some out) (H : Heap) (locs : List Loc) (ls : Array Slot) (hR : tw_Rel G sz h H) (hL : tw_L G locs) (hl : lv_has ls 4 [(0, .ref this), (1, .int (tw_I a1)), (2, .int (tw_I x2)), (3, .int (tw_I x3))]) : W p l e rmX3_marksOf s m args below meth c H locs 0 0 (MQ below (tw_Qi G sz out h) args s 0 0 (tw_F G)) (F0 m 4 ls []) := by
  obtain ⟨k, hk⟩ := tm_wl_iff.mp hk
  exact sX3_marksOf_S0 G sz hC this a1 ga1 h k (.inl ((x2, x3))) out hk H locs ls gx2 gx3 hR hL hl
theorem sX3_marksOf_L25 {l : Launch} {p : Program} {e : Env} {s : State} {m : MethodId} {args : Array Value} {below : List Frame} {meth : Method} {c : Code} (G : tw_G) (sz : Nat) (hC : tw_C G p s m args meth c RX3 cX3_marksOf 4 (some .int)) (this : Nat) (a1 : Int) (ga1 : tm_rg a1) (h : tm_H) (x2 : Int) (x3 : Int) (gx2 : tm_rg x2) (gx3 : tm_rg x3) (out : Int) (hk : fX3_marksOf_L25 this a1 h x2 x3 = some out) (H : Heap) (locs : List Loc) (ls : Array Slot) (hR : tw_Rel G sz h H) (hL : tw_L G locs) (hl : lv_has ls 4 [(0, .ref this), (1, .int (tw_I a1)), (2, .int (tw_I x2)), (3, .int (tw_I x3))]) : W p l e rmX3_marksOf s m args below meth c H locs 0 0 (MQ below (tw_Qi G sz out h) args s 0 0 (tw_F G)) (F0 m 25 ls []) := by
  obtain ⟨k, hk⟩ := tm_wl_iff.mp hk
  exact sX3_marksOf_S0 G sz hC this a1 ga1 h k (.inr ((x2, x3))) out hk H locs ls gx2 gx3 hR hL hl
set_option maxRecDepth 100000 in
set_option maxHeartbeats 4000000 in
theorem cX3_marksOf_ok (l : Launch) (G : tw_G) (sz : Nat) (this : Nat) (a1 : Int) (ga1 : tm_rg a1) (h : tm_H) (out : Int) (hk : fX3_marksOf this a1 h = some out) : Met l yX3_marksOf (tw_WS yX3_marksOf cX3_marksOf 4 (some .int)) rmX3_marksOf (va_Pc [.ref this, .int (tw_I a1)] (tw_Pre G sz h)) (tw_Qi G sz out h) 0 0 (tw_F G) := by
  refine tw_met (by decide +kernel) (Nat.le_of_ble_eq_true rfl) ?_
  intro p e s m args below meth c H ls hC hnm hR hl
  unfold fX3_marksOf at hk
  obtain ⟨hob, hk⟩ := tm_th_is hk
  have hl : lv_has ls 4 [(0, .ref this), (1, .int (tw_I a1))] := hl
  have hL : tw_L G [] := fun q z => by cases z
  generalize hlc : ([] : List Loc) = locs at hL ⊢
  refine lv_iconst (v := tw_I 0) hC.1 hC.2.1 dX3_marksOf_0 rfl ?_
  refine lv_istore_n (lv' := [(2, .int (tw_I 0)), (0, .ref this), (1, .int (tw_I a1))]) hC.1 hC.2.1 dX3_marksOf_1 rfl hl (by decide) rfl (fun ls hl => ?_)
  refine lv_iconst (v := tw_I 0) hC.1 hC.2.1 dX3_marksOf_2 rfl ?_
  refine lv_istore_n (lv' := [(3, .int (tw_I 0)), (2, .int (tw_I 0)), (0, .ref this), (1, .int (tw_I a1))]) hC.1 hC.2.1 dX3_marksOf_3 rfl hl (by decide) rfl (fun ls hl => ?_)
  exact sX3_marksOf_L4 G sz hC this a1 ga1 h 0 0 ((tw_rgL rfl)) ((tw_rgL rfl)) out hk H locs _ hR hL (lv_sub hl [2, 3, 1, 0] rfl)
set_option maxRecDepth 100000 in
theorem kX3_marksOf {l : Launch} {p : Program} {e : Env} {R : Room} {s : State} {m : MethodId} {args : Array Value} {below : List Frame} {meth : Method} {c : Code} {H : Heap} {locs : List Loc} {cells slots : Nat} {Q : State → Prop} {cc : ByteArray} {pc nL idx : Nat} {ls : Array Slot} {rest : List Value} {G : tw_G} {h : tm_H} {own : String} {ret : Option FieldType} {α : Type} {x : α} {sz : Nat} {this : Nat} {a1 : Int} (hC : tw_C G p s m args meth c own cc nL ret) (hR : tw_Rel G sz h H) (hL : tw_L G locs) {F : Int → Option α} (hk : (fX3_marksOf this a1 h).bind F = some x) (ga1 : tm_rg a1) (hl : tw_mL own idx yX3_marksOf) (hRm : rmX3_marksOf.frames + 1 ≤ R.frames ∧ 8 + (4 + 11) + rmX3_marksOf.locals ≤ R.locals) (hsz : ls.size = nL) (hW : (rest.map fun v => v.category).sum ≤ 8) (hf : cells + 0 ≤ R.cells ∧ slots + 0 ≤ R.slots) (hdg : decode cc pc = .ok (.invokevirtual idx, 3)) (kk : ∀ (r : Int) (H1 : Heap) (locs1 : List Loc), tw_Rel G sz h H1 → tw_L G locs1 → tm_rg r → F r = some x → W p l e R s m args below meth c H1 locs1 (cells + 0) (slots + 0) Q (F0 m (pc + 3) ls (.int (tw_I r) :: rest))) : W p l e R s m args below meth c H locs cells slots Q (F0 m pc ls (.int (tw_I a1) :: .ref this :: rest)) := by
  obtain ⟨r, hr, hF⟩ := Option.bind_eq_some_iff.mp hk
  have ob : ∀ r, fX3_marksOf this a1 h = some r → tm_is h 3 this := fun r hr => by
    unfold fX3_marksOf at hr
    exact (tm_th_is hr).1
  exact tw_backi (tw_runV hC hR (cX3_marksOf_ok l G sz this a1 ga1 h r hr) (n := 1) (As := [.int (tw_I a1)]) ⟨tw_in_TB 745 (by decide +kernel) rfl, tw_in_TB 61 (by decide +kernel) rfl, by decide +kernel⟩ (tw_in_TB 743 (by decide +kernel) rfl) (tw_in_TB 744 (by decide +kernel) rfl) hl ⟨rfl, rfl⟩ hRm (ob r hr) (T := TX3) (N := 9) rfl rfl hsz rfl hW hdg hf) hL (fun H1 locs1 a b g => kk r H1 locs1 a b g hF)
def rmX3_markPart : Room := { frames := 0, cells := 0, slots := 0, locals := 0 }
set_option maxRecDepth 100000 in
set_option maxHeartbeats 4000000 in
theorem cX3_markPart_ok (l : Launch) (G : tw_G) (sz : Nat) (this : Nat) (a1 : Int) (a2 : Int) (ga1 : tm_rg a1) (ga2 : tm_rg a2) (h : tm_H) (out : Int) (hk : fX3_markPart this a1 a2 h = some out) : Met l yX3_markPart (tw_WS yX3_markPart cX3_markPart 3 (some .int)) rmX3_markPart (va_Pc [.ref this, .int (tw_I a1), .int (tw_I a2)] (tw_Pre G sz h)) (tw_Qi G sz out h) 0 0 (tw_F G) := by
  refine tw_met (by decide +kernel) (Nat.le_of_ble_eq_true rfl) ?_
  intro p e s m args below meth c H ls hC hnm hR hl
  unfold fX3_markPart at hk
  obtain ⟨hob, hk⟩ := tm_th_is hk
  have hl : lv_has ls 3 [(0, .ref this), (1, .int (tw_I a1)), (2, .int (tw_I a2))] := hl
  have hL : tw_L G [] := fun q z => by cases z
  generalize hlc : ([] : List Loc) = locs at hL ⊢
  refine lv_iload_n hC.1 hC.2.1 dX3_markPart_0 rfl (lv_at hl 1 rfl) ?_
  refine tw_zlt (tgt := 12) hC hk ga1 dX3_markPart_1 (by decide) (fun _ hk => ?_) (fun _ hk => ?_)
  · refine lv_bipush (v := tw_I (-99)) hC.1 hC.2.1 dX3_markPart_12 (by decide) ?_
    cases hk
    exact tw_iret hC hR hL ((tw_rgL rfl)) rfl rfl dX3_markPart_14
  · refine lv_iload_n hC.1 hC.2.1 dX3_markPart_4 rfl (lv_at hl 1 rfl) ?_
    refine lv_aload_n hC.1 hC.2.1 dX3_markPart_5 rfl (lv_at hl 0 rfl) ?_
    refine tw_getI hC hR hk flX3_39 dX3_markPart_6 (fun v1 gv1 hk => ?_)
    refine tw_clt (tgt := 15) hC hk ga1 gv1 dX3_markPart_9 (by decide) (fun _ hk => ?_) (fun _ hk => ?_)
    · refine lv_iload_n hC.1 hC.2.1 dX3_markPart_15 rfl (lv_at hl 2 rfl) ?_
      by_cases q4 : a2 = 0
      · rw [if_pos q4] at hk
        refine tw_tsIn (tgt := 44) hC 0 q4 (tw_rgL rfl) dX3_markPart_16 (by decide) (by decide) rfl (by decide) ?_
        refine lv_aload_n hC.1 hC.2.1 dX3_markPart_44 rfl (lv_at hl 0 rfl) ?_
        refine tw_getR hC hR hk flX3_30 dX3_markPart_45 (fun r2 hk => ?_)
        refine lv_iload_n hC.1 hC.2.1 dX3_markPart_48 rfl (lv_at hl 1 rfl) ?_
        refine tw_iald hC hR hk dX3_markPart_49 (fun v3 gv3 hk => ?_)
        cases hk
        exact tw_iret hC hR hL gv3 rfl rfl dX3_markPart_50
      · rw [if_neg q4] at hk
        by_cases q7 : a2 = 1
        · rw [if_pos q7] at hk
          refine tw_tsIn (tgt := 51) hC 1 q7 (tw_rgL rfl) dX3_markPart_16 (by decide) (by decide) rfl (by decide) ?_
          refine lv_aload_n hC.1 hC.2.1 dX3_markPart_51 rfl (lv_at hl 0 rfl) ?_
          refine tw_getR hC hR hk flX3_33 dX3_markPart_52 (fun r5 hk => ?_)
          refine lv_iload_n hC.1 hC.2.1 dX3_markPart_55 rfl (lv_at hl 1 rfl) ?_
          refine tw_iald hC hR hk dX3_markPart_56 (fun v6 gv6 hk => ?_)
          cases hk
          exact tw_iret hC hR hL gv6 rfl rfl dX3_markPart_57
        · rw [if_neg q7] at hk
          by_cases q10 : a2 = 2
          · rw [if_pos q10] at hk
            refine tw_tsIn (tgt := 58) hC 2 q10 (tw_rgL rfl) dX3_markPart_16 (by decide) (by decide) rfl (by decide) ?_
            refine lv_aload_n hC.1 hC.2.1 dX3_markPart_58 rfl (lv_at hl 0 rfl) ?_
            refine tw_getR hC hR hk flX3_36 dX3_markPart_59 (fun r8 hk => ?_)
            refine lv_iload_n hC.1 hC.2.1 dX3_markPart_62 rfl (lv_at hl 1 rfl) ?_
            refine tw_iald hC hR hk dX3_markPart_63 (fun v9 gv9 hk => ?_)
            cases hk
            exact tw_iret hC hR hL gv9 rfl rfl dX3_markPart_64
          · rw [if_neg q10] at hk
            refine tw_tsOut (tgt := 65) hC ga2 dX3_markPart_16 (by omega) (by decide) ?_
            refine lv_bipush (v := tw_I (-99)) hC.1 hC.2.1 dX3_markPart_65 (by decide) ?_
            cases hk
            exact tw_iret hC hR hL ((tw_rgL rfl)) rfl rfl dX3_markPart_67
    · refine lv_bipush (v := tw_I (-99)) hC.1 hC.2.1 dX3_markPart_12 (by decide) ?_
      cases hk
      exact tw_iret hC hR hL ((tw_rgL rfl)) rfl rfl dX3_markPart_14
set_option maxRecDepth 100000 in
theorem kX3_markPart {l : Launch} {p : Program} {e : Env} {R : Room} {s : State} {m : MethodId} {args : Array Value} {below : List Frame} {meth : Method} {c : Code} {H : Heap} {locs : List Loc} {cells slots : Nat} {Q : State → Prop} {cc : ByteArray} {pc nL idx : Nat} {ls : Array Slot} {rest : List Value} {G : tw_G} {h : tm_H} {own : String} {ret : Option FieldType} {α : Type} {x : α} {sz : Nat} {this : Nat} {a1 : Int} {a2 : Int} (hC : tw_C G p s m args meth c own cc nL ret) (hR : tw_Rel G sz h H) (hL : tw_L G locs) {F : Int → Option α} (hk : (fX3_markPart this a1 a2 h).bind F = some x) (ga1 : tm_rg a1) (ga2 : tm_rg a2) (hl : tw_mL own idx yX3_markPart) (hRm : rmX3_markPart.frames + 1 ≤ R.frames ∧ 8 + (3 + 11) + rmX3_markPart.locals ≤ R.locals) (hsz : ls.size = nL) (hW : (rest.map fun v => v.category).sum ≤ 8) (hf : cells + 0 ≤ R.cells ∧ slots + 0 ≤ R.slots) (hdg : decode cc pc = .ok (.invokevirtual idx, 3)) (kk : ∀ (r : Int) (H1 : Heap) (locs1 : List Loc), tw_Rel G sz h H1 → tw_L G locs1 → tm_rg r → F r = some x → W p l e R s m args below meth c H1 locs1 (cells + 0) (slots + 0) Q (F0 m (pc + 3) ls (.int (tw_I r) :: rest))) : W p l e R s m args below meth c H locs cells slots Q (F0 m pc ls (.int (tw_I a2) :: .int (tw_I a1) :: .ref this :: rest)) := by
  obtain ⟨r, hr, hF⟩ := Option.bind_eq_some_iff.mp hk
  have ob : ∀ r, fX3_markPart this a1 a2 h = some r → tm_is h 3 this := fun r hr => by
    unfold fX3_markPart at hr
    exact (tm_th_is hr).1
  exact tw_backi (tw_runV hC hR (cX3_markPart_ok l G sz this a1 a2 ga1 ga2 h r hr) (n := 2) (As := [.int (tw_I a1), .int (tw_I a2)]) ⟨tw_in_TB 761 (by decide +kernel) rfl, tw_in_TB 61 (by decide +kernel) rfl, by decide +kernel⟩ (tw_in_TB 759 (by decide +kernel) rfl) (tw_in_TB 760 (by decide +kernel) rfl) hl ⟨rfl, rfl⟩ hRm (ob r hr) (T := TX3) (N := 9) rfl rfl hsz rfl hW hdg hf) hL (fun H1 locs1 a b g => kk r H1 locs1 a b g hF)
def rmX4_hasSlot : Room := { frames := 0, cells := 0, slots := 0, locals := 0 }
set_option maxRecDepth 100000 in
set_option maxHeartbeats 4000000 in
theorem cX4_hasSlot_ok (l : Launch) (G : tw_G) (sz : Nat) (this : Nat) (a1 : Int) (ga1 : tm_rg a1) (h : tm_H) (out : Int) (hk : fX4_hasSlot this a1 h = some out) : Met l yX4_hasSlot (tw_WS yX4_hasSlot cX4_hasSlot 2 (some .boolean)) rmX4_hasSlot (va_Pc [.ref this, .int (tw_I a1)] (tw_Pre G sz h)) (tw_Qi G sz out h) 0 0 (tw_F G) := by
  refine tw_met (by decide +kernel) (Nat.le_of_ble_eq_true rfl) ?_
  intro p e s m args below meth c H ls hC hnm hR hl
  unfold fX4_hasSlot at hk
  obtain ⟨hob, hk⟩ := tm_th_is hk
  have hl : lv_has ls 2 [(0, .ref this), (1, .int (tw_I a1))] := hl
  have hL : tw_L G [] := fun q z => by cases z
  generalize hlc : ([] : List Loc) = locs at hL ⊢
  refine lv_iload_n hC.1 hC.2.1 dX4_hasSlot_0 rfl (lv_at hl 1 rfl) ?_
  refine tw_zlt (tgt := 13) hC hk ga1 dX4_hasSlot_1 (by decide) (fun _ hk => ?_) (fun _ hk => ?_)
  · refine lv_iconst (v := tw_I 0) hC.1 hC.2.1 dX4_hasSlot_13 rfl ?_
    cases hk
    exact tw_zret hC hR hL rfl rfl dX4_hasSlot_14
  · refine lv_iload_n hC.1 hC.2.1 dX4_hasSlot_4 rfl (lv_at hl 1 rfl) ?_
    refine lv_iconst (v := tw_I 2) hC.1 hC.2.1 dX4_hasSlot_5 rfl ?_
    refine tw_cge (tgt := 13) hC hk ga1 ((tw_rgL rfl)) dX4_hasSlot_6 (by decide) (fun _ hk => ?_) (fun _ hk => ?_)
    · refine lv_iconst (v := tw_I 1) hC.1 hC.2.1 dX4_hasSlot_9 rfl ?_
      refine lv_goto (tgt := 14) hC.1 hC.2.1 dX4_hasSlot_10 (by decide) ?_
      cases hk
      exact tw_zret hC hR hL rfl rfl dX4_hasSlot_14
    · refine lv_iconst (v := tw_I 0) hC.1 hC.2.1 dX4_hasSlot_13 rfl ?_
      cases hk
      exact tw_zret hC hR hL rfl rfl dX4_hasSlot_14
set_option maxRecDepth 100000 in
theorem kX4_hasSlot {l : Launch} {p : Program} {e : Env} {R : Room} {s : State} {m : MethodId} {args : Array Value} {below : List Frame} {meth : Method} {c : Code} {H : Heap} {locs : List Loc} {cells slots : Nat} {Q : State → Prop} {cc : ByteArray} {pc nL idx : Nat} {ls : Array Slot} {rest : List Value} {G : tw_G} {h : tm_H} {own : String} {ret : Option FieldType} {α : Type} {x : α} {sz : Nat} {this : Nat} {a1 : Int} (hC : tw_C G p s m args meth c own cc nL ret) (hR : tw_Rel G sz h H) (hL : tw_L G locs) {F : Int → Option α} (hk : (fX4_hasSlot this a1 h).bind F = some x) (ga1 : tm_rg a1) (hl : tw_mL own idx yX4_hasSlot) (hRm : rmX4_hasSlot.frames + 1 ≤ R.frames ∧ 8 + (2 + 11) + rmX4_hasSlot.locals ≤ R.locals) (hsz : ls.size = nL) (hW : (rest.map fun v => v.category).sum ≤ 8) (hf : cells + 0 ≤ R.cells ∧ slots + 0 ≤ R.slots) (hdg : decode cc pc = .ok (.invokevirtual idx, 3)) (kk : ∀ (r : Int) (H1 : Heap) (locs1 : List Loc), tw_Rel G sz h H1 → tw_L G locs1 → tm_rg r → F r = some x → W p l e R s m args below meth c H1 locs1 (cells + 0) (slots + 0) Q (F0 m (pc + 3) ls (.int (tw_I r) :: rest))) : W p l e R s m args below meth c H locs cells slots Q (F0 m pc ls (.int (tw_I a1) :: .ref this :: rest)) := by
  obtain ⟨r, hr, hF⟩ := Option.bind_eq_some_iff.mp hk
  have ob : ∀ r, fX4_hasSlot this a1 h = some r → tm_is h 4 this := fun r hr => by
    unfold fX4_hasSlot at hr
    exact (tm_th_is hr).1
  exact tw_backi (tw_runV hC hR (cX4_hasSlot_ok l G sz this a1 ga1 h r hr) (n := 1) (As := [.int (tw_I a1)]) ⟨tw_in_TB 494 (by decide +kernel) rfl, tw_in_TB 54 (by decide +kernel) rfl, by decide +kernel⟩ (tw_in_TB 492 (by decide +kernel) rfl) (tw_in_TB 493 (by decide +kernel) rfl) hl ⟨rfl, rfl⟩ hRm (ob r hr) (T := TX4) (N := 5) rfl rfl hsz rfl hW hdg hf) hL (fun H1 locs1 a b g => kk r H1 locs1 a b g hF)
def rmX4_isTaken : Room := { frames := 1, cells := 0, slots := 0, locals := 21 }
set_option maxRecDepth 100000 in
set_option maxHeartbeats 4000000 in
theorem cX4_isTaken_ok (l : Launch) (G : tw_G) (sz : Nat) (this : Nat) (a1 : Int) (ga1 : tm_rg a1) (h : tm_H) (out : Int) (hk : fX4_isTaken this a1 h = some out) : Met l yX4_isTaken (tw_WS yX4_isTaken cX4_isTaken 2 (some .boolean)) rmX4_isTaken (va_Pc [.ref this, .int (tw_I a1)] (tw_Pre G sz h)) (tw_Qi G sz out h) 0 0 (tw_F G) := by
  refine tw_met (by decide +kernel) (Nat.le_of_ble_eq_true rfl) ?_
  intro p e s m args below meth c H ls hC hnm hR hl
  unfold fX4_isTaken at hk
  obtain ⟨hob, hk⟩ := tm_th_is hk
  have hl : lv_has ls 2 [(0, .ref this), (1, .int (tw_I a1))] := hl
  have hL : tw_L G [] := fun q z => by cases z
  generalize hlc : ([] : List Loc) = locs at hL ⊢
  refine lv_aload_n hC.1 hC.2.1 dX4_isTaken_0 rfl (lv_at hl 0 rfl) ?_
  refine lv_iload_n hC.1 hC.2.1 dX4_isTaken_1 rfl (lv_at hl 1 rfl) ?_
  refine kX4_hasSlot hC hR hL hk ga1 mlX4_40 ⟨by decide, by decide⟩ hl.1 (Nat.le_of_ble_eq_true rfl) ⟨Nat.zero_le _, Nat.zero_le _⟩ dX4_isTaken_2 (fun v1 H locs hR hL gv1 hk => ?_)
  refine tw_zeq (tgt := 21) hC hk gv1 dX4_isTaken_5 (by decide) (fun _ hk => ?_) (fun _ hk => ?_)
  · refine lv_iconst (v := tw_I 0) hC.1 hC.2.1 dX4_isTaken_21 rfl ?_
    cases hk
    exact tw_zret hC hR hL rfl rfl dX4_isTaken_22
  · refine lv_aload_n hC.1 hC.2.1 dX4_isTaken_8 rfl (lv_at hl 0 rfl) ?_
    refine tw_getR hC hR hk flX4_36 dX4_isTaken_9 (fun r2 hk => ?_)
    refine lv_iload_n hC.1 hC.2.1 dX4_isTaken_12 rfl (lv_at hl 1 rfl) ?_
    refine tw_zald hC hR hk dX4_isTaken_13 (fun v3 gv3 hk => ?_)
    refine tw_zeq (tgt := 21) hC hk gv3 dX4_isTaken_14 (by decide) (fun _ hk => ?_) (fun _ hk => ?_)
    · refine lv_iconst (v := tw_I 0) hC.1 hC.2.1 dX4_isTaken_21 rfl ?_
      cases hk
      exact tw_zret hC hR hL rfl rfl dX4_isTaken_22
    · refine lv_iconst (v := tw_I 1) hC.1 hC.2.1 dX4_isTaken_17 rfl ?_
      refine lv_goto (tgt := 22) hC.1 hC.2.1 dX4_isTaken_18 (by decide) ?_
      cases hk
      exact tw_zret hC hR hL rfl rfl dX4_isTaken_22
set_option maxRecDepth 100000 in
theorem kX4_isTaken {l : Launch} {p : Program} {e : Env} {R : Room} {s : State} {m : MethodId} {args : Array Value} {below : List Frame} {meth : Method} {c : Code} {H : Heap} {locs : List Loc} {cells slots : Nat} {Q : State → Prop} {cc : ByteArray} {pc nL idx : Nat} {ls : Array Slot} {rest : List Value} {G : tw_G} {h : tm_H} {own : String} {ret : Option FieldType} {α : Type} {x : α} {sz : Nat} {this : Nat} {a1 : Int} (hC : tw_C G p s m args meth c own cc nL ret) (hR : tw_Rel G sz h H) (hL : tw_L G locs) {F : Int → Option α} (hk : (fX4_isTaken this a1 h).bind F = some x) (ga1 : tm_rg a1) (hl : tw_mL own idx yX4_isTaken) (hRm : rmX4_isTaken.frames + 1 ≤ R.frames ∧ 8 + (2 + 11) + rmX4_isTaken.locals ≤ R.locals) (hsz : ls.size = nL) (hW : (rest.map fun v => v.category).sum ≤ 8) (hf : cells + 0 ≤ R.cells ∧ slots + 0 ≤ R.slots) (hdg : decode cc pc = .ok (.invokevirtual idx, 3)) (kk : ∀ (r : Int) (H1 : Heap) (locs1 : List Loc), tw_Rel G sz h H1 → tw_L G locs1 → tm_rg r → F r = some x → W p l e R s m args below meth c H1 locs1 (cells + 0) (slots + 0) Q (F0 m (pc + 3) ls (.int (tw_I r) :: rest))) : W p l e R s m args below meth c H locs cells slots Q (F0 m pc ls (.int (tw_I a1) :: .ref this :: rest)) := by
  obtain ⟨r, hr, hF⟩ := Option.bind_eq_some_iff.mp hk
  have ob : ∀ r, fX4_isTaken this a1 h = some r → tm_is h 4 this := fun r hr => by
    unfold fX4_isTaken at hr
    exact (tm_th_is hr).1
  exact tw_backi (tw_runV hC hR (cX4_isTaken_ok l G sz this a1 ga1 h r hr) (n := 1) (As := [.int (tw_I a1)]) ⟨tw_in_TB 511 (by decide +kernel) rfl, tw_in_TB 54 (by decide +kernel) rfl, by decide +kernel⟩ (tw_in_TB 509 (by decide +kernel) rfl) (tw_in_TB 510 (by decide +kernel) rfl) hl ⟨rfl, rfl⟩ hRm (ob r hr) (T := TX4) (N := 5) rfl rfl hsz rfl hW hdg hf) hL (fun H1 locs1 a b g => kk r H1 locs1 a b g hF)
def rmX4_takenCount : Room := { frames := 0, cells := 0, slots := 0, locals := 0 }
set_option maxRecDepth 100000 in
set_option maxHeartbeats 4000000 in
theorem sX4_takenCount_S0 {l : Launch} {p : Program} {e : Env} {s : State} {m : MethodId} {args : Array Value} {below : List Frame} {meth : Method} {c : Code} (G : tw_G) (sz : Nat) (hC : tw_C G p s m args meth c RX4 cX4_takenCount 3 (some .int)) (this : Nat)  (h : tm_H) : ∀ (k : Nat) (st : (Int × Int) ⊕ (Int × Int)) (out : Int), tm_wit (fX4_takenCount_S0 this h) k st = some out → match st with
    | .inl ((x1, x2)) => ∀ (H : Heap) (locs : List Loc) (ls : Array Slot), tm_rg x1 → tm_rg x2 → tw_Rel G sz h H → tw_L G locs → lv_has ls 3 [(0, .ref this), (1, .int (tw_I x1)), (2, .int (tw_I x2))] → W p l e rmX4_takenCount s m args below meth c H locs 0 0 (MQ below (tw_Qi G sz out h) args s 0 0 (tw_F G)) (F0 m 4 ls [])
    | .inr ((x1, x2)) => ∀ (H : Heap) (locs : List Loc) (ls : Array Slot), tm_rg x1 → tm_rg x2 → tw_Rel G sz h H → tw_L G locs → lv_has ls 3 [(0, .ref this), (1, .int (tw_I x1)), (2, .int (tw_I x2))] → W p l e rmX4_takenCount s m args below meth c H locs 0 0 (MQ below (tw_Qi G sz out h) args s 0 0 (tw_F G)) (F0 m 21 ls []) := by
  intro k
  induction k with
  | zero =>
    intro st out hk
    exact absurd hk (by unfold tm_wit; exact fun z => by cases z)
  | succ k ih =>
    intro st out hk
    obtain ⟨X, hk, hf⟩ := tm_wit_succ hk
    obtain ⟨x1, x2⟩ | ⟨x1, x2⟩ := st
    · intro H locs ls gx1 gx2 hR hL hl
      dsimp only [fX4_takenCount_S0] at hk
      refine lv_iload_n hC.1 hC.2.1 dX4_takenCount_4 rfl (lv_at hl 2 rfl) ?_
      refine lv_iconst (v := tw_I 2) hC.1 hC.2.1 dX4_takenCount_5 rfl ?_
      refine tw_cge (tgt := 27) hC hk gx2 ((tw_rgL rfl)) dX4_takenCount_6 (by decide) (fun _ hk => ?_) (fun _ hk => ?_)
      · refine lv_aload_n hC.1 hC.2.1 dX4_takenCount_9 rfl (lv_at hl 0 rfl) ?_
        refine tw_getR hC hR hk flX4_36 dX4_takenCount_10 (fun r1 hk => ?_)
        refine lv_iload_n hC.1 hC.2.1 dX4_takenCount_13 rfl (lv_at hl 2 rfl) ?_
        refine tw_zald hC hR hk dX4_takenCount_14 (fun v2 gv2 hk => ?_)
        refine tw_zeq (tgt := 21) hC hk gv2 dX4_takenCount_15 (by decide) (fun _ hk => ?_) (fun _ hk => ?_)
        · cases hk
          exact ih _ out hf H locs _ gx1 gx2 hR hL (lv_sub hl [0, 1, 2] rfl)
        · refine tw_iinc (lv' := [(1, .int (tw_I (tm_wr (x1 + 1)))), (0, .ref this), (2, .int (tw_I x2))]) hC dX4_takenCount_18 hl (k := 1) rfl (by decide) rfl (fun ls hl => ?_)
          cases hk
          exact ih _ out hf H locs _ ((tm_wr_rg _)) gx2 hR hL (lv_sub hl [1, 0, 2] rfl)
      · refine lv_iload_n hC.1 hC.2.1 dX4_takenCount_27 rfl (lv_at hl 1 rfl) ?_
        cases hk
        cases hf
        exact tw_iret hC hR hL gx1 rfl rfl dX4_takenCount_28
    · intro H locs ls gx1 gx2 hR hL hl
      dsimp only [fX4_takenCount_S0] at hk
      refine tw_iinc (lv' := [(2, .int (tw_I (tm_wr (x2 + 1)))), (0, .ref this), (1, .int (tw_I x1))]) hC dX4_takenCount_21 hl (k := 2) rfl (by decide) rfl (fun ls hl => ?_)
      refine lv_goto (tgt := 4) hC.1 hC.2.1 dX4_takenCount_24 (by decide) ?_
      cases hk
      exact ih _ out hf H locs _ gx1 ((tm_wr_rg _)) hR hL (lv_sub hl [1, 2, 0] rfl)
theorem sX4_takenCount_L4 {l : Launch} {p : Program} {e : Env} {s : State} {m : MethodId} {args : Array Value} {below : List Frame} {meth : Method} {c : Code} (G : tw_G) (sz : Nat) (hC : tw_C G p s m args meth c RX4 cX4_takenCount 3 (some .int)) (this : Nat)  (h : tm_H) (x1 : Int) (x2 : Int) (gx1 : tm_rg x1) (gx2 : tm_rg x2) (out : Int) (hk : fX4_takenCount_L4 this h x1 x2 = some out) (H : Heap) (locs : List Loc) (ls : Array Slot) (hR : tw_Rel G sz h H) (hL : tw_L G locs) (hl : lv_has ls 3 [(0, .ref this), (1, .int (tw_I x1)), (2, .int (tw_I x2))]) : W p l e rmX4_takenCount s m args below meth c H locs 0 0 (MQ below (tw_Qi G sz out h) args s 0 0 (tw_F G)) (F0 m 4 ls []) := by
  obtain ⟨k, hk⟩ := tm_wl_iff.mp hk
  exact sX4_takenCount_S0 G sz hC this  h k (.inl ((x1, x2))) out hk H locs ls gx1 gx2 hR hL hl
theorem sX4_takenCount_L21 {l : Launch} {p : Program} {e : Env} {s : State} {m : MethodId} {args : Array Value} {below : List Frame} {meth : Method} {c : Code} (G : tw_G) (sz : Nat) (hC : tw_C G p s m args meth c RX4 cX4_takenCount 3 (some .int)) (this : Nat)  (h : tm_H) (x1 : Int) (x2 : Int) (gx1 : tm_rg x1) (gx2 : tm_rg x2) (out : Int) (hk : fX4_takenCount_L21 this h x1 x2 = some out) (H : Heap) (locs : List Loc) (ls : Array Slot) (hR : tw_Rel G sz h H) (hL : tw_L G locs) (hl : lv_has ls 3 [(0, .ref this), (1, .int (tw_I x1)), (2, .int (tw_I x2))]) : W p l e rmX4_takenCount s m args below meth c H locs 0 0 (MQ below (tw_Qi G sz out h) args s 0 0 (tw_F G)) (F0 m 21 ls []) := by
  obtain ⟨k, hk⟩ := tm_wl_iff.mp hk
  exact sX4_takenCount_S0 G sz hC this  h k (.inr ((x1, x2))) out hk H locs ls gx1 gx2 hR hL hl
set_option maxRecDepth 100000 in
set_option maxHeartbeats 4000000 in
theorem cX4_takenCount_ok (l : Launch) (G : tw_G) (sz : Nat) (this : Nat)  (h : tm_H) (out : Int) (hk : fX4_takenCount this h = some out) : Met l yX4_takenCount (tw_WS yX4_takenCount cX4_takenCount 3 (some .int)) rmX4_takenCount (va_Pc [.ref this] (tw_Pre G sz h)) (tw_Qi G sz out h) 0 0 (tw_F G) := by
  refine tw_met (by decide +kernel) (Nat.le_of_ble_eq_true rfl) ?_
  intro p e s m args below meth c H ls hC hnm hR hl
  unfold fX4_takenCount at hk
  obtain ⟨hob, hk⟩ := tm_th_is hk
  have hl : lv_has ls 3 [(0, .ref this)] := hl
  have hL : tw_L G [] := fun q z => by cases z
  generalize hlc : ([] : List Loc) = locs at hL ⊢
  refine lv_iconst (v := tw_I 0) hC.1 hC.2.1 dX4_takenCount_0 rfl ?_
  refine lv_istore_n (lv' := [(1, .int (tw_I 0)), (0, .ref this)]) hC.1 hC.2.1 dX4_takenCount_1 rfl hl (by decide) rfl (fun ls hl => ?_)
  refine lv_iconst (v := tw_I 0) hC.1 hC.2.1 dX4_takenCount_2 rfl ?_
  refine lv_istore_n (lv' := [(2, .int (tw_I 0)), (1, .int (tw_I 0)), (0, .ref this)]) hC.1 hC.2.1 dX4_takenCount_3 rfl hl (by decide) rfl (fun ls hl => ?_)
  exact sX4_takenCount_L4 G sz hC this h 0 0 ((tw_rgL rfl)) ((tw_rgL rfl)) out hk H locs _ hR hL (lv_sub hl [2, 1, 0] rfl)
set_option maxRecDepth 100000 in
theorem kX4_takenCount {l : Launch} {p : Program} {e : Env} {R : Room} {s : State} {m : MethodId} {args : Array Value} {below : List Frame} {meth : Method} {c : Code} {H : Heap} {locs : List Loc} {cells slots : Nat} {Q : State → Prop} {cc : ByteArray} {pc nL idx : Nat} {ls : Array Slot} {rest : List Value} {G : tw_G} {h : tm_H} {own : String} {ret : Option FieldType} {α : Type} {x : α} {sz : Nat} {this : Nat} (hC : tw_C G p s m args meth c own cc nL ret) (hR : tw_Rel G sz h H) (hL : tw_L G locs) {F : Int → Option α} (hk : (fX4_takenCount this h).bind F = some x)  (hl : tw_mL own idx yX4_takenCount) (hRm : rmX4_takenCount.frames + 1 ≤ R.frames ∧ 8 + (3 + 11) + rmX4_takenCount.locals ≤ R.locals) (hsz : ls.size = nL) (hW : (rest.map fun v => v.category).sum ≤ 8) (hf : cells + 0 ≤ R.cells ∧ slots + 0 ≤ R.slots) (hdg : decode cc pc = .ok (.invokevirtual idx, 3)) (kk : ∀ (r : Int) (H1 : Heap) (locs1 : List Loc), tw_Rel G sz h H1 → tw_L G locs1 → tm_rg r → F r = some x → W p l e R s m args below meth c H1 locs1 (cells + 0) (slots + 0) Q (F0 m (pc + 3) ls (.int (tw_I r) :: rest))) : W p l e R s m args below meth c H locs cells slots Q (F0 m pc ls (.ref this :: rest)) := by
  obtain ⟨r, hr, hF⟩ := Option.bind_eq_some_iff.mp hk
  have ob : ∀ r, fX4_takenCount this h = some r → tm_is h 4 this := fun r hr => by
    unfold fX4_takenCount at hr
    exact (tm_th_is hr).1
  exact tw_backi (tw_runV hC hR (cX4_takenCount_ok l G sz this  h r hr) (n := 0) (As := []) ⟨tw_in_TB 694 (by decide +kernel) rfl, tw_in_TB 54 (by decide +kernel) rfl, by decide +kernel⟩ (tw_in_TB 692 (by decide +kernel) rfl) (tw_in_TB 693 (by decide +kernel) rfl) hl ⟨rfl, rfl⟩ hRm (ob r hr) (T := TX4) (N := 5) rfl rfl hsz rfl hW hdg hf) hL (fun H1 locs1 a b g => kk r H1 locs1 a b g hF)
def rmX4_keepChapters : Room := { frames := 2, cells := 0, slots := 0, locals := 48 }
set_option maxRecDepth 100000 in
set_option maxHeartbeats 4000000 in
theorem cX4_keepChapters_ok (l : Launch) (G : tw_G) (sz : Nat) (this : Nat) (a1 : Int) (ga1 : tm_rg a1) (h : tm_H) (out : tm_H) (hk : fX4_keepChapters this a1 h = some out) : Met l yX4_keepChapters (tw_WS yX4_keepChapters cX4_keepChapters 2 none) rmX4_keepChapters (va_Pc [.ref this, .int (tw_I a1)] (tw_Pre G sz h)) (tw_Qv G sz out) 0 0 (tw_F G) := by
  refine tw_met (by decide +kernel) (Nat.le_of_ble_eq_true rfl) ?_
  intro p e s m args below meth c H ls hC hnm hR hl
  unfold fX4_keepChapters at hk
  obtain ⟨hob, hk⟩ := tm_th_is hk
  have hl : lv_has ls 2 [(0, .ref this), (1, .int (tw_I a1))] := hl
  have hL : tw_L G [] := fun q z => by cases z
  generalize hlc : ([] : List Loc) = locs at hL ⊢
  refine lv_aload_n hC.1 hC.2.1 dX4_keepChapters_0 rfl (lv_at hl 0 rfl) ?_
  refine lv_iload_n hC.1 hC.2.1 dX4_keepChapters_1 rfl (lv_at hl 1 rfl) ?_
  refine kX4_hasSlot hC hR hL hk ga1 mlX4_40 ⟨by decide, by decide⟩ hl.1 (Nat.le_of_ble_eq_true rfl) ⟨Nat.zero_le _, Nat.zero_le _⟩ dX4_keepChapters_2 (fun v1 H locs hR hL gv1 hk => ?_)
  refine tw_zeq (tgt := 28) hC hk gv1 dX4_keepChapters_5 (by decide) (fun _ hk => ?_) (fun _ hk => ?_)
  · cases hk
    exact tw_vret hC hR hL rfl dX4_keepChapters_28
  · refine lv_aload_n hC.1 hC.2.1 dX4_keepChapters_8 rfl (lv_at hl 0 rfl) ?_
    refine tw_getR hC hR hk flX4_32 dX4_keepChapters_9 (fun r2 hk => ?_)
    refine lv_iload_n hC.1 hC.2.1 dX4_keepChapters_12 rfl (lv_at hl 1 rfl) ?_
    refine tw_aald hC hR hk dX4_keepChapters_13 (fun r3 hk => ?_)
    refine lv_aload_n hC.1 hC.2.1 dX4_keepChapters_14 rfl (lv_at hl 0 rfl) ?_
    refine tw_getR hC hR hk flX4_21 dX4_keepChapters_15 (fun r4 hk => ?_)
    refine kX0_copyFrom hC hR hL hk mlX4_44 ⟨by decide, by decide⟩ hl.1 (Nat.le_of_ble_eq_true rfl) ⟨Nat.zero_le _, Nat.zero_le _⟩ dX4_keepChapters_18 (fun h5 H locs hR hL hk => ?_)
    refine lv_aload_n hC.1 hC.2.1 dX4_keepChapters_21 rfl (lv_at hl 0 rfl) ?_
    refine tw_getR hC hR hk flX4_36 dX4_keepChapters_22 (fun r6 hk => ?_)
    refine lv_iload_n hC.1 hC.2.1 dX4_keepChapters_25 rfl (lv_at hl 1 rfl) ?_
    refine lv_iconst (v := tw_I 1) hC.1 hC.2.1 dX4_keepChapters_26 rfl ?_
    refine tw_zast hC hR hL hk dX4_keepChapters_27 (fun h7 H locs hR hL hk => ?_)
    cases hk
    exact tw_vret hC hR hL rfl dX4_keepChapters_28
set_option maxRecDepth 100000 in
theorem kX4_keepChapters {l : Launch} {p : Program} {e : Env} {R : Room} {s : State} {m : MethodId} {args : Array Value} {below : List Frame} {meth : Method} {c : Code} {H : Heap} {locs : List Loc} {cells slots : Nat} {Q : State → Prop} {cc : ByteArray} {pc nL idx : Nat} {ls : Array Slot} {rest : List Value} {G : tw_G} {h : tm_H} {own : String} {ret : Option FieldType} {α : Type} {x : α} {sz : Nat} {this : Nat} {a1 : Int} (hC : tw_C G p s m args meth c own cc nL ret) (hR : tw_Rel G sz h H) (hL : tw_L G locs) {F : tm_H → Option α} (hk : (fX4_keepChapters this a1 h).bind F = some x) (ga1 : tm_rg a1) (hl : tw_mL own idx yX4_keepChapters) (hRm : rmX4_keepChapters.frames + 1 ≤ R.frames ∧ 8 + (2 + 11) + rmX4_keepChapters.locals ≤ R.locals) (hsz : ls.size = nL) (hW : (rest.map fun v => v.category).sum ≤ 8) (hf : cells + 0 ≤ R.cells ∧ slots + 0 ≤ R.slots) (hdg : decode cc pc = .ok (.invokevirtual idx, 3)) (kk : ∀ (h1 : tm_H) (H1 : Heap) (locs1 : List Loc), tw_Rel G sz h1 H1 → tw_L G locs1 → F h1 = some x → W p l e R s m args below meth c H1 locs1 (cells + 0) (slots + 0) Q (F0 m (pc + 3) ls (rest))) : W p l e R s m args below meth c H locs cells slots Q (F0 m pc ls (.int (tw_I a1) :: .ref this :: rest)) := by
  obtain ⟨r, hr, hF⟩ := Option.bind_eq_some_iff.mp hk
  have ob : ∀ r, fX4_keepChapters this a1 h = some r → tm_is h 4 this := fun r hr => by
    unfold fX4_keepChapters at hr
    exact (tm_th_is hr).1
  exact tw_backv (tw_runV hC hR (cX4_keepChapters_ok l G sz this a1 ga1 h r hr) (n := 1) (As := [.int (tw_I a1)]) ⟨tw_in_TB 498 (by decide +kernel) rfl, tw_in_TB 54 (by decide +kernel) rfl, by decide +kernel⟩ (tw_in_TB 496 (by decide +kernel) rfl) (tw_in_TB 497 (by decide +kernel) rfl) hl ⟨rfl, rfl⟩ hRm (ob r hr) (T := TX4) (N := 5) rfl rfl hsz rfl hW hdg hf) hL (fun H1 locs1 a b => kk r H1 locs1 a b hF)
def rmX4_bringChapters : Room := { frames := 2, cells := 0, slots := 0, locals := 48 }
set_option maxRecDepth 100000 in
set_option maxHeartbeats 4000000 in
theorem cX4_bringChapters_ok (l : Launch) (G : tw_G) (sz : Nat) (this : Nat) (a1 : Int) (ga1 : tm_rg a1) (h : tm_H) (out : tm_H) (hk : fX4_bringChapters this a1 h = some out) : Met l yX4_bringChapters (tw_WS yX4_bringChapters cX4_bringChapters 2 none) rmX4_bringChapters (va_Pc [.ref this, .int (tw_I a1)] (tw_Pre G sz h)) (tw_Qv G sz out) 0 0 (tw_F G) := by
  refine tw_met (by decide +kernel) (Nat.le_of_ble_eq_true rfl) ?_
  intro p e s m args below meth c H ls hC hnm hR hl
  unfold fX4_bringChapters at hk
  obtain ⟨hob, hk⟩ := tm_th_is hk
  have hl : lv_has ls 2 [(0, .ref this), (1, .int (tw_I a1))] := hl
  have hL : tw_L G [] := fun q z => by cases z
  generalize hlc : ([] : List Loc) = locs at hL ⊢
  refine lv_aload_n hC.1 hC.2.1 dX4_bringChapters_0 rfl (lv_at hl 0 rfl) ?_
  refine lv_iload_n hC.1 hC.2.1 dX4_bringChapters_1 rfl (lv_at hl 1 rfl) ?_
  refine kX4_isTaken hC hR hL hk ga1 mlX4_48 ⟨by decide, by decide⟩ hl.1 (Nat.le_of_ble_eq_true rfl) ⟨Nat.zero_le _, Nat.zero_le _⟩ dX4_bringChapters_2 (fun v1 H locs hR hL gv1 hk => ?_)
  refine tw_zeq (tgt := 21) hC hk gv1 dX4_bringChapters_5 (by decide) (fun _ hk => ?_) (fun _ hk => ?_)
  · cases hk
    exact tw_vret hC hR hL rfl dX4_bringChapters_21
  · refine lv_aload_n hC.1 hC.2.1 dX4_bringChapters_8 rfl (lv_at hl 0 rfl) ?_
    refine tw_getR hC hR hk flX4_21 dX4_bringChapters_9 (fun r2 hk => ?_)
    refine lv_aload_n hC.1 hC.2.1 dX4_bringChapters_12 rfl (lv_at hl 0 rfl) ?_
    refine tw_getR hC hR hk flX4_32 dX4_bringChapters_13 (fun r3 hk => ?_)
    refine lv_iload_n hC.1 hC.2.1 dX4_bringChapters_16 rfl (lv_at hl 1 rfl) ?_
    refine tw_aald hC hR hk dX4_bringChapters_17 (fun r4 hk => ?_)
    refine kX0_copyFrom hC hR hL hk mlX4_44 ⟨by decide, by decide⟩ hl.1 (Nat.le_of_ble_eq_true rfl) ⟨Nat.zero_le _, Nat.zero_le _⟩ dX4_bringChapters_18 (fun h5 H locs hR hL hk => ?_)
    cases hk
    exact tw_vret hC hR hL rfl dX4_bringChapters_21
set_option maxRecDepth 100000 in
theorem kX4_bringChapters {l : Launch} {p : Program} {e : Env} {R : Room} {s : State} {m : MethodId} {args : Array Value} {below : List Frame} {meth : Method} {c : Code} {H : Heap} {locs : List Loc} {cells slots : Nat} {Q : State → Prop} {cc : ByteArray} {pc nL idx : Nat} {ls : Array Slot} {rest : List Value} {G : tw_G} {h : tm_H} {own : String} {ret : Option FieldType} {α : Type} {x : α} {sz : Nat} {this : Nat} {a1 : Int} (hC : tw_C G p s m args meth c own cc nL ret) (hR : tw_Rel G sz h H) (hL : tw_L G locs) {F : tm_H → Option α} (hk : (fX4_bringChapters this a1 h).bind F = some x) (ga1 : tm_rg a1) (hl : tw_mL own idx yX4_bringChapters) (hRm : rmX4_bringChapters.frames + 1 ≤ R.frames ∧ 8 + (2 + 11) + rmX4_bringChapters.locals ≤ R.locals) (hsz : ls.size = nL) (hW : (rest.map fun v => v.category).sum ≤ 8) (hf : cells + 0 ≤ R.cells ∧ slots + 0 ≤ R.slots) (hdg : decode cc pc = .ok (.invokevirtual idx, 3)) (kk : ∀ (h1 : tm_H) (H1 : Heap) (locs1 : List Loc), tw_Rel G sz h1 H1 → tw_L G locs1 → F h1 = some x → W p l e R s m args below meth c H1 locs1 (cells + 0) (slots + 0) Q (F0 m (pc + 3) ls (rest))) : W p l e R s m args below meth c H locs cells slots Q (F0 m pc ls (.int (tw_I a1) :: .ref this :: rest)) := by
  obtain ⟨r, hr, hF⟩ := Option.bind_eq_some_iff.mp hk
  have ob : ∀ r, fX4_bringChapters this a1 h = some r → tm_is h 4 this := fun r hr => by
    unfold fX4_bringChapters at hr
    exact (tm_th_is hr).1
  exact tw_backv (tw_runV hC hR (cX4_bringChapters_ok l G sz this a1 ga1 h r hr) (n := 1) (As := [.int (tw_I a1)]) ⟨tw_in_TB 515 (by decide +kernel) rfl, tw_in_TB 54 (by decide +kernel) rfl, by decide +kernel⟩ (tw_in_TB 513 (by decide +kernel) rfl) (tw_in_TB 514 (by decide +kernel) rfl) hl ⟨rfl, rfl⟩ hRm (ob r hr) (T := TX4) (N := 5) rfl rfl hsz rfl hW hdg hf) hL (fun H1 locs1 a b => kk r H1 locs1 a b hF)
def rmX4_occurrences : Room := { frames := 2, cells := 0, slots := 0, locals := 47 }
set_option maxRecDepth 100000 in
set_option maxHeartbeats 4000000 in
theorem sX4_occurrences_S0 {l : Launch} {p : Program} {e : Env} {s : State} {m : MethodId} {args : Array Value} {below : List Frame} {meth : Method} {c : Code} (G : tw_G) (sz : Nat) (hC : tw_C G p s m args meth c RX4 cX4_occurrences 5 (some .int)) (this : Nat) (a1 : Int) (ga1 : tm_rg a1) (h : tm_H) : ∀ (k : Nat) (st : (Int × Int) ⊕ (Int × Int × Int) ⊕ (Int × Int × Int)) (out : Int), tm_wit (fX4_occurrences_S0 this a1 h) k st = some out → match st with
    | .inl ((x2, x3)) => ∀ (H : Heap) (locs : List Loc) (ls : Array Slot), tm_rg x2 → tm_rg x3 → tw_Rel G sz h H → tw_L G locs → lv_has ls 5 [(0, .ref this), (1, .int (tw_I a1)), (2, .int (tw_I x2)), (3, .int (tw_I x3))] → W p l e rmX4_occurrences s m args below meth c H locs 0 0 (MQ below (tw_Qi G sz out h) args s 0 0 (tw_F G)) (F0 m 4 ls [])
    | .inr (.inl ((x2, x3, x4))) => ∀ (H : Heap) (locs : List Loc) (ls : Array Slot), tm_rg x2 → tm_rg x3 → tm_rg x4 → tw_Rel G sz h H → tw_L G locs → lv_has ls 5 [(0, .ref this), (1, .int (tw_I a1)), (2, .int (tw_I x2)), (3, .int (tw_I x3)), (4, .int (tw_I x4))] → W p l e rmX4_occurrences s m args below meth c H locs 0 0 (MQ below (tw_Qi G sz out h) args s 0 0 (tw_F G)) (F0 m 13 ls [])
    | .inr (.inr ((x2, x3, x4))) => ∀ (H : Heap) (locs : List Loc) (ls : Array Slot), tm_rg x2 → tm_rg x3 → tm_rg x4 → tw_Rel G sz h H → tw_L G locs → lv_has ls 5 [(0, .ref this), (1, .int (tw_I a1)), (2, .int (tw_I x2)), (3, .int (tw_I x3)), (4, .int (tw_I x4))] → W p l e rmX4_occurrences s m args below meth c H locs 0 0 (MQ below (tw_Qi G sz out h) args s 0 0 (tw_F G)) (F0 m 40 ls []) := by
  intro k
  induction k with
  | zero =>
    intro st out hk
    exact absurd hk (by unfold tm_wit; exact fun z => by cases z)
  | succ k ih =>
    intro st out hk
    obtain ⟨X, hk, hf⟩ := tm_wit_succ hk
    obtain ⟨x2, x3⟩ | ⟨x2, x3, x4⟩ | ⟨x2, x3, x4⟩ := st
    · intro H locs ls gx2 gx3 hR hL hl
      dsimp only [fX4_occurrences_S0] at hk
      refine lv_iload_n hC.1 hC.2.1 dX4_occurrences_4 rfl (lv_at hl 3 rfl) ?_
      refine lv_bipush (v := tw_I 6) hC.1 hC.2.1 dX4_occurrences_5 (by decide) ?_
      refine tw_cge (tgt := 52) hC hk gx3 ((tw_rgL rfl)) dX4_occurrences_7 (by decide) (fun _ hk => ?_) (fun _ hk => ?_)
      · refine lv_iconst (v := tw_I 0) hC.1 hC.2.1 dX4_occurrences_10 rfl ?_
        refine lv_istore (lv' := [(4, .int (tw_I 0)), (0, .ref this), (1, .int (tw_I a1)), (2, .int (tw_I x2)), (3, .int (tw_I x3))]) hC.1 hC.2.1 dX4_occurrences_11 hl (by decide) rfl (fun ls hl => ?_)
        cases hk
        exact ih _ out hf H locs _ gx2 gx3 ((tw_rgL rfl)) hR hL (lv_sub hl [1, 2, 3, 4, 0] rfl)
      · refine lv_iload_n hC.1 hC.2.1 dX4_occurrences_52 rfl (lv_at hl 2 rfl) ?_
        cases hk
        cases hf
        exact tw_iret hC hR hL gx2 rfl rfl dX4_occurrences_53
    · intro H locs ls gx2 gx3 gx4 hR hL hl
      dsimp only [fX4_occurrences_S0] at hk
      refine lv_iload hC.1 hC.2.1 dX4_occurrences_13 (lv_at hl 4 rfl) ?_
      refine lv_aload_n hC.1 hC.2.1 dX4_occurrences_15 rfl (lv_at hl 0 rfl) ?_
      refine tw_getR hC hR hk flX4_21 dX4_occurrences_16 (fun r1 hk => ?_)
      refine lv_iload_n hC.1 hC.2.1 dX4_occurrences_19 rfl (lv_at hl 3 rfl) ?_
      refine kX0_lengthOf hC hR hL hk gx3 mlX4_72 ⟨by decide, by decide⟩ hl.1 (Nat.le_of_ble_eq_true rfl) ⟨Nat.zero_le _, Nat.zero_le _⟩ dX4_occurrences_20 (fun v2 H locs hR hL gv2 hk => ?_)
      refine tw_cge (tgt := 46) hC hk gx4 gv2 dX4_occurrences_23 (by decide) (fun _ hk => ?_) (fun _ hk => ?_)
      · refine lv_aload_n hC.1 hC.2.1 dX4_occurrences_26 rfl (lv_at hl 0 rfl) ?_
        refine lv_iload_n hC.1 hC.2.1 dX4_occurrences_27 rfl (lv_at hl 1 rfl) ?_
        refine lv_iload_n hC.1 hC.2.1 dX4_occurrences_28 rfl (lv_at hl 3 rfl) ?_
        refine lv_iload hC.1 hC.2.1 dX4_occurrences_29 (lv_at hl 4 rfl) ?_
        refine kX4_occursAt hC hR hL hk ga1 gx3 gx4 mlX4_78 ⟨by decide, by decide⟩ hl.1 (Nat.le_of_ble_eq_true rfl) ⟨Nat.zero_le _, Nat.zero_le _⟩ dX4_occurrences_31 (fun v3 H locs hR hL gv3 hk => ?_)
        refine tw_zeq (tgt := 40) hC hk gv3 dX4_occurrences_34 (by decide) (fun _ hk => ?_) (fun _ hk => ?_)
        · cases hk
          exact ih _ out hf H locs _ gx2 gx3 gx4 hR hL (lv_sub hl [0, 1, 2, 3, 4] rfl)
        · refine tw_iinc (lv' := [(2, .int (tw_I (tm_wr (x2 + 1)))), (0, .ref this), (1, .int (tw_I a1)), (3, .int (tw_I x3)), (4, .int (tw_I x4))]) hC dX4_occurrences_37 hl (k := 2) rfl (by decide) rfl (fun ls hl => ?_)
          cases hk
          exact ih _ out hf H locs _ ((tm_wr_rg _)) gx3 gx4 hR hL (lv_sub hl [1, 2, 0, 3, 4] rfl)
      · refine tw_iinc (lv' := [(3, .int (tw_I (tm_wr (x3 + 1)))), (0, .ref this), (1, .int (tw_I a1)), (2, .int (tw_I x2)), (4, .int (tw_I x4))]) hC dX4_occurrences_46 hl (k := 3) rfl (by decide) rfl (fun ls hl => ?_)
        refine lv_goto (tgt := 4) hC.1 hC.2.1 dX4_occurrences_49 (by decide) ?_
        cases hk
        exact ih _ out hf H locs _ gx2 ((tm_wr_rg _)) hR hL (lv_sub hl [1, 2, 3, 0] rfl)
    · intro H locs ls gx2 gx3 gx4 hR hL hl
      dsimp only [fX4_occurrences_S0] at hk
      refine tw_iinc (lv' := [(4, .int (tw_I (tm_wr (x4 + 1)))), (0, .ref this), (1, .int (tw_I a1)), (2, .int (tw_I x2)), (3, .int (tw_I x3))]) hC dX4_occurrences_40 hl (k := 4) rfl (by decide) rfl (fun ls hl => ?_)
      refine lv_goto (tgt := 13) hC.1 hC.2.1 dX4_occurrences_43 (by decide) ?_
      cases hk
      exact ih _ out hf H locs _ gx2 gx3 ((tm_wr_rg _)) hR hL (lv_sub hl [1, 2, 3, 4, 0] rfl)
theorem sX4_occurrences_L4 {l : Launch} {p : Program} {e : Env} {s : State} {m : MethodId} {args : Array Value} {below : List Frame} {meth : Method} {c : Code} (G : tw_G) (sz : Nat) (hC : tw_C G p s m args meth c RX4 cX4_occurrences 5 (some .int)) (this : Nat) (a1 : Int) (ga1 : tm_rg a1) (h : tm_H) (x2 : Int) (x3 : Int) (gx2 : tm_rg x2) (gx3 : tm_rg x3) (out : Int) (hk : fX4_occurrences_L4 this a1 h x2 x3 = some out) (H : Heap) (locs : List Loc) (ls : Array Slot) (hR : tw_Rel G sz h H) (hL : tw_L G locs) (hl : lv_has ls 5 [(0, .ref this), (1, .int (tw_I a1)), (2, .int (tw_I x2)), (3, .int (tw_I x3))]) : W p l e rmX4_occurrences s m args below meth c H locs 0 0 (MQ below (tw_Qi G sz out h) args s 0 0 (tw_F G)) (F0 m 4 ls []) := by
  obtain ⟨k, hk⟩ := tm_wl_iff.mp hk
  exact sX4_occurrences_S0 G sz hC this a1 ga1 h k (.inl ((x2, x3))) out hk H locs ls gx2 gx3 hR hL hl
theorem sX4_occurrences_L13 {l : Launch} {p : Program} {e : Env} {s : State} {m : MethodId} {args : Array Value} {below : List Frame} {meth : Method} {c : Code} (G : tw_G) (sz : Nat) (hC : tw_C G p s m args meth c RX4 cX4_occurrences 5 (some .int)) (this : Nat) (a1 : Int) (ga1 : tm_rg a1) (h : tm_H) (x2 : Int) (x3 : Int) (x4 : Int) (gx2 : tm_rg x2) (gx3 : tm_rg x3) (gx4 : tm_rg x4) (out : Int) (hk : fX4_occurrences_L13 this a1 h x2 x3 x4 = some out) (H : Heap) (locs : List Loc) (ls : Array Slot) (hR : tw_Rel G sz h H) (hL : tw_L G locs) (hl : lv_has ls 5 [(0, .ref this), (1, .int (tw_I a1)), (2, .int (tw_I x2)), (3, .int (tw_I x3)), (4, .int (tw_I x4))]) : W p l e rmX4_occurrences s m args below meth c H locs 0 0 (MQ below (tw_Qi G sz out h) args s 0 0 (tw_F G)) (F0 m 13 ls []) := by
  obtain ⟨k, hk⟩ := tm_wl_iff.mp hk
  exact sX4_occurrences_S0 G sz hC this a1 ga1 h k (.inr (.inl ((x2, x3, x4)))) out hk H locs ls gx2 gx3 gx4 hR hL hl
theorem sX4_occurrences_L40 {l : Launch} {p : Program} {e : Env} {s : State} {m : MethodId} {args : Array Value} {below : List Frame} {meth : Method} {c : Code} (G : tw_G) (sz : Nat) (hC : tw_C G p s m args meth c RX4 cX4_occurrences 5 (some .int)) (this : Nat) (a1 : Int) (ga1 : tm_rg a1) (h : tm_H) (x2 : Int) (x3 : Int) (x4 : Int) (gx2 : tm_rg x2) (gx3 : tm_rg x3) (gx4 : tm_rg x4) (out : Int) (hk : fX4_occurrences_L40 this a1 h x2 x3 x4 = some out) (H : Heap) (locs : List Loc) (ls : Array Slot) (hR : tw_Rel G sz h H) (hL : tw_L G locs) (hl : lv_has ls 5 [(0, .ref this), (1, .int (tw_I a1)), (2, .int (tw_I x2)), (3, .int (tw_I x3)), (4, .int (tw_I x4))]) : W p l e rmX4_occurrences s m args below meth c H locs 0 0 (MQ below (tw_Qi G sz out h) args s 0 0 (tw_F G)) (F0 m 40 ls []) := by
  obtain ⟨k, hk⟩ := tm_wl_iff.mp hk
  exact sX4_occurrences_S0 G sz hC this a1 ga1 h k (.inr (.inr ((x2, x3, x4)))) out hk H locs ls gx2 gx3 gx4 hR hL hl
set_option maxRecDepth 100000 in
set_option maxHeartbeats 4000000 in
theorem cX4_occurrences_ok (l : Launch) (G : tw_G) (sz : Nat) (this : Nat) (a1 : Int) (ga1 : tm_rg a1) (h : tm_H) (out : Int) (hk : fX4_occurrences this a1 h = some out) : Met l yX4_occurrences (tw_WS yX4_occurrences cX4_occurrences 5 (some .int)) rmX4_occurrences (va_Pc [.ref this, .int (tw_I a1)] (tw_Pre G sz h)) (tw_Qi G sz out h) 0 0 (tw_F G) := by
  refine tw_met (by decide +kernel) (Nat.le_of_ble_eq_true rfl) ?_
  intro p e s m args below meth c H ls hC hnm hR hl
  unfold fX4_occurrences at hk
  obtain ⟨hob, hk⟩ := tm_th_is hk
  have hl : lv_has ls 5 [(0, .ref this), (1, .int (tw_I a1))] := hl
  have hL : tw_L G [] := fun q z => by cases z
  generalize hlc : ([] : List Loc) = locs at hL ⊢
  refine lv_iconst (v := tw_I 0) hC.1 hC.2.1 dX4_occurrences_0 rfl ?_
  refine lv_istore_n (lv' := [(2, .int (tw_I 0)), (0, .ref this), (1, .int (tw_I a1))]) hC.1 hC.2.1 dX4_occurrences_1 rfl hl (by decide) rfl (fun ls hl => ?_)
  refine lv_iconst (v := tw_I 0) hC.1 hC.2.1 dX4_occurrences_2 rfl ?_
  refine lv_istore_n (lv' := [(3, .int (tw_I 0)), (2, .int (tw_I 0)), (0, .ref this), (1, .int (tw_I a1))]) hC.1 hC.2.1 dX4_occurrences_3 rfl hl (by decide) rfl (fun ls hl => ?_)
  exact sX4_occurrences_L4 G sz hC this a1 ga1 h 0 0 ((tw_rgL rfl)) ((tw_rgL rfl)) out hk H locs _ hR hL (lv_sub hl [2, 3, 1, 0] rfl)
set_option maxRecDepth 100000 in
theorem kX4_occurrences {l : Launch} {p : Program} {e : Env} {R : Room} {s : State} {m : MethodId} {args : Array Value} {below : List Frame} {meth : Method} {c : Code} {H : Heap} {locs : List Loc} {cells slots : Nat} {Q : State → Prop} {cc : ByteArray} {pc nL idx : Nat} {ls : Array Slot} {rest : List Value} {G : tw_G} {h : tm_H} {own : String} {ret : Option FieldType} {α : Type} {x : α} {sz : Nat} {this : Nat} {a1 : Int} (hC : tw_C G p s m args meth c own cc nL ret) (hR : tw_Rel G sz h H) (hL : tw_L G locs) {F : Int → Option α} (hk : (fX4_occurrences this a1 h).bind F = some x) (ga1 : tm_rg a1) (hl : tw_mL own idx yX4_occurrences) (hRm : rmX4_occurrences.frames + 1 ≤ R.frames ∧ 8 + (5 + 11) + rmX4_occurrences.locals ≤ R.locals) (hsz : ls.size = nL) (hW : (rest.map fun v => v.category).sum ≤ 8) (hf : cells + 0 ≤ R.cells ∧ slots + 0 ≤ R.slots) (hdg : decode cc pc = .ok (.invokevirtual idx, 3)) (kk : ∀ (r : Int) (H1 : Heap) (locs1 : List Loc), tw_Rel G sz h H1 → tw_L G locs1 → tm_rg r → F r = some x → W p l e R s m args below meth c H1 locs1 (cells + 0) (slots + 0) Q (F0 m (pc + 3) ls (.int (tw_I r) :: rest))) : W p l e R s m args below meth c H locs cells slots Q (F0 m pc ls (.int (tw_I a1) :: .ref this :: rest)) := by
  obtain ⟨r, hr, hF⟩ := Option.bind_eq_some_iff.mp hk
  have ob : ∀ r, fX4_occurrences this a1 h = some r → tm_is h 4 this := fun r hr => by
    unfold fX4_occurrences at hr
    exact (tm_th_is hr).1
  exact tw_backi (tw_runV hC hR (cX4_occurrences_ok l G sz this a1 ga1 h r hr) (n := 1) (As := [.int (tw_I a1)]) ⟨tw_in_TB 741 (by decide +kernel) rfl, tw_in_TB 54 (by decide +kernel) rfl, by decide +kernel⟩ (tw_in_TB 739 (by decide +kernel) rfl) (tw_in_TB 740 (by decide +kernel) rfl) hl ⟨rfl, rfl⟩ hRm (ob r hr) (T := TX4) (N := 5) rfl rfl hsz rfl hW hdg hf) hL (fun H1 locs1 a b g => kk r H1 locs1 a b g hF)
def rmX4_occursWithin : Room := { frames := 1, cells := 0, slots := 0, locals := 22 }
set_option maxRecDepth 100000 in
set_option maxHeartbeats 4000000 in
theorem sX4_occursWithin_S0 {l : Launch} {p : Program} {e : Env} {s : State} {m : MethodId} {args : Array Value} {below : List Frame} {meth : Method} {c : Code} (G : tw_G) (sz : Nat) (hC : tw_C G p s m args meth c RX4 cX4_occursWithin 5 (some .boolean)) (this : Nat) (a1 : Int) (a2 : Int) (a3 : Int) (ga1 : tm_rg a1) (ga2 : tm_rg a2) (ga3 : tm_rg a3) (h : tm_H) : ∀ (k : Nat) (st : (Int)) (out : Int), tm_wit (fX4_occursWithin_S0 this a1 a2 a3 h) k st = some out → match st with
    | (x4) => ∀ (H : Heap) (locs : List Loc) (ls : Array Slot), tm_rg x4 → tw_Rel G sz h H → tw_L G locs → lv_has ls 5 [(0, .ref this), (1, .int (tw_I a1)), (2, .int (tw_I a2)), (3, .int (tw_I a3)), (4, .int (tw_I x4))] → W p l e rmX4_occursWithin s m args below meth c H locs 0 0 (MQ below (tw_Qi G sz out h) args s 0 0 (tw_F G)) (F0 m 3 ls []) := by
  intro k
  induction k with
  | zero =>
    intro st out hk
    exact absurd hk (by unfold tm_wit; exact fun z => by cases z)
  | succ k ih =>
    intro x4 out hk
    obtain ⟨X, hk, hf⟩ := tm_wit_succ hk
    intro H locs ls gx4 hR hL hl
    dsimp only [fX4_occursWithin_S0] at hk
    refine lv_iload hC.1 hC.2.1 dX4_occursWithin_3 (lv_at hl 4 rfl) ?_
    refine lv_aload_n hC.1 hC.2.1 dX4_occursWithin_5 rfl (lv_at hl 0 rfl) ?_
    refine tw_getR hC hR hk flX4_28 dX4_occursWithin_6 (fun r1 hk => ?_)
    refine lv_iload_n hC.1 hC.2.1 dX4_occursWithin_9 rfl (lv_at hl 1 rfl) ?_
    refine kX5_lengthOf hC hR hL hk ga1 mlX4_69 ⟨by decide, by decide⟩ hl.1 (Nat.le_of_ble_eq_true rfl) ⟨Nat.zero_le _, Nat.zero_le _⟩ dX4_occursWithin_10 (fun v2 H locs hR hL gv2 hk => ?_)
    refine tw_cge (tgt := 63) hC hk gx4 gv2 dX4_occursWithin_13 (by decide) (fun _ hk => ?_) (fun _ hk => ?_)
    · refine lv_aload_n hC.1 hC.2.1 dX4_occursWithin_16 rfl (lv_at hl 0 rfl) ?_
      refine tw_getR hC hR hk flX4_12 dX4_occursWithin_17 (fun r3 hk => ?_)
      refine lv_aload_n hC.1 hC.2.1 dX4_occursWithin_20 rfl (lv_at hl 0 rfl) ?_
      refine tw_getR hC hR hk flX4_28 dX4_occursWithin_21 (fun r4 hk => ?_)
      refine lv_iload_n hC.1 hC.2.1 dX4_occursWithin_24 rfl (lv_at hl 1 rfl) ?_
      refine lv_iload hC.1 hC.2.1 dX4_occursWithin_25 (lv_at hl 4 rfl) ?_
      refine kX5_wordAt hC hR hL hk ga1 gx4 mlX4_73 ⟨by decide, by decide⟩ hl.1 (Nat.le_of_ble_eq_true rfl) ⟨Nat.zero_le _, Nat.zero_le _⟩ dX4_occursWithin_27 (fun v5 H locs hR hL gv5 hk => ?_)
      refine kX7_baseOf hC hR hL hk gv5 mlX4_57 ⟨by decide, by decide⟩ hl.1 (Nat.le_of_ble_eq_true rfl) ⟨Nat.zero_le _, Nat.zero_le _⟩ dX4_occursWithin_30 (fun v6 H locs hR hL gv6 hk => ?_)
      refine lv_aload_n hC.1 hC.2.1 dX4_occursWithin_33 rfl (lv_at hl 0 rfl) ?_
      refine tw_getR hC hR hk flX4_12 dX4_occursWithin_34 (fun r7 hk => ?_)
      refine lv_aload_n hC.1 hC.2.1 dX4_occursWithin_37 rfl (lv_at hl 0 rfl) ?_
      refine tw_getR hC hR hk flX4_28 dX4_occursWithin_38 (fun r8 hk => ?_)
      refine lv_iload_n hC.1 hC.2.1 dX4_occursWithin_41 rfl (lv_at hl 2 rfl) ?_
      refine lv_iload_n hC.1 hC.2.1 dX4_occursWithin_42 rfl (lv_at hl 3 rfl) ?_
      refine lv_iload hC.1 hC.2.1 dX4_occursWithin_43 (lv_at hl 4 rfl) ?_
      refine tw_iadd hC dX4_occursWithin_45 ?_
      refine kX5_wordAt hC hR hL hk ga2 ((tm_wr_rg _)) mlX4_73 ⟨by decide, by decide⟩ hl.1 (Nat.le_of_ble_eq_true rfl) ⟨Nat.zero_le _, Nat.zero_le _⟩ dX4_occursWithin_46 (fun v9 H locs hR hL gv9 hk => ?_)
      refine kX7_baseOf hC hR hL hk gv9 mlX4_57 ⟨by decide, by decide⟩ hl.1 (Nat.le_of_ble_eq_true rfl) ⟨Nat.zero_le _, Nat.zero_le _⟩ dX4_occursWithin_49 (fun v10 H locs hR hL gv10 hk => ?_)
      refine tw_ceq (tgt := 57) hC hk gv6 gv10 dX4_occursWithin_52 (by decide) (fun _ hk => ?_) (fun _ hk => ?_)
      · refine tw_iinc (lv' := [(4, .int (tw_I (tm_wr (x4 + 1)))), (0, .ref this), (1, .int (tw_I a1)), (2, .int (tw_I a2)), (3, .int (tw_I a3))]) hC dX4_occursWithin_57 hl (k := 4) rfl (by decide) rfl (fun ls hl => ?_)
        refine lv_goto (tgt := 3) hC.1 hC.2.1 dX4_occursWithin_60 (by decide) ?_
        cases hk
        exact ih _ out hf H locs _ ((tm_wr_rg _)) hR hL (lv_sub hl [1, 2, 3, 4, 0] rfl)
      · refine lv_iconst (v := tw_I 0) hC.1 hC.2.1 dX4_occursWithin_55 rfl ?_
        cases hk
        cases hf
        exact tw_zret hC hR hL rfl rfl dX4_occursWithin_56
    · refine lv_iconst (v := tw_I 1) hC.1 hC.2.1 dX4_occursWithin_63 rfl ?_
      cases hk
      cases hf
      exact tw_zret hC hR hL rfl rfl dX4_occursWithin_64
theorem sX4_occursWithin_L3 {l : Launch} {p : Program} {e : Env} {s : State} {m : MethodId} {args : Array Value} {below : List Frame} {meth : Method} {c : Code} (G : tw_G) (sz : Nat) (hC : tw_C G p s m args meth c RX4 cX4_occursWithin 5 (some .boolean)) (this : Nat) (a1 : Int) (a2 : Int) (a3 : Int) (ga1 : tm_rg a1) (ga2 : tm_rg a2) (ga3 : tm_rg a3) (h : tm_H) (x4 : Int) (gx4 : tm_rg x4) (out : Int) (hk : fX4_occursWithin_L3 this a1 a2 a3 h x4 = some out) (H : Heap) (locs : List Loc) (ls : Array Slot) (hR : tw_Rel G sz h H) (hL : tw_L G locs) (hl : lv_has ls 5 [(0, .ref this), (1, .int (tw_I a1)), (2, .int (tw_I a2)), (3, .int (tw_I a3)), (4, .int (tw_I x4))]) : W p l e rmX4_occursWithin s m args below meth c H locs 0 0 (MQ below (tw_Qi G sz out h) args s 0 0 (tw_F G)) (F0 m 3 ls []) := by
  obtain ⟨k, hk⟩ := tm_wl_iff.mp hk
  exact sX4_occursWithin_S0 G sz hC this a1 a2 a3 ga1 ga2 ga3 h k ((x4)) out hk H locs ls gx4 hR hL hl
set_option maxRecDepth 100000 in
set_option maxHeartbeats 4000000 in
theorem cX4_occursWithin_ok (l : Launch) (G : tw_G) (sz : Nat) (this : Nat) (a1 : Int) (a2 : Int) (a3 : Int) (ga1 : tm_rg a1) (ga2 : tm_rg a2) (ga3 : tm_rg a3) (h : tm_H) (out : Int) (hk : fX4_occursWithin this a1 a2 a3 h = some out) : Met l yX4_occursWithin (tw_WS yX4_occursWithin cX4_occursWithin 5 (some .boolean)) rmX4_occursWithin (va_Pc [.ref this, .int (tw_I a1), .int (tw_I a2), .int (tw_I a3)] (tw_Pre G sz h)) (tw_Qi G sz out h) 0 0 (tw_F G) := by
  refine tw_met (by decide +kernel) (Nat.le_of_ble_eq_true rfl) ?_
  intro p e s m args below meth c H ls hC hnm hR hl
  unfold fX4_occursWithin at hk
  obtain ⟨hob, hk⟩ := tm_th_is hk
  have hl : lv_has ls 5 [(0, .ref this), (1, .int (tw_I a1)), (2, .int (tw_I a2)), (3, .int (tw_I a3))] := hl
  have hL : tw_L G [] := fun q z => by cases z
  generalize hlc : ([] : List Loc) = locs at hL ⊢
  refine lv_iconst (v := tw_I 0) hC.1 hC.2.1 dX4_occursWithin_0 rfl ?_
  refine lv_istore (lv' := [(4, .int (tw_I 0)), (0, .ref this), (1, .int (tw_I a1)), (2, .int (tw_I a2)), (3, .int (tw_I a3))]) hC.1 hC.2.1 dX4_occursWithin_1 hl (by decide) rfl (fun ls hl => ?_)
  exact sX4_occursWithin_L3 G sz hC this a1 a2 a3 ga1 ga2 ga3 h 0 ((tw_rgL rfl)) out hk H locs _ hR hL (lv_sub hl [1, 2, 3, 4, 0] rfl)
set_option maxRecDepth 100000 in
theorem kX4_occursWithin {l : Launch} {p : Program} {e : Env} {R : Room} {s : State} {m : MethodId} {args : Array Value} {below : List Frame} {meth : Method} {c : Code} {H : Heap} {locs : List Loc} {cells slots : Nat} {Q : State → Prop} {cc : ByteArray} {pc nL idx : Nat} {ls : Array Slot} {rest : List Value} {G : tw_G} {h : tm_H} {own : String} {ret : Option FieldType} {α : Type} {x : α} {sz : Nat} {this : Nat} {a1 : Int} {a2 : Int} {a3 : Int} (hC : tw_C G p s m args meth c own cc nL ret) (hR : tw_Rel G sz h H) (hL : tw_L G locs) {F : Int → Option α} (hk : (fX4_occursWithin this a1 a2 a3 h).bind F = some x) (ga1 : tm_rg a1) (ga2 : tm_rg a2) (ga3 : tm_rg a3) (hl : tw_mL own idx yX4_occursWithin) (hRm : rmX4_occursWithin.frames + 1 ≤ R.frames ∧ 8 + (5 + 11) + rmX4_occursWithin.locals ≤ R.locals) (hsz : ls.size = nL) (hW : (rest.map fun v => v.category).sum ≤ 8) (hf : cells + 0 ≤ R.cells ∧ slots + 0 ≤ R.slots) (hdg : decode cc pc = .ok (.invokevirtual idx, 3)) (kk : ∀ (r : Int) (H1 : Heap) (locs1 : List Loc), tw_Rel G sz h H1 → tw_L G locs1 → tm_rg r → F r = some x → W p l e R s m args below meth c H1 locs1 (cells + 0) (slots + 0) Q (F0 m (pc + 3) ls (.int (tw_I r) :: rest))) : W p l e R s m args below meth c H locs cells slots Q (F0 m pc ls (.int (tw_I a3) :: .int (tw_I a2) :: .int (tw_I a1) :: .ref this :: rest)) := by
  obtain ⟨r, hr, hF⟩ := Option.bind_eq_some_iff.mp hk
  have ob : ∀ r, fX4_occursWithin this a1 a2 a3 h = some r → tm_is h 4 this := fun r hr => by
    unfold fX4_occursWithin at hr
    exact (tm_th_is hr).1
  exact tw_backi (tw_runV hC hR (cX4_occursWithin_ok l G sz this a1 a2 a3 ga1 ga2 ga3 h r hr) (n := 3) (As := [.int (tw_I a1), .int (tw_I a2), .int (tw_I a3)]) ⟨tw_in_TB 778 (by decide +kernel) rfl, tw_in_TB 54 (by decide +kernel) rfl, by decide +kernel⟩ (tw_in_TB 777 (by decide +kernel) rfl) (tw_in_TB 15 (by decide +kernel) rfl) hl ⟨rfl, rfl⟩ hRm (ob r hr) (T := TX4) (N := 5) rfl rfl hsz rfl hW hdg hf) hL (fun H1 locs1 a b g => kk r H1 locs1 a b g hF)
def rmX4_timesWithin : Room := { frames := 2, cells := 0, slots := 0, locals := 46 }
set_option maxRecDepth 100000 in
set_option maxHeartbeats 4000000 in
theorem sX4_timesWithin_S0 {l : Launch} {p : Program} {e : Env} {s : State} {m : MethodId} {args : Array Value} {below : List Frame} {meth : Method} {c : Code} (G : tw_G) (sz : Nat) (hC : tw_C G p s m args meth c RX4 cX4_timesWithin 5 (some .int)) (this : Nat) (a1 : Int) (a2 : Int) (ga1 : tm_rg a1) (ga2 : tm_rg a2) (h : tm_H) : ∀ (k : Nat) (st : (Int × Int) ⊕ (Int × Int)) (out : Int), tm_wit (fX4_timesWithin_S0 this a1 a2 h) k st = some out → match st with
    | .inl ((x3, x4)) => ∀ (H : Heap) (locs : List Loc) (ls : Array Slot), tm_rg x3 → tm_rg x4 → tw_Rel G sz h H → tw_L G locs → lv_has ls 5 [(0, .ref this), (1, .int (tw_I a1)), (2, .int (tw_I a2)), (3, .int (tw_I x3)), (4, .int (tw_I x4))] → W p l e rmX4_timesWithin s m args below meth c H locs 0 0 (MQ below (tw_Qi G sz out h) args s 0 0 (tw_F G)) (F0 m 5 ls [])
    | .inr ((x3, x4)) => ∀ (H : Heap) (locs : List Loc) (ls : Array Slot), tm_rg x3 → tm_rg x4 → tw_Rel G sz h H → tw_L G locs → lv_has ls 5 [(0, .ref this), (1, .int (tw_I a1)), (2, .int (tw_I a2)), (3, .int (tw_I x3)), (4, .int (tw_I x4))] → W p l e rmX4_timesWithin s m args below meth c H locs 0 0 (MQ below (tw_Qi G sz out h) args s 0 0 (tw_F G)) (F0 m 41 ls []) := by
  intro k
  induction k with
  | zero =>
    intro st out hk
    exact absurd hk (by unfold tm_wit; exact fun z => by cases z)
  | succ k ih =>
    intro st out hk
    obtain ⟨X, hk, hf⟩ := tm_wit_succ hk
    obtain ⟨x3, x4⟩ | ⟨x3, x4⟩ := st
    · intro H locs ls gx3 gx4 hR hL hl
      dsimp only [fX4_timesWithin_S0] at hk
      refine lv_iload hC.1 hC.2.1 dX4_timesWithin_5 (lv_at hl 4 rfl) ?_
      refine lv_aload_n hC.1 hC.2.1 dX4_timesWithin_7 rfl (lv_at hl 0 rfl) ?_
      refine tw_getR hC hR hk flX4_28 dX4_timesWithin_8 (fun r1 hk => ?_)
      refine lv_iload_n hC.1 hC.2.1 dX4_timesWithin_11 rfl (lv_at hl 2 rfl) ?_
      refine kX5_lengthOf hC hR hL hk ga2 mlX4_69 ⟨by decide, by decide⟩ hl.1 (Nat.le_of_ble_eq_true rfl) ⟨Nat.zero_le _, Nat.zero_le _⟩ dX4_timesWithin_12 (fun v2 H locs hR hL gv2 hk => ?_)
      refine lv_aload_n hC.1 hC.2.1 dX4_timesWithin_15 rfl (lv_at hl 0 rfl) ?_
      refine tw_getR hC hR hk flX4_28 dX4_timesWithin_16 (fun r3 hk => ?_)
      refine lv_iload_n hC.1 hC.2.1 dX4_timesWithin_19 rfl (lv_at hl 1 rfl) ?_
      refine kX5_lengthOf hC hR hL hk ga1 mlX4_69 ⟨by decide, by decide⟩ hl.1 (Nat.le_of_ble_eq_true rfl) ⟨Nat.zero_le _, Nat.zero_le _⟩ dX4_timesWithin_20 (fun v4 H locs hR hL gv4 hk => ?_)
      refine tw_isub hC dX4_timesWithin_23 ?_
      refine tw_cgt (tgt := 47) hC hk gx4 ((tm_wr_rg _)) dX4_timesWithin_24 (by decide) (fun _ hk => ?_) (fun _ hk => ?_)
      · refine lv_iload_n hC.1 hC.2.1 dX4_timesWithin_47 rfl (lv_at hl 3 rfl) ?_
        cases hk
        cases hf
        exact tw_iret hC hR hL gx3 rfl rfl dX4_timesWithin_48
      · refine lv_aload_n hC.1 hC.2.1 dX4_timesWithin_27 rfl (lv_at hl 0 rfl) ?_
        refine lv_iload_n hC.1 hC.2.1 dX4_timesWithin_28 rfl (lv_at hl 1 rfl) ?_
        refine lv_iload_n hC.1 hC.2.1 dX4_timesWithin_29 rfl (lv_at hl 2 rfl) ?_
        refine lv_iload hC.1 hC.2.1 dX4_timesWithin_30 (lv_at hl 4 rfl) ?_
        refine kX4_occursWithin hC hR hL hk ga1 ga2 gx4 mlX4_86 ⟨by decide, by decide⟩ hl.1 (Nat.le_of_ble_eq_true rfl) ⟨Nat.zero_le _, Nat.zero_le _⟩ dX4_timesWithin_32 (fun v5 H locs hR hL gv5 hk => ?_)
        refine tw_zeq (tgt := 41) hC hk gv5 dX4_timesWithin_35 (by decide) (fun _ hk => ?_) (fun _ hk => ?_)
        · cases hk
          exact ih _ out hf H locs _ gx3 gx4 hR hL (lv_sub hl [0, 1, 2, 3, 4] rfl)
        · refine tw_iinc (lv' := [(3, .int (tw_I (tm_wr (x3 + 1)))), (0, .ref this), (1, .int (tw_I a1)), (2, .int (tw_I a2)), (4, .int (tw_I x4))]) hC dX4_timesWithin_38 hl (k := 3) rfl (by decide) rfl (fun ls hl => ?_)
          cases hk
          exact ih _ out hf H locs _ ((tm_wr_rg _)) gx4 hR hL (lv_sub hl [1, 2, 3, 0, 4] rfl)
    · intro H locs ls gx3 gx4 hR hL hl
      dsimp only [fX4_timesWithin_S0] at hk
      refine tw_iinc (lv' := [(4, .int (tw_I (tm_wr (x4 + 1)))), (0, .ref this), (1, .int (tw_I a1)), (2, .int (tw_I a2)), (3, .int (tw_I x3))]) hC dX4_timesWithin_41 hl (k := 4) rfl (by decide) rfl (fun ls hl => ?_)
      refine lv_goto (tgt := 5) hC.1 hC.2.1 dX4_timesWithin_44 (by decide) ?_
      cases hk
      exact ih _ out hf H locs _ gx3 ((tm_wr_rg _)) hR hL (lv_sub hl [1, 2, 3, 4, 0] rfl)
theorem sX4_timesWithin_L5 {l : Launch} {p : Program} {e : Env} {s : State} {m : MethodId} {args : Array Value} {below : List Frame} {meth : Method} {c : Code} (G : tw_G) (sz : Nat) (hC : tw_C G p s m args meth c RX4 cX4_timesWithin 5 (some .int)) (this : Nat) (a1 : Int) (a2 : Int) (ga1 : tm_rg a1) (ga2 : tm_rg a2) (h : tm_H) (x3 : Int) (x4 : Int) (gx3 : tm_rg x3) (gx4 : tm_rg x4) (out : Int) (hk : fX4_timesWithin_L5 this a1 a2 h x3 x4 = some out) (H : Heap) (locs : List Loc) (ls : Array Slot) (hR : tw_Rel G sz h H) (hL : tw_L G locs) (hl : lv_has ls 5 [(0, .ref this), (1, .int (tw_I a1)), (2, .int (tw_I a2)), (3, .int (tw_I x3)), (4, .int (tw_I x4))]) : W p l e rmX4_timesWithin s m args below meth c H locs 0 0 (MQ below (tw_Qi G sz out h) args s 0 0 (tw_F G)) (F0 m 5 ls []) := by
  obtain ⟨k, hk⟩ := tm_wl_iff.mp hk
  exact sX4_timesWithin_S0 G sz hC this a1 a2 ga1 ga2 h k (.inl ((x3, x4))) out hk H locs ls gx3 gx4 hR hL hl
theorem sX4_timesWithin_L41 {l : Launch} {p : Program} {e : Env} {s : State} {m : MethodId} {args : Array Value} {below : List Frame} {meth : Method} {c : Code} (G : tw_G) (sz : Nat) (hC : tw_C G p s m args meth c RX4 cX4_timesWithin 5 (some .int)) (this : Nat) (a1 : Int) (a2 : Int) (ga1 : tm_rg a1) (ga2 : tm_rg a2) (h : tm_H) (x3 : Int) (x4 : Int) (gx3 : tm_rg x3) (gx4 : tm_rg x4) (out : Int) (hk : fX4_timesWithin_L41 this a1 a2 h x3 x4 = some out) (H : Heap) (locs : List Loc) (ls : Array Slot) (hR : tw_Rel G sz h H) (hL : tw_L G locs) (hl : lv_has ls 5 [(0, .ref this), (1, .int (tw_I a1)), (2, .int (tw_I a2)), (3, .int (tw_I x3)), (4, .int (tw_I x4))]) : W p l e rmX4_timesWithin s m args below meth c H locs 0 0 (MQ below (tw_Qi G sz out h) args s 0 0 (tw_F G)) (F0 m 41 ls []) := by
  obtain ⟨k, hk⟩ := tm_wl_iff.mp hk
  exact sX4_timesWithin_S0 G sz hC this a1 a2 ga1 ga2 h k (.inr ((x3, x4))) out hk H locs ls gx3 gx4 hR hL hl
set_option maxRecDepth 100000 in
set_option maxHeartbeats 4000000 in
theorem cX4_timesWithin_ok (l : Launch) (G : tw_G) (sz : Nat) (this : Nat) (a1 : Int) (a2 : Int) (ga1 : tm_rg a1) (ga2 : tm_rg a2) (h : tm_H) (out : Int) (hk : fX4_timesWithin this a1 a2 h = some out) : Met l yX4_timesWithin (tw_WS yX4_timesWithin cX4_timesWithin 5 (some .int)) rmX4_timesWithin (va_Pc [.ref this, .int (tw_I a1), .int (tw_I a2)] (tw_Pre G sz h)) (tw_Qi G sz out h) 0 0 (tw_F G) := by
  refine tw_met (by decide +kernel) (Nat.le_of_ble_eq_true rfl) ?_
  intro p e s m args below meth c H ls hC hnm hR hl
  unfold fX4_timesWithin at hk
  obtain ⟨hob, hk⟩ := tm_th_is hk
  have hl : lv_has ls 5 [(0, .ref this), (1, .int (tw_I a1)), (2, .int (tw_I a2))] := hl
  have hL : tw_L G [] := fun q z => by cases z
  generalize hlc : ([] : List Loc) = locs at hL ⊢
  refine lv_iconst (v := tw_I 0) hC.1 hC.2.1 dX4_timesWithin_0 rfl ?_
  refine lv_istore_n (lv' := [(3, .int (tw_I 0)), (0, .ref this), (1, .int (tw_I a1)), (2, .int (tw_I a2))]) hC.1 hC.2.1 dX4_timesWithin_1 rfl hl (by decide) rfl (fun ls hl => ?_)
  refine lv_iconst (v := tw_I 0) hC.1 hC.2.1 dX4_timesWithin_2 rfl ?_
  refine lv_istore (lv' := [(4, .int (tw_I 0)), (3, .int (tw_I 0)), (0, .ref this), (1, .int (tw_I a1)), (2, .int (tw_I a2))]) hC.1 hC.2.1 dX4_timesWithin_3 hl (by decide) rfl (fun ls hl => ?_)
  exact sX4_timesWithin_L5 G sz hC this a1 a2 ga1 ga2 h 0 0 ((tw_rgL rfl)) ((tw_rgL rfl)) out hk H locs _ hR hL (lv_sub hl [2, 3, 4, 1, 0] rfl)
set_option maxRecDepth 100000 in
theorem kX4_timesWithin {l : Launch} {p : Program} {e : Env} {R : Room} {s : State} {m : MethodId} {args : Array Value} {below : List Frame} {meth : Method} {c : Code} {H : Heap} {locs : List Loc} {cells slots : Nat} {Q : State → Prop} {cc : ByteArray} {pc nL idx : Nat} {ls : Array Slot} {rest : List Value} {G : tw_G} {h : tm_H} {own : String} {ret : Option FieldType} {α : Type} {x : α} {sz : Nat} {this : Nat} {a1 : Int} {a2 : Int} (hC : tw_C G p s m args meth c own cc nL ret) (hR : tw_Rel G sz h H) (hL : tw_L G locs) {F : Int → Option α} (hk : (fX4_timesWithin this a1 a2 h).bind F = some x) (ga1 : tm_rg a1) (ga2 : tm_rg a2) (hl : tw_mL own idx yX4_timesWithin) (hRm : rmX4_timesWithin.frames + 1 ≤ R.frames ∧ 8 + (5 + 11) + rmX4_timesWithin.locals ≤ R.locals) (hsz : ls.size = nL) (hW : (rest.map fun v => v.category).sum ≤ 8) (hf : cells + 0 ≤ R.cells ∧ slots + 0 ≤ R.slots) (hdg : decode cc pc = .ok (.invokevirtual idx, 3)) (kk : ∀ (r : Int) (H1 : Heap) (locs1 : List Loc), tw_Rel G sz h H1 → tw_L G locs1 → tm_rg r → F r = some x → W p l e R s m args below meth c H1 locs1 (cells + 0) (slots + 0) Q (F0 m (pc + 3) ls (.int (tw_I r) :: rest))) : W p l e R s m args below meth c H locs cells slots Q (F0 m pc ls (.int (tw_I a2) :: .int (tw_I a1) :: .ref this :: rest)) := by
  obtain ⟨r, hr, hF⟩ := Option.bind_eq_some_iff.mp hk
  have ob : ∀ r, fX4_timesWithin this a1 a2 h = some r → tm_is h 4 this := fun r hr => by
    unfold fX4_timesWithin at hr
    exact (tm_th_is hr).1
  exact tw_backi (tw_runV hC hR (cX4_timesWithin_ok l G sz this a1 a2 ga1 ga2 h r hr) (n := 2) (As := [.int (tw_I a1), .int (tw_I a2)]) ⟨tw_in_TB 774 (by decide +kernel) rfl, tw_in_TB 54 (by decide +kernel) rfl, by decide +kernel⟩ (tw_in_TB 772 (by decide +kernel) rfl) (tw_in_TB 773 (by decide +kernel) rfl) hl ⟨rfl, rfl⟩ hRm (ob r hr) (T := TX4) (N := 5) rfl rfl hsz rfl hW hdg hf) hL (fun H1 locs1 a b g => kk r H1 locs1 a b g hF)
def rmX5_quietCount : Room := { frames := 0, cells := 0, slots := 0, locals := 0 }
set_option maxRecDepth 100000 in
set_option maxHeartbeats 4000000 in
theorem sX5_quietCount_S0 {l : Launch} {p : Program} {e : Env} {s : State} {m : MethodId} {args : Array Value} {below : List Frame} {meth : Method} {c : Code} (G : tw_G) (sz : Nat) (hC : tw_C G p s m args meth c RX5 cX5_quietCount 3 (some .int)) (this : Nat)  (h : tm_H) : ∀ (k : Nat) (st : (Int × Int) ⊕ (Int × Int)) (out : Int), tm_wit (fX5_quietCount_S0 this h) k st = some out → match st with
    | .inl ((x1, x2)) => ∀ (H : Heap) (locs : List Loc) (ls : Array Slot), tm_rg x1 → tm_rg x2 → tw_Rel G sz h H → tw_L G locs → lv_has ls 3 [(0, .ref this), (1, .int (tw_I x1)), (2, .int (tw_I x2))] → W p l e rmX5_quietCount s m args below meth c H locs 0 0 (MQ below (tw_Qi G sz out h) args s 0 0 (tw_F G)) (F0 m 4 ls [])
    | .inr ((x1, x2)) => ∀ (H : Heap) (locs : List Loc) (ls : Array Slot), tm_rg x1 → tm_rg x2 → tw_Rel G sz h H → tw_L G locs → lv_has ls 3 [(0, .ref this), (1, .int (tw_I x1)), (2, .int (tw_I x2))] → W p l e rmX5_quietCount s m args below meth c H locs 0 0 (MQ below (tw_Qi G sz out h) args s 0 0 (tw_F G)) (F0 m 24 ls []) := by
  intro k
  induction k with
  | zero =>
    intro st out hk
    exact absurd hk (by unfold tm_wit; exact fun z => by cases z)
  | succ k ih =>
    intro st out hk
    obtain ⟨X, hk, hf⟩ := tm_wit_succ hk
    obtain ⟨x1, x2⟩ | ⟨x1, x2⟩ := st
    · intro H locs ls gx1 gx2 hR hL hl
      dsimp only [fX5_quietCount_S0] at hk
      refine lv_iload_n hC.1 hC.2.1 dX5_quietCount_4 rfl (lv_at hl 2 rfl) ?_
      refine lv_aload_n hC.1 hC.2.1 dX5_quietCount_5 rfl (lv_at hl 0 rfl) ?_
      refine tw_getI hC hR hk flX5_24 dX5_quietCount_6 (fun v1 gv1 hk => ?_)
      refine tw_cge (tgt := 30) hC hk gx2 gv1 dX5_quietCount_9 (by decide) (fun _ hk => ?_) (fun _ hk => ?_)
      · refine lv_aload_n hC.1 hC.2.1 dX5_quietCount_12 rfl (lv_at hl 0 rfl) ?_
        refine tw_getR hC hR hk flX5_20 dX5_quietCount_13 (fun r2 hk => ?_)
        refine lv_iload_n hC.1 hC.2.1 dX5_quietCount_16 rfl (lv_at hl 2 rfl) ?_
        refine tw_zald hC hR hk dX5_quietCount_17 (fun v3 gv3 hk => ?_)
        refine tw_zeq (tgt := 24) hC hk gv3 dX5_quietCount_18 (by decide) (fun _ hk => ?_) (fun _ hk => ?_)
        · cases hk
          exact ih _ out hf H locs _ gx1 gx2 hR hL (lv_sub hl [0, 1, 2] rfl)
        · refine tw_iinc (lv' := [(1, .int (tw_I (tm_wr (x1 + 1)))), (0, .ref this), (2, .int (tw_I x2))]) hC dX5_quietCount_21 hl (k := 1) rfl (by decide) rfl (fun ls hl => ?_)
          cases hk
          exact ih _ out hf H locs _ ((tm_wr_rg _)) gx2 hR hL (lv_sub hl [1, 0, 2] rfl)
      · refine lv_iload_n hC.1 hC.2.1 dX5_quietCount_30 rfl (lv_at hl 1 rfl) ?_
        cases hk
        cases hf
        exact tw_iret hC hR hL gx1 rfl rfl dX5_quietCount_31
    · intro H locs ls gx1 gx2 hR hL hl
      dsimp only [fX5_quietCount_S0] at hk
      refine tw_iinc (lv' := [(2, .int (tw_I (tm_wr (x2 + 1)))), (0, .ref this), (1, .int (tw_I x1))]) hC dX5_quietCount_24 hl (k := 2) rfl (by decide) rfl (fun ls hl => ?_)
      refine lv_goto (tgt := 4) hC.1 hC.2.1 dX5_quietCount_27 (by decide) ?_
      cases hk
      exact ih _ out hf H locs _ gx1 ((tm_wr_rg _)) hR hL (lv_sub hl [1, 2, 0] rfl)
theorem sX5_quietCount_L4 {l : Launch} {p : Program} {e : Env} {s : State} {m : MethodId} {args : Array Value} {below : List Frame} {meth : Method} {c : Code} (G : tw_G) (sz : Nat) (hC : tw_C G p s m args meth c RX5 cX5_quietCount 3 (some .int)) (this : Nat)  (h : tm_H) (x1 : Int) (x2 : Int) (gx1 : tm_rg x1) (gx2 : tm_rg x2) (out : Int) (hk : fX5_quietCount_L4 this h x1 x2 = some out) (H : Heap) (locs : List Loc) (ls : Array Slot) (hR : tw_Rel G sz h H) (hL : tw_L G locs) (hl : lv_has ls 3 [(0, .ref this), (1, .int (tw_I x1)), (2, .int (tw_I x2))]) : W p l e rmX5_quietCount s m args below meth c H locs 0 0 (MQ below (tw_Qi G sz out h) args s 0 0 (tw_F G)) (F0 m 4 ls []) := by
  obtain ⟨k, hk⟩ := tm_wl_iff.mp hk
  exact sX5_quietCount_S0 G sz hC this  h k (.inl ((x1, x2))) out hk H locs ls gx1 gx2 hR hL hl
theorem sX5_quietCount_L24 {l : Launch} {p : Program} {e : Env} {s : State} {m : MethodId} {args : Array Value} {below : List Frame} {meth : Method} {c : Code} (G : tw_G) (sz : Nat) (hC : tw_C G p s m args meth c RX5 cX5_quietCount 3 (some .int)) (this : Nat)  (h : tm_H) (x1 : Int) (x2 : Int) (gx1 : tm_rg x1) (gx2 : tm_rg x2) (out : Int) (hk : fX5_quietCount_L24 this h x1 x2 = some out) (H : Heap) (locs : List Loc) (ls : Array Slot) (hR : tw_Rel G sz h H) (hL : tw_L G locs) (hl : lv_has ls 3 [(0, .ref this), (1, .int (tw_I x1)), (2, .int (tw_I x2))]) : W p l e rmX5_quietCount s m args below meth c H locs 0 0 (MQ below (tw_Qi G sz out h) args s 0 0 (tw_F G)) (F0 m 24 ls []) := by
  obtain ⟨k, hk⟩ := tm_wl_iff.mp hk
  exact sX5_quietCount_S0 G sz hC this  h k (.inr ((x1, x2))) out hk H locs ls gx1 gx2 hR hL hl
set_option maxRecDepth 100000 in
set_option maxHeartbeats 4000000 in
theorem cX5_quietCount_ok (l : Launch) (G : tw_G) (sz : Nat) (this : Nat)  (h : tm_H) (out : Int) (hk : fX5_quietCount this h = some out) : Met l yX5_quietCount (tw_WS yX5_quietCount cX5_quietCount 3 (some .int)) rmX5_quietCount (va_Pc [.ref this] (tw_Pre G sz h)) (tw_Qi G sz out h) 0 0 (tw_F G) := by
  refine tw_met (by decide +kernel) (Nat.le_of_ble_eq_true rfl) ?_
  intro p e s m args below meth c H ls hC hnm hR hl
  unfold fX5_quietCount at hk
  obtain ⟨hob, hk⟩ := tm_th_is hk
  have hl : lv_has ls 3 [(0, .ref this)] := hl
  have hL : tw_L G [] := fun q z => by cases z
  generalize hlc : ([] : List Loc) = locs at hL ⊢
  refine lv_iconst (v := tw_I 0) hC.1 hC.2.1 dX5_quietCount_0 rfl ?_
  refine lv_istore_n (lv' := [(1, .int (tw_I 0)), (0, .ref this)]) hC.1 hC.2.1 dX5_quietCount_1 rfl hl (by decide) rfl (fun ls hl => ?_)
  refine lv_iconst (v := tw_I 0) hC.1 hC.2.1 dX5_quietCount_2 rfl ?_
  refine lv_istore_n (lv' := [(2, .int (tw_I 0)), (1, .int (tw_I 0)), (0, .ref this)]) hC.1 hC.2.1 dX5_quietCount_3 rfl hl (by decide) rfl (fun ls hl => ?_)
  exact sX5_quietCount_L4 G sz hC this h 0 0 ((tw_rgL rfl)) ((tw_rgL rfl)) out hk H locs _ hR hL (lv_sub hl [2, 1, 0] rfl)
set_option maxRecDepth 100000 in
theorem kX5_quietCount {l : Launch} {p : Program} {e : Env} {R : Room} {s : State} {m : MethodId} {args : Array Value} {below : List Frame} {meth : Method} {c : Code} {H : Heap} {locs : List Loc} {cells slots : Nat} {Q : State → Prop} {cc : ByteArray} {pc nL idx : Nat} {ls : Array Slot} {rest : List Value} {G : tw_G} {h : tm_H} {own : String} {ret : Option FieldType} {α : Type} {x : α} {sz : Nat} {this : Nat} (hC : tw_C G p s m args meth c own cc nL ret) (hR : tw_Rel G sz h H) (hL : tw_L G locs) {F : Int → Option α} (hk : (fX5_quietCount this h).bind F = some x)  (hl : tw_mL own idx yX5_quietCount) (hRm : rmX5_quietCount.frames + 1 ≤ R.frames ∧ 8 + (3 + 11) + rmX5_quietCount.locals ≤ R.locals) (hsz : ls.size = nL) (hW : (rest.map fun v => v.category).sum ≤ 8) (hf : cells + 0 ≤ R.cells ∧ slots + 0 ≤ R.slots) (hdg : decode cc pc = .ok (.invokevirtual idx, 3)) (kk : ∀ (r : Int) (H1 : Heap) (locs1 : List Loc), tw_Rel G sz h H1 → tw_L G locs1 → tm_rg r → F r = some x → W p l e R s m args below meth c H1 locs1 (cells + 0) (slots + 0) Q (F0 m (pc + 3) ls (.int (tw_I r) :: rest))) : W p l e R s m args below meth c H locs cells slots Q (F0 m pc ls (.ref this :: rest)) := by
  obtain ⟨r, hr, hF⟩ := Option.bind_eq_some_iff.mp hk
  have ob : ∀ r, fX5_quietCount this h = some r → tm_is h 5 this := fun r hr => by
    unfold fX5_quietCount at hr
    exact (tm_th_is hr).1
  exact tw_backi (tw_runV hC hR (cX5_quietCount_ok l G sz this  h r hr) (n := 0) (As := []) ⟨tw_in_TB 682 (by decide +kernel) rfl, tw_in_TB 57 (by decide +kernel) rfl, by decide +kernel⟩ (tw_in_TB 680 (by decide +kernel) rfl) (tw_in_TB 681 (by decide +kernel) rfl) hl ⟨rfl, rfl⟩ hRm (ob r hr) (T := TX5) (N := 4) rfl rfl hsz rfl hW hdg hf) hL (fun H1 locs1 a b g => kk r H1 locs1 a b g hF)
def rmX5_hush : Room := { frames := 1, cells := 0, slots := 0, locals := 21 }
set_option maxRecDepth 100000 in
set_option maxHeartbeats 4000000 in
theorem cX5_hush_ok (l : Launch) (G : tw_G) (sz : Nat) (this : Nat) (a1 : Int) (a2 : Int) (ga1 : tm_rg a1) (ga2 : tm_rg a2) (h : tm_H) (out : tm_H) (hk : fX5_hush this a1 a2 h = some out) : Met l yX5_hush (tw_WS yX5_hush cX5_hush 3 none) rmX5_hush (va_Pc [.ref this, .int (tw_I a1), .int (tw_I a2)] (tw_Pre G sz h)) (tw_Qv G sz out) 0 0 (tw_F G) := by
  refine tw_met (by decide +kernel) (Nat.le_of_ble_eq_true rfl) ?_
  intro p e s m args below meth c H ls hC hnm hR hl
  unfold fX5_hush at hk
  obtain ⟨hob, hk⟩ := tm_th_is hk
  have hl : lv_has ls 3 [(0, .ref this), (1, .int (tw_I a1)), (2, .int (tw_I a2))] := hl
  have hL : tw_L G [] := fun q z => by cases z
  generalize hlc : ([] : List Loc) = locs at hL ⊢
  refine lv_aload_n hC.1 hC.2.1 dX5_hush_0 rfl (lv_at hl 0 rfl) ?_
  refine lv_iload_n hC.1 hC.2.1 dX5_hush_1 rfl (lv_at hl 1 rfl) ?_
  refine kX5_has hC hR hL hk ga1 mlX5_28 ⟨by decide, by decide⟩ hl.1 (Nat.le_of_ble_eq_true rfl) ⟨Nat.zero_le _, Nat.zero_le _⟩ dX5_hush_2 (fun v1 H locs hR hL gv1 hk => ?_)
  refine tw_zeq (tgt := 15) hC hk gv1 dX5_hush_5 (by decide) (fun _ hk => ?_) (fun _ hk => ?_)
  · cases hk
    exact tw_vret hC hR hL rfl dX5_hush_15
  · refine lv_aload_n hC.1 hC.2.1 dX5_hush_8 rfl (lv_at hl 0 rfl) ?_
    refine tw_getR hC hR hk flX5_20 dX5_hush_9 (fun r2 hk => ?_)
    refine lv_iload_n hC.1 hC.2.1 dX5_hush_12 rfl (lv_at hl 1 rfl) ?_
    refine lv_iload_n hC.1 hC.2.1 dX5_hush_13 rfl (lv_at hl 2 rfl) ?_
    refine tw_zast hC hR hL hk dX5_hush_14 (fun h3 H locs hR hL hk => ?_)
    cases hk
    exact tw_vret hC hR hL rfl dX5_hush_15
set_option maxRecDepth 100000 in
theorem kX5_hush {l : Launch} {p : Program} {e : Env} {R : Room} {s : State} {m : MethodId} {args : Array Value} {below : List Frame} {meth : Method} {c : Code} {H : Heap} {locs : List Loc} {cells slots : Nat} {Q : State → Prop} {cc : ByteArray} {pc nL idx : Nat} {ls : Array Slot} {rest : List Value} {G : tw_G} {h : tm_H} {own : String} {ret : Option FieldType} {α : Type} {x : α} {sz : Nat} {this : Nat} {a1 : Int} {a2 : Int} (hC : tw_C G p s m args meth c own cc nL ret) (hR : tw_Rel G sz h H) (hL : tw_L G locs) {F : tm_H → Option α} (hk : (fX5_hush this a1 a2 h).bind F = some x) (ga1 : tm_rg a1) (ga2 : tm_rg a2) (hl : tw_mL own idx yX5_hush) (hRm : rmX5_hush.frames + 1 ≤ R.frames ∧ 8 + (3 + 11) + rmX5_hush.locals ≤ R.locals) (hsz : ls.size = nL) (hW : (rest.map fun v => v.category).sum ≤ 8) (hf : cells + 0 ≤ R.cells ∧ slots + 0 ≤ R.slots) (hdg : decode cc pc = .ok (.invokevirtual idx, 3)) (kk : ∀ (h1 : tm_H) (H1 : Heap) (locs1 : List Loc), tw_Rel G sz h1 H1 → tw_L G locs1 → F h1 = some x → W p l e R s m args below meth c H1 locs1 (cells + 0) (slots + 0) Q (F0 m (pc + 3) ls (rest))) : W p l e R s m args below meth c H locs cells slots Q (F0 m pc ls (.int (tw_I a2) :: .int (tw_I a1) :: .ref this :: rest)) := by
  obtain ⟨r, hr, hF⟩ := Option.bind_eq_some_iff.mp hk
  have ob : ∀ r, fX5_hush this a1 a2 h = some r → tm_is h 5 this := fun r hr => by
    unfold fX5_hush at hr
    exact (tm_th_is hr).1
  exact tw_backv (tw_runV hC hR (cX5_hush_ok l G sz this a1 a2 ga1 ga2 h r hr) (n := 2) (As := [.int (tw_I a1), .int (tw_I a2)]) ⟨tw_in_TB 458 (by decide +kernel) rfl, tw_in_TB 57 (by decide +kernel) rfl, by decide +kernel⟩ (tw_in_TB 456 (by decide +kernel) rfl) (tw_in_TB 457 (by decide +kernel) rfl) hl ⟨rfl, rfl⟩ hRm (ob r hr) (T := TX5) (N := 4) rfl rfl hsz rfl hW hdg hf) hL (fun H1 locs1 a b => kk r H1 locs1 a b hF)
def rmX5_drop : Room := { frames := 1, cells := 0, slots := 0, locals := 21 }
set_option maxRecDepth 100000 in
set_option maxHeartbeats 4000000 in
theorem sX5_drop_S0 {l : Launch} {p : Program} {e : Env} {s : State} {m : MethodId} {args : Array Value} {below : List Frame} {meth : Method} {c : Code} (G : tw_G) (sz : Nat) (hC : tw_C G p s m args meth c RX5 cX5_drop 4 none) (this : Nat) (a1 : Int) (ga1 : tm_rg a1) : ∀ (k : Nat) (st : (Nat × Int × tm_H)) (out : tm_H), tm_wit (fX5_drop_S0 this a1) k st = some out → match st with
    | (x2, x3, h) => ∀ (H : Heap) (locs : List Loc) (ls : Array Slot), tm_rg x3 → tw_Rel G sz h H → tw_L G locs → lv_has ls 4 [(0, .ref this), (1, .int (tw_I a1)), (2, .ref x2), (3, .int (tw_I x3))] → W p l e rmX5_drop s m args below meth c H locs 0 0 (MQ below (tw_Qv G sz out) args s 0 0 (tw_F G)) (F0 m 20 ls []) := by
  intro k
  induction k with
  | zero =>
    intro st out hk
    exact absurd hk (by unfold tm_wit; exact fun z => by cases z)
  | succ k ih =>
    intro st out hk
    obtain ⟨X, hk, hf⟩ := tm_wit_succ hk
    obtain ⟨x2, x3, h⟩ := st
    intro H locs ls gx3 hR hL hl
    dsimp only [fX5_drop_S0] at hk
    refine lv_iload_n hC.1 hC.2.1 dX5_drop_20 rfl (lv_at hl 3 rfl) ?_
    refine lv_aload_n hC.1 hC.2.1 dX5_drop_21 rfl (lv_at hl 0 rfl) ?_
    refine tw_getI hC hR hk flX5_24 dX5_drop_22 (fun v4 gv4 hk => ?_)
    refine tw_cge (tgt := 76) hC hk gx3 gv4 dX5_drop_25 (by decide) (fun _ hk => ?_) (fun _ hk => ?_)
    · refine lv_aload_n hC.1 hC.2.1 dX5_drop_28 rfl (lv_at hl 0 rfl) ?_
      refine tw_getR hC hR hk flX5_13 dX5_drop_29 (fun r5 hk => ?_)
      refine lv_iload_n hC.1 hC.2.1 dX5_drop_32 rfl (lv_at hl 3 rfl) ?_
      refine lv_iconst (v := tw_I 1) hC.1 hC.2.1 dX5_drop_33 rfl ?_
      refine tw_isub hC dX5_drop_34 ?_
      refine lv_aload_n hC.1 hC.2.1 dX5_drop_35 rfl (lv_at hl 0 rfl) ?_
      refine tw_getR hC hR hk flX5_13 dX5_drop_36 (fun r6 hk => ?_)
      refine lv_iload_n hC.1 hC.2.1 dX5_drop_39 rfl (lv_at hl 3 rfl) ?_
      refine tw_aald hC hR hk dX5_drop_40 (fun r7 hk => ?_)
      refine tw_aast hC hR hL tw_ks5 hk dX5_drop_41 (fun h8 H locs hR hL hk => ?_)
      refine lv_aload_n hC.1 hC.2.1 dX5_drop_42 rfl (lv_at hl 0 rfl) ?_
      refine tw_getR hC hR hk flX5_16 dX5_drop_43 (fun r9 hk => ?_)
      refine lv_iload_n hC.1 hC.2.1 dX5_drop_46 rfl (lv_at hl 3 rfl) ?_
      refine lv_iconst (v := tw_I 1) hC.1 hC.2.1 dX5_drop_47 rfl ?_
      refine tw_isub hC dX5_drop_48 ?_
      refine lv_aload_n hC.1 hC.2.1 dX5_drop_49 rfl (lv_at hl 0 rfl) ?_
      refine tw_getR hC hR hk flX5_16 dX5_drop_50 (fun r10 hk => ?_)
      refine lv_iload_n hC.1 hC.2.1 dX5_drop_53 rfl (lv_at hl 3 rfl) ?_
      refine tw_iald hC hR hk dX5_drop_54 (fun v11 gv11 hk => ?_)
      refine tw_iast hC hR hL gv11 hk dX5_drop_55 (fun h12 H locs hR hL hk => ?_)
      refine lv_aload_n hC.1 hC.2.1 dX5_drop_56 rfl (lv_at hl 0 rfl) ?_
      refine tw_getR hC hR hk flX5_20 dX5_drop_57 (fun r13 hk => ?_)
      refine lv_iload_n hC.1 hC.2.1 dX5_drop_60 rfl (lv_at hl 3 rfl) ?_
      refine lv_iconst (v := tw_I 1) hC.1 hC.2.1 dX5_drop_61 rfl ?_
      refine tw_isub hC dX5_drop_62 ?_
      refine lv_aload_n hC.1 hC.2.1 dX5_drop_63 rfl (lv_at hl 0 rfl) ?_
      refine tw_getR hC hR hk flX5_20 dX5_drop_64 (fun r14 hk => ?_)
      refine lv_iload_n hC.1 hC.2.1 dX5_drop_67 rfl (lv_at hl 3 rfl) ?_
      refine tw_zald hC hR hk dX5_drop_68 (fun v15 gv15 hk => ?_)
      refine tw_zast hC hR hL hk dX5_drop_69 (fun h16 H locs hR hL hk => ?_)
      refine tw_iinc (lv' := [(3, .int (tw_I (tm_wr (x3 + 1)))), (0, .ref this), (1, .int (tw_I a1)), (2, .ref x2)]) hC dX5_drop_70 hl (k := 3) rfl (by decide) rfl (fun ls hl => ?_)
      refine lv_goto (tgt := 20) hC.1 hC.2.1 dX5_drop_73 (by decide) ?_
      cases hk
      exact ih _ out hf H locs _ ((tm_wr_rg _)) hR hL (lv_sub hl [1, 2, 3, 0] rfl)
    · refine lv_aload_n hC.1 hC.2.1 dX5_drop_76 rfl (lv_at hl 0 rfl) ?_
      refine lv_dup hC.1 hC.2.1 dX5_drop_77 rfl ?_
      refine tw_getI hC hR hk flX5_24 dX5_drop_78 (fun v17 gv17 hk => ?_)
      refine lv_iconst (v := tw_I 1) hC.1 hC.2.1 dX5_drop_81 rfl ?_
      refine tw_isub hC dX5_drop_82 ?_
      refine tw_putI hC hR hL ((tm_wr_rg _)) hk fpX5_24 dX5_drop_83 (fun h18 H locs hR hL hk => ?_)
      refine lv_aload_n hC.1 hC.2.1 dX5_drop_86 rfl (lv_at hl 0 rfl) ?_
      refine tw_getR hC hR hk flX5_13 dX5_drop_87 (fun r19 hk => ?_)
      refine lv_aload_n hC.1 hC.2.1 dX5_drop_90 rfl (lv_at hl 0 rfl) ?_
      refine tw_getI hC hR hk flX5_24 dX5_drop_91 (fun v20 gv20 hk => ?_)
      refine lv_aload_n hC.1 hC.2.1 dX5_drop_94 rfl (lv_at hl 2 rfl) ?_
      refine tw_aast hC hR hL tw_ks5 hk dX5_drop_95 (fun h21 H locs hR hL hk => ?_)
      cases hk
      cases hf
      exact tw_vret hC hR hL rfl dX5_drop_96
theorem sX5_drop_L20 {l : Launch} {p : Program} {e : Env} {s : State} {m : MethodId} {args : Array Value} {below : List Frame} {meth : Method} {c : Code} (G : tw_G) (sz : Nat) (hC : tw_C G p s m args meth c RX5 cX5_drop 4 none) (this : Nat) (a1 : Int) (ga1 : tm_rg a1) (x2 : Nat) (x3 : Int) (h : tm_H) (gx3 : tm_rg x3) (out : tm_H) (hk : fX5_drop_L20 this a1 x2 x3 h = some out) (H : Heap) (locs : List Loc) (ls : Array Slot) (hR : tw_Rel G sz h H) (hL : tw_L G locs) (hl : lv_has ls 4 [(0, .ref this), (1, .int (tw_I a1)), (2, .ref x2), (3, .int (tw_I x3))]) : W p l e rmX5_drop s m args below meth c H locs 0 0 (MQ below (tw_Qv G sz out) args s 0 0 (tw_F G)) (F0 m 20 ls []) := by
  obtain ⟨k, hk⟩ := tm_wl_iff.mp hk
  exact sX5_drop_S0 G sz hC this a1 ga1 k ((x2, x3, h)) out hk H locs ls gx3 hR hL hl
set_option maxRecDepth 100000 in
set_option maxHeartbeats 4000000 in
theorem cX5_drop_ok (l : Launch) (G : tw_G) (sz : Nat) (this : Nat) (a1 : Int) (ga1 : tm_rg a1) (h : tm_H) (out : tm_H) (hk : fX5_drop this a1 h = some out) : Met l yX5_drop (tw_WS yX5_drop cX5_drop 4 none) rmX5_drop (va_Pc [.ref this, .int (tw_I a1)] (tw_Pre G sz h)) (tw_Qv G sz out) 0 0 (tw_F G) := by
  refine tw_met (by decide +kernel) (Nat.le_of_ble_eq_true rfl) ?_
  intro p e s m args below meth c H ls hC hnm hR hl
  unfold fX5_drop at hk
  obtain ⟨hob, hk⟩ := tm_th_is hk
  have hl : lv_has ls 4 [(0, .ref this), (1, .int (tw_I a1))] := hl
  have hL : tw_L G [] := fun q z => by cases z
  generalize hlc : ([] : List Loc) = locs at hL ⊢
  refine lv_aload_n hC.1 hC.2.1 dX5_drop_0 rfl (lv_at hl 0 rfl) ?_
  refine lv_iload_n hC.1 hC.2.1 dX5_drop_1 rfl (lv_at hl 1 rfl) ?_
  refine kX5_has hC hR hL hk ga1 mlX5_28 ⟨by decide, by decide⟩ hl.1 (Nat.le_of_ble_eq_true rfl) ⟨Nat.zero_le _, Nat.zero_le _⟩ dX5_drop_2 (fun v1 H locs hR hL gv1 hk => ?_)
  refine tw_zne (tgt := 9) hC hk gv1 dX5_drop_5 (by decide) (fun _ hk => ?_) (fun _ hk => ?_)
  · cases hk
    exact tw_vret hC hR hL rfl dX5_drop_8
  · refine lv_aload_n hC.1 hC.2.1 dX5_drop_9 rfl (lv_at hl 0 rfl) ?_
    refine tw_getR hC hR hk flX5_13 dX5_drop_10 (fun r2 hk => ?_)
    refine lv_iload_n hC.1 hC.2.1 dX5_drop_13 rfl (lv_at hl 1 rfl) ?_
    refine tw_aald hC hR hk dX5_drop_14 (fun r3 hk => ?_)
    refine lv_astore_n (lv' := [(2, .ref r3), (0, .ref this), (1, .int (tw_I a1))]) hC.1 hC.2.1 dX5_drop_15 rfl hl (by decide) rfl (fun ls hl => ?_)
    refine lv_iload_n hC.1 hC.2.1 dX5_drop_16 rfl (lv_at hl 2 rfl) ?_
    refine lv_iconst (v := tw_I 1) hC.1 hC.2.1 dX5_drop_17 rfl ?_
    refine tw_iadd hC dX5_drop_18 ?_
    refine lv_istore_n (lv' := [(3, .int (tw_I (tm_wr (a1 + 1)))), (2, .ref r3), (0, .ref this), (1, .int (tw_I a1))]) hC.1 hC.2.1 dX5_drop_19 rfl hl (by decide) rfl (fun ls hl => ?_)
    exact sX5_drop_L20 G sz hC this a1 ga1 r3 (tm_wr (a1 + 1)) h ((tm_wr_rg _)) out hk H locs _ hR hL (lv_sub hl [2, 3, 1, 0] rfl)
set_option maxRecDepth 100000 in
theorem kX5_drop {l : Launch} {p : Program} {e : Env} {R : Room} {s : State} {m : MethodId} {args : Array Value} {below : List Frame} {meth : Method} {c : Code} {H : Heap} {locs : List Loc} {cells slots : Nat} {Q : State → Prop} {cc : ByteArray} {pc nL idx : Nat} {ls : Array Slot} {rest : List Value} {G : tw_G} {h : tm_H} {own : String} {ret : Option FieldType} {α : Type} {x : α} {sz : Nat} {this : Nat} {a1 : Int} (hC : tw_C G p s m args meth c own cc nL ret) (hR : tw_Rel G sz h H) (hL : tw_L G locs) {F : tm_H → Option α} (hk : (fX5_drop this a1 h).bind F = some x) (ga1 : tm_rg a1) (hl : tw_mL own idx yX5_drop) (hRm : rmX5_drop.frames + 1 ≤ R.frames ∧ 8 + (4 + 11) + rmX5_drop.locals ≤ R.locals) (hsz : ls.size = nL) (hW : (rest.map fun v => v.category).sum ≤ 8) (hf : cells + 0 ≤ R.cells ∧ slots + 0 ≤ R.slots) (hdg : decode cc pc = .ok (.invokevirtual idx, 3)) (kk : ∀ (h1 : tm_H) (H1 : Heap) (locs1 : List Loc), tw_Rel G sz h1 H1 → tw_L G locs1 → F h1 = some x → W p l e R s m args below meth c H1 locs1 (cells + 0) (slots + 0) Q (F0 m (pc + 3) ls (rest))) : W p l e R s m args below meth c H locs cells slots Q (F0 m pc ls (.int (tw_I a1) :: .ref this :: rest)) := by
  obtain ⟨r, hr, hF⟩ := Option.bind_eq_some_iff.mp hk
  have ob : ∀ r, fX5_drop this a1 h = some r → tm_is h 5 this := fun r hr => by
    unfold fX5_drop at hr
    exact (tm_th_is hr).1
  exact tw_backv (tw_runV hC hR (cX5_drop_ok l G sz this a1 ga1 h r hr) (n := 1) (As := [.int (tw_I a1)]) ⟨tw_in_TB 450 (by decide +kernel) rfl, tw_in_TB 57 (by decide +kernel) rfl, by decide +kernel⟩ (tw_in_TB 448 (by decide +kernel) rfl) (tw_in_TB 449 (by decide +kernel) rfl) hl ⟨rfl, rfl⟩ hRm (ob r hr) (T := TX5) (N := 4) rfl rfl hsz rfl hW hdg hf) hL (fun H1 locs1 a b => kk r H1 locs1 a b hF)
def rmX6_add : Room := { frames := 0, cells := 0, slots := 0, locals := 0 }
set_option maxRecDepth 100000 in
set_option maxHeartbeats 4000000 in
theorem cX6_add_ok (l : Launch) (G : tw_G) (sz : Nat) (this : Nat) (a1 : Int) (ga1 : tm_rg a1) (h : tm_H) (out : tm_H) (hk : fX6_add this a1 h = some out) : Met l yX6_add (tw_WS yX6_add cX6_add 2 none) rmX6_add (va_Pc [.ref this, .int (tw_I a1)] (tw_Pre G sz h)) (tw_Qv G sz out) 0 0 (tw_F G) := by
  refine tw_met (by decide +kernel) (Nat.le_of_ble_eq_true rfl) ?_
  intro p e s m args below meth c H ls hC hnm hR hl
  unfold fX6_add at hk
  obtain ⟨hob, hk⟩ := tm_th_is hk
  have hl : lv_has ls 2 [(0, .ref this), (1, .int (tw_I a1))] := hl
  have hL : tw_L G [] := fun q z => by cases z
  generalize hlc : ([] : List Loc) = locs at hL ⊢
  refine lv_aload_n hC.1 hC.2.1 dX6_add_0 rfl (lv_at hl 0 rfl) ?_
  refine tw_getI hC hR hk flX6_13 dX6_add_1 (fun v1 gv1 hk => ?_)
  refine lv_sipush (v := tw_I 140) hC.1 hC.2.1 dX6_add_4 (by decide) ?_
  refine tw_cge (tgt := 30) hC hk gv1 ((tw_rgL rfl)) dX6_add_7 (by decide) (fun _ hk => ?_) (fun _ hk => ?_)
  · refine lv_aload_n hC.1 hC.2.1 dX6_add_10 rfl (lv_at hl 0 rfl) ?_
    refine tw_getR hC hR hk flX6_9 dX6_add_11 (fun r2 hk => ?_)
    refine lv_aload_n hC.1 hC.2.1 dX6_add_14 rfl (lv_at hl 0 rfl) ?_
    refine tw_getI hC hR hk flX6_13 dX6_add_15 (fun v3 gv3 hk => ?_)
    refine lv_iload_n hC.1 hC.2.1 dX6_add_18 rfl (lv_at hl 1 rfl) ?_
    refine tw_iast hC hR hL ga1 hk dX6_add_19 (fun h4 H locs hR hL hk => ?_)
    refine lv_aload_n hC.1 hC.2.1 dX6_add_20 rfl (lv_at hl 0 rfl) ?_
    refine lv_dup hC.1 hC.2.1 dX6_add_21 rfl ?_
    refine tw_getI hC hR hk flX6_13 dX6_add_22 (fun v5 gv5 hk => ?_)
    refine lv_iconst (v := tw_I 1) hC.1 hC.2.1 dX6_add_25 rfl ?_
    refine tw_iadd hC dX6_add_26 ?_
    refine tw_putI hC hR hL ((tm_wr_rg _)) hk fpX6_13 dX6_add_27 (fun h6 H locs hR hL hk => ?_)
    cases hk
    exact tw_vret hC hR hL rfl dX6_add_30
  · cases hk
    exact tw_vret hC hR hL rfl dX6_add_30
set_option maxRecDepth 100000 in
theorem kX6_add {l : Launch} {p : Program} {e : Env} {R : Room} {s : State} {m : MethodId} {args : Array Value} {below : List Frame} {meth : Method} {c : Code} {H : Heap} {locs : List Loc} {cells slots : Nat} {Q : State → Prop} {cc : ByteArray} {pc nL idx : Nat} {ls : Array Slot} {rest : List Value} {G : tw_G} {h : tm_H} {own : String} {ret : Option FieldType} {α : Type} {x : α} {sz : Nat} {this : Nat} {a1 : Int} (hC : tw_C G p s m args meth c own cc nL ret) (hR : tw_Rel G sz h H) (hL : tw_L G locs) {F : tm_H → Option α} (hk : (fX6_add this a1 h).bind F = some x) (ga1 : tm_rg a1) (hl : tw_mL own idx yX6_add) (hRm : rmX6_add.frames + 1 ≤ R.frames ∧ 8 + (2 + 11) + rmX6_add.locals ≤ R.locals) (hsz : ls.size = nL) (hW : (rest.map fun v => v.category).sum ≤ 8) (hf : cells + 0 ≤ R.cells ∧ slots + 0 ≤ R.slots) (hdg : decode cc pc = .ok (.invokevirtual idx, 3)) (kk : ∀ (h1 : tm_H) (H1 : Heap) (locs1 : List Loc), tw_Rel G sz h1 H1 → tw_L G locs1 → F h1 = some x → W p l e R s m args below meth c H1 locs1 (cells + 0) (slots + 0) Q (F0 m (pc + 3) ls (rest))) : W p l e R s m args below meth c H locs cells slots Q (F0 m pc ls (.int (tw_I a1) :: .ref this :: rest)) := by
  obtain ⟨r, hr, hF⟩ := Option.bind_eq_some_iff.mp hk
  have ob : ∀ r, fX6_add this a1 h = some r → tm_is h 6 this := fun r hr => by
    unfold fX6_add at hr
    exact (tm_th_is hr).1
  exact tw_backv (tw_runV hC hR (cX6_add_ok l G sz this a1 ga1 h r hr) (n := 1) (As := [.int (tw_I a1)]) ⟨tw_in_TB 540 (by decide +kernel) rfl, tw_in_TB 60 (by decide +kernel) rfl, by decide +kernel⟩ (tw_in_TB 538 (by decide +kernel) rfl) (tw_in_TB 539 (by decide +kernel) rfl) hl ⟨rfl, rfl⟩ hRm (ob r hr) (T := TX6) (N := 2) rfl rfl hsz rfl hW hdg hf) hL (fun H1 locs1 a b => kk r H1 locs1 a b hF)
def rmX6_empty : Room := { frames := 0, cells := 0, slots := 0, locals := 0 }
set_option maxRecDepth 100000 in
set_option maxHeartbeats 4000000 in
theorem cX6_empty_ok (l : Launch) (G : tw_G) (sz : Nat) (this : Nat)  (h : tm_H) (out : tm_H) (hk : fX6_empty this h = some out) : Met l yX6_empty (tw_WS yX6_empty cX6_empty 1 none) rmX6_empty (va_Pc [.ref this] (tw_Pre G sz h)) (tw_Qv G sz out) 0 0 (tw_F G) := by
  refine tw_met (by decide +kernel) (Nat.le_of_ble_eq_true rfl) ?_
  intro p e s m args below meth c H ls hC hnm hR hl
  unfold fX6_empty at hk
  obtain ⟨hob, hk⟩ := tm_th_is hk
  have hl : lv_has ls 1 [(0, .ref this)] := hl
  have hL : tw_L G [] := fun q z => by cases z
  generalize hlc : ([] : List Loc) = locs at hL ⊢
  refine lv_aload_n hC.1 hC.2.1 dX6_empty_0 rfl (lv_at hl 0 rfl) ?_
  refine lv_iconst (v := tw_I 0) hC.1 hC.2.1 dX6_empty_1 rfl ?_
  refine tw_putI hC hR hL ((tw_rgL rfl)) hk fpX6_13 dX6_empty_2 (fun h1 H locs hR hL hk => ?_)
  cases hk
  exact tw_vret hC hR hL rfl dX6_empty_5
set_option maxRecDepth 100000 in
theorem kX6_empty {l : Launch} {p : Program} {e : Env} {R : Room} {s : State} {m : MethodId} {args : Array Value} {below : List Frame} {meth : Method} {c : Code} {H : Heap} {locs : List Loc} {cells slots : Nat} {Q : State → Prop} {cc : ByteArray} {pc nL idx : Nat} {ls : Array Slot} {rest : List Value} {G : tw_G} {h : tm_H} {own : String} {ret : Option FieldType} {α : Type} {x : α} {sz : Nat} {this : Nat} (hC : tw_C G p s m args meth c own cc nL ret) (hR : tw_Rel G sz h H) (hL : tw_L G locs) {F : tm_H → Option α} (hk : (fX6_empty this h).bind F = some x)  (hl : tw_mL own idx yX6_empty) (hRm : rmX6_empty.frames + 1 ≤ R.frames ∧ 8 + (1 + 11) + rmX6_empty.locals ≤ R.locals) (hsz : ls.size = nL) (hW : (rest.map fun v => v.category).sum ≤ 8) (hf : cells + 0 ≤ R.cells ∧ slots + 0 ≤ R.slots) (hdg : decode cc pc = .ok (.invokevirtual idx, 3)) (kk : ∀ (h1 : tm_H) (H1 : Heap) (locs1 : List Loc), tw_Rel G sz h1 H1 → tw_L G locs1 → F h1 = some x → W p l e R s m args below meth c H1 locs1 (cells + 0) (slots + 0) Q (F0 m (pc + 3) ls (rest))) : W p l e R s m args below meth c H locs cells slots Q (F0 m pc ls (.ref this :: rest)) := by
  obtain ⟨r, hr, hF⟩ := Option.bind_eq_some_iff.mp hk
  have ob : ∀ r, fX6_empty this h = some r → tm_is h 6 this := fun r hr => by
    unfold fX6_empty at hr
    exact (tm_th_is hr).1
  exact tw_backv (tw_runV hC hR (cX6_empty_ok l G sz this  h r hr) (n := 0) (As := []) ⟨tw_in_TB 548 (by decide +kernel) rfl, tw_in_TB 60 (by decide +kernel) rfl, by decide +kernel⟩ (tw_in_TB 546 (by decide +kernel) rfl) (tw_in_TB 547 (by decide +kernel) rfl) hl ⟨rfl, rfl⟩ hRm (ob r hr) (T := TX6) (N := 2) rfl rfl hsz rfl hW hdg hf) hL (fun H1 locs1 a b => kk r H1 locs1 a b hF)
def rmX7_size : Room := { frames := 0, cells := 0, slots := 0, locals := 0 }
set_option maxRecDepth 100000 in
set_option maxHeartbeats 4000000 in
theorem cX7_size_ok (l : Launch) (G : tw_G) (sz : Nat) (this : Nat)  (h : tm_H) (out : Int) (hk : fX7_size this h = some out) : Met l yX7_size (tw_WS yX7_size cX7_size 1 (some .int)) rmX7_size (va_Pc [.ref this] (tw_Pre G sz h)) (tw_Qi G sz out h) 0 0 (tw_F G) := by
  refine tw_met (by decide +kernel) (Nat.le_of_ble_eq_true rfl) ?_
  intro p e s m args below meth c H ls hC hnm hR hl
  unfold fX7_size at hk
  obtain ⟨hob, hk⟩ := tm_th_is hk
  have hl : lv_has ls 1 [(0, .ref this)] := hl
  have hL : tw_L G [] := fun q z => by cases z
  generalize hlc : ([] : List Loc) = locs at hL ⊢
  refine lv_aload_n hC.1 hC.2.1 dX7_size_0 rfl (lv_at hl 0 rfl) ?_
  refine tw_getI hC hR hk flX7_19 dX7_size_1 (fun v1 gv1 hk => ?_)
  cases hk
  exact tw_iret hC hR hL gv1 rfl rfl dX7_size_4
set_option maxRecDepth 100000 in
theorem kX7_size {l : Launch} {p : Program} {e : Env} {R : Room} {s : State} {m : MethodId} {args : Array Value} {below : List Frame} {meth : Method} {c : Code} {H : Heap} {locs : List Loc} {cells slots : Nat} {Q : State → Prop} {cc : ByteArray} {pc nL idx : Nat} {ls : Array Slot} {rest : List Value} {G : tw_G} {h : tm_H} {own : String} {ret : Option FieldType} {α : Type} {x : α} {sz : Nat} {this : Nat} (hC : tw_C G p s m args meth c own cc nL ret) (hR : tw_Rel G sz h H) (hL : tw_L G locs) {F : Int → Option α} (hk : (fX7_size this h).bind F = some x)  (hl : tw_mL own idx yX7_size) (hRm : rmX7_size.frames + 1 ≤ R.frames ∧ 8 + (1 + 11) + rmX7_size.locals ≤ R.locals) (hsz : ls.size = nL) (hW : (rest.map fun v => v.category).sum ≤ 8) (hf : cells + 0 ≤ R.cells ∧ slots + 0 ≤ R.slots) (hdg : decode cc pc = .ok (.invokevirtual idx, 3)) (kk : ∀ (r : Int) (H1 : Heap) (locs1 : List Loc), tw_Rel G sz h H1 → tw_L G locs1 → tm_rg r → F r = some x → W p l e R s m args below meth c H1 locs1 (cells + 0) (slots + 0) Q (F0 m (pc + 3) ls (.int (tw_I r) :: rest))) : W p l e R s m args below meth c H locs cells slots Q (F0 m pc ls (.ref this :: rest)) := by
  obtain ⟨r, hr, hF⟩ := Option.bind_eq_some_iff.mp hk
  have ob : ∀ r, fX7_size this h = some r → tm_is h 7 this := fun r hr => by
    unfold fX7_size at hr
    exact (tm_th_is hr).1
  exact tw_backi (tw_runV hC hR (cX7_size_ok l G sz this  h r hr) (n := 0) (As := []) ⟨tw_in_TB 678 (by decide +kernel) rfl, tw_in_TB 55 (by decide +kernel) rfl, by decide +kernel⟩ (tw_in_TB 676 (by decide +kernel) rfl) (tw_in_TB 677 (by decide +kernel) rfl) hl ⟨rfl, rfl⟩ hRm (ob r hr) (T := TX7) (N := 3) rfl rfl hsz rfl hW hdg hf) hL (fun H1 locs1 a b g => kk r H1 locs1 a b g hF)
def rmX7_letterAt : Room := { frames := 1, cells := 0, slots := 0, locals := 21 }
set_option maxRecDepth 100000 in
set_option maxHeartbeats 4000000 in
theorem cX7_letterAt_ok (l : Launch) (G : tw_G) (sz : Nat) (this : Nat) (a1 : Int) (a2 : Int) (ga1 : tm_rg a1) (ga2 : tm_rg a2) (h : tm_H) (out : Int) (hk : fX7_letterAt this a1 a2 h = some out) : Met l yX7_letterAt (tw_WS yX7_letterAt cX7_letterAt 4 (some .int)) rmX7_letterAt (va_Pc [.ref this, .int (tw_I a1), .int (tw_I a2)] (tw_Pre G sz h)) (tw_Qi G sz out h) 0 0 (tw_F G) := by
  refine tw_met (by decide +kernel) (Nat.le_of_ble_eq_true rfl) ?_
  intro p e s m args below meth c H ls hC hnm hR hl
  unfold fX7_letterAt at hk
  obtain ⟨hob, hk⟩ := tm_th_is hk
  have hl : lv_has ls 4 [(0, .ref this), (1, .int (tw_I a1)), (2, .int (tw_I a2))] := hl
  have hL : tw_L G [] := fun q z => by cases z
  generalize hlc : ([] : List Loc) = locs at hL ⊢
  refine lv_aload_n hC.1 hC.2.1 dX7_letterAt_0 rfl (lv_at hl 0 rfl) ?_
  refine lv_iload_n hC.1 hC.2.1 dX7_letterAt_1 rfl (lv_at hl 1 rfl) ?_
  refine kX7_has hC hR hL hk ga1 mlX7_27 ⟨by decide, by decide⟩ hl.1 (Nat.le_of_ble_eq_true rfl) ⟨Nat.zero_le _, Nat.zero_le _⟩ dX7_letterAt_2 (fun v1 H locs hR hL gv1 hk => ?_)
  refine tw_zeq (tgt := 18) hC hk gv1 dX7_letterAt_5 (by decide) (fun _ hk => ?_) (fun _ hk => ?_)
  · refine lv_bipush (v := tw_I (-99)) hC.1 hC.2.1 dX7_letterAt_18 (by decide) ?_
    cases hk
    exact tw_iret hC hR hL ((tw_rgL rfl)) rfl rfl dX7_letterAt_20
  · refine lv_iload_n hC.1 hC.2.1 dX7_letterAt_8 rfl (lv_at hl 2 rfl) ?_
    refine tw_zlt (tgt := 18) hC hk ga2 dX7_letterAt_9 (by decide) (fun _ hk => ?_) (fun _ hk => ?_)
    · refine lv_bipush (v := tw_I (-99)) hC.1 hC.2.1 dX7_letterAt_18 (by decide) ?_
      cases hk
      exact tw_iret hC hR hL ((tw_rgL rfl)) rfl rfl dX7_letterAt_20
    · refine lv_iload_n hC.1 hC.2.1 dX7_letterAt_12 rfl (lv_at hl 2 rfl) ?_
      refine lv_bipush (v := tw_I 8) hC.1 hC.2.1 dX7_letterAt_13 (by decide) ?_
      refine tw_clt (tgt := 21) hC hk ga2 ((tw_rgL rfl)) dX7_letterAt_15 (by decide) (fun _ hk => ?_) (fun _ hk => ?_)
      · refine lv_aload_n hC.1 hC.2.1 dX7_letterAt_21 rfl (lv_at hl 0 rfl) ?_
        refine tw_getR hC hR hk flX7_11 dX7_letterAt_22 (fun r2 hk => ?_)
        refine lv_iload_n hC.1 hC.2.1 dX7_letterAt_25 rfl (lv_at hl 1 rfl) ?_
        refine tw_lald hC hR hk dX7_letterAt_26 (fun j3 hk => ?_)
        refine lv_iload_n hC.1 hC.2.1 dX7_letterAt_27 rfl (lv_at hl 2 rfl) ?_
        refine lv_bipush (v := tw_I 8) hC.1 hC.2.1 dX7_letterAt_28 (by decide) ?_
        refine tw_imul hC dX7_letterAt_30 ?_
        refine tw_lushr hC dX7_letterAt_31 ?_
        refine tw_l2i hC dX7_letterAt_32 ?_
        refine lv_sipush (v := tw_I 255) hC.1 hC.2.1 dX7_letterAt_33 (by decide) ?_
        refine tw_iand hC dX7_letterAt_36 ?_
        refine lv_istore_n (lv' := [(3, .int (tw_I (tm_and (tm_l2i (tm_lushr j3 (tm_wr (a2 * 8)))) 255))), (0, .ref this), (1, .int (tw_I a1)), (2, .int (tw_I a2))]) hC.1 hC.2.1 dX7_letterAt_37 rfl hl (by decide) rfl (fun ls hl => ?_)
        refine lv_iload_n hC.1 hC.2.1 dX7_letterAt_38 rfl (lv_at hl 0 rfl) ?_
        refine tw_zne (tgt := 47) hC hk ((tm_and_rg _ _)) dX7_letterAt_39 (by decide) (fun _ hk => ?_) (fun _ hk => ?_)
        · refine lv_bipush (v := tw_I (-99)) hC.1 hC.2.1 dX7_letterAt_42 (by decide) ?_
          refine lv_goto (tgt := 48) hC.1 hC.2.1 dX7_letterAt_44 (by decide) ?_
          cases hk
          exact tw_iret hC hR hL ((tw_rgL rfl)) rfl rfl dX7_letterAt_48
        · refine lv_iload_n hC.1 hC.2.1 dX7_letterAt_47 rfl (lv_at hl 0 rfl) ?_
          cases hk
          exact tw_iret hC hR hL ((tm_and_rg _ _)) rfl rfl dX7_letterAt_48
      · refine lv_bipush (v := tw_I (-99)) hC.1 hC.2.1 dX7_letterAt_18 (by decide) ?_
        cases hk
        exact tw_iret hC hR hL ((tw_rgL rfl)) rfl rfl dX7_letterAt_20
set_option maxRecDepth 100000 in
theorem kX7_letterAt {l : Launch} {p : Program} {e : Env} {R : Room} {s : State} {m : MethodId} {args : Array Value} {below : List Frame} {meth : Method} {c : Code} {H : Heap} {locs : List Loc} {cells slots : Nat} {Q : State → Prop} {cc : ByteArray} {pc nL idx : Nat} {ls : Array Slot} {rest : List Value} {G : tw_G} {h : tm_H} {own : String} {ret : Option FieldType} {α : Type} {x : α} {sz : Nat} {this : Nat} {a1 : Int} {a2 : Int} (hC : tw_C G p s m args meth c own cc nL ret) (hR : tw_Rel G sz h H) (hL : tw_L G locs) {F : Int → Option α} (hk : (fX7_letterAt this a1 a2 h).bind F = some x) (ga1 : tm_rg a1) (ga2 : tm_rg a2) (hl : tw_mL own idx yX7_letterAt) (hRm : rmX7_letterAt.frames + 1 ≤ R.frames ∧ 8 + (4 + 11) + rmX7_letterAt.locals ≤ R.locals) (hsz : ls.size = nL) (hW : (rest.map fun v => v.category).sum ≤ 8) (hf : cells + 0 ≤ R.cells ∧ slots + 0 ≤ R.slots) (hdg : decode cc pc = .ok (.invokevirtual idx, 3)) (kk : ∀ (r : Int) (H1 : Heap) (locs1 : List Loc), tw_Rel G sz h H1 → tw_L G locs1 → tm_rg r → F r = some x → W p l e R s m args below meth c H1 locs1 (cells + 0) (slots + 0) Q (F0 m (pc + 3) ls (.int (tw_I r) :: rest))) : W p l e R s m args below meth c H locs cells slots Q (F0 m pc ls (.int (tw_I a2) :: .int (tw_I a1) :: .ref this :: rest)) := by
  obtain ⟨r, hr, hF⟩ := Option.bind_eq_some_iff.mp hk
  have ob : ∀ r, fX7_letterAt this a1 a2 h = some r → tm_is h 7 this := fun r hr => by
    unfold fX7_letterAt at hr
    exact (tm_th_is hr).1
  exact tw_backi (tw_runV hC hR (cX7_letterAt_ok l G sz this a1 a2 ga1 ga2 h r hr) (n := 2) (As := [.int (tw_I a1), .int (tw_I a2)]) ⟨tw_in_TB 702 (by decide +kernel) rfl, tw_in_TB 55 (by decide +kernel) rfl, by decide +kernel⟩ (tw_in_TB 700 (by decide +kernel) rfl) (tw_in_TB 701 (by decide +kernel) rfl) hl ⟨rfl, rfl⟩ hRm (ob r hr) (T := TX7) (N := 3) rfl rfl hsz rfl hW hdg hf) hL (fun H1 locs1 a b g => kk r H1 locs1 a b g hF)
def rmX7_formCount : Room := { frames := 0, cells := 0, slots := 0, locals := 0 }
set_option maxRecDepth 100000 in
set_option maxHeartbeats 4000000 in
theorem sX7_formCount_S0 {l : Launch} {p : Program} {e : Env} {s : State} {m : MethodId} {args : Array Value} {below : List Frame} {meth : Method} {c : Code} (G : tw_G) (sz : Nat) (hC : tw_C G p s m args meth c RX7 cX7_formCount 3 (some .int)) (this : Nat)  (h : tm_H) : ∀ (k : Nat) (st : (Int × Int) ⊕ (Int × Int)) (out : Int), tm_wit (fX7_formCount_S0 this h) k st = some out → match st with
    | .inl ((x1, x2)) => ∀ (H : Heap) (locs : List Loc) (ls : Array Slot), tm_rg x1 → tm_rg x2 → tw_Rel G sz h H → tw_L G locs → lv_has ls 3 [(0, .ref this), (1, .int (tw_I x1)), (2, .int (tw_I x2))] → W p l e rmX7_formCount s m args below meth c H locs 0 0 (MQ below (tw_Qi G sz out h) args s 0 0 (tw_F G)) (F0 m 4 ls [])
    | .inr ((x1, x2)) => ∀ (H : Heap) (locs : List Loc) (ls : Array Slot), tm_rg x1 → tm_rg x2 → tw_Rel G sz h H → tw_L G locs → lv_has ls 3 [(0, .ref this), (1, .int (tw_I x1)), (2, .int (tw_I x2))] → W p l e rmX7_formCount s m args below meth c H locs 0 0 (MQ below (tw_Qi G sz out h) args s 0 0 (tw_F G)) (F0 m 25 ls []) := by
  intro k
  induction k with
  | zero =>
    intro st out hk
    exact absurd hk (by unfold tm_wit; exact fun z => by cases z)
  | succ k ih =>
    intro st out hk
    obtain ⟨X, hk, hf⟩ := tm_wit_succ hk
    obtain ⟨x1, x2⟩ | ⟨x1, x2⟩ := st
    · intro H locs ls gx1 gx2 hR hL hl
      dsimp only [fX7_formCount_S0] at hk
      refine lv_iload_n hC.1 hC.2.1 dX7_formCount_4 rfl (lv_at hl 2 rfl) ?_
      refine lv_aload_n hC.1 hC.2.1 dX7_formCount_5 rfl (lv_at hl 0 rfl) ?_
      refine tw_getI hC hR hk flX7_19 dX7_formCount_6 (fun v1 gv1 hk => ?_)
      refine tw_cge (tgt := 31) hC hk gx2 gv1 dX7_formCount_9 (by decide) (fun _ hk => ?_) (fun _ hk => ?_)
      · refine lv_aload_n hC.1 hC.2.1 dX7_formCount_12 rfl (lv_at hl 0 rfl) ?_
        refine tw_getR hC hR hk flX7_15 dX7_formCount_13 (fun r2 hk => ?_)
        refine lv_iload_n hC.1 hC.2.1 dX7_formCount_16 rfl (lv_at hl 2 rfl) ?_
        refine tw_iald hC hR hk dX7_formCount_17 (fun v3 gv3 hk => ?_)
        refine lv_iload_n hC.1 hC.2.1 dX7_formCount_18 rfl (lv_at hl 2 rfl) ?_
        refine tw_ceq (tgt := 25) hC hk gv3 gx2 dX7_formCount_19 (by decide) (fun _ hk => ?_) (fun _ hk => ?_)
        · cases hk
          exact ih _ out hf H locs _ gx1 gx2 hR hL (lv_sub hl [0, 1, 2] rfl)
        · refine tw_iinc (lv' := [(1, .int (tw_I (tm_wr (x1 + 1)))), (0, .ref this), (2, .int (tw_I x2))]) hC dX7_formCount_22 hl (k := 1) rfl (by decide) rfl (fun ls hl => ?_)
          cases hk
          exact ih _ out hf H locs _ ((tm_wr_rg _)) gx2 hR hL (lv_sub hl [1, 0, 2] rfl)
      · refine lv_iload_n hC.1 hC.2.1 dX7_formCount_31 rfl (lv_at hl 1 rfl) ?_
        cases hk
        cases hf
        exact tw_iret hC hR hL gx1 rfl rfl dX7_formCount_32
    · intro H locs ls gx1 gx2 hR hL hl
      dsimp only [fX7_formCount_S0] at hk
      refine tw_iinc (lv' := [(2, .int (tw_I (tm_wr (x2 + 1)))), (0, .ref this), (1, .int (tw_I x1))]) hC dX7_formCount_25 hl (k := 2) rfl (by decide) rfl (fun ls hl => ?_)
      refine lv_goto (tgt := 4) hC.1 hC.2.1 dX7_formCount_28 (by decide) ?_
      cases hk
      exact ih _ out hf H locs _ gx1 ((tm_wr_rg _)) hR hL (lv_sub hl [1, 2, 0] rfl)
theorem sX7_formCount_L4 {l : Launch} {p : Program} {e : Env} {s : State} {m : MethodId} {args : Array Value} {below : List Frame} {meth : Method} {c : Code} (G : tw_G) (sz : Nat) (hC : tw_C G p s m args meth c RX7 cX7_formCount 3 (some .int)) (this : Nat)  (h : tm_H) (x1 : Int) (x2 : Int) (gx1 : tm_rg x1) (gx2 : tm_rg x2) (out : Int) (hk : fX7_formCount_L4 this h x1 x2 = some out) (H : Heap) (locs : List Loc) (ls : Array Slot) (hR : tw_Rel G sz h H) (hL : tw_L G locs) (hl : lv_has ls 3 [(0, .ref this), (1, .int (tw_I x1)), (2, .int (tw_I x2))]) : W p l e rmX7_formCount s m args below meth c H locs 0 0 (MQ below (tw_Qi G sz out h) args s 0 0 (tw_F G)) (F0 m 4 ls []) := by
  obtain ⟨k, hk⟩ := tm_wl_iff.mp hk
  exact sX7_formCount_S0 G sz hC this  h k (.inl ((x1, x2))) out hk H locs ls gx1 gx2 hR hL hl
theorem sX7_formCount_L25 {l : Launch} {p : Program} {e : Env} {s : State} {m : MethodId} {args : Array Value} {below : List Frame} {meth : Method} {c : Code} (G : tw_G) (sz : Nat) (hC : tw_C G p s m args meth c RX7 cX7_formCount 3 (some .int)) (this : Nat)  (h : tm_H) (x1 : Int) (x2 : Int) (gx1 : tm_rg x1) (gx2 : tm_rg x2) (out : Int) (hk : fX7_formCount_L25 this h x1 x2 = some out) (H : Heap) (locs : List Loc) (ls : Array Slot) (hR : tw_Rel G sz h H) (hL : tw_L G locs) (hl : lv_has ls 3 [(0, .ref this), (1, .int (tw_I x1)), (2, .int (tw_I x2))]) : W p l e rmX7_formCount s m args below meth c H locs 0 0 (MQ below (tw_Qi G sz out h) args s 0 0 (tw_F G)) (F0 m 25 ls []) := by
  obtain ⟨k, hk⟩ := tm_wl_iff.mp hk
  exact sX7_formCount_S0 G sz hC this  h k (.inr ((x1, x2))) out hk H locs ls gx1 gx2 hR hL hl
set_option maxRecDepth 100000 in
set_option maxHeartbeats 4000000 in
theorem cX7_formCount_ok (l : Launch) (G : tw_G) (sz : Nat) (this : Nat)  (h : tm_H) (out : Int) (hk : fX7_formCount this h = some out) : Met l yX7_formCount (tw_WS yX7_formCount cX7_formCount 3 (some .int)) rmX7_formCount (va_Pc [.ref this] (tw_Pre G sz h)) (tw_Qi G sz out h) 0 0 (tw_F G) := by
  refine tw_met (by decide +kernel) (Nat.le_of_ble_eq_true rfl) ?_
  intro p e s m args below meth c H ls hC hnm hR hl
  unfold fX7_formCount at hk
  obtain ⟨hob, hk⟩ := tm_th_is hk
  have hl : lv_has ls 3 [(0, .ref this)] := hl
  have hL : tw_L G [] := fun q z => by cases z
  generalize hlc : ([] : List Loc) = locs at hL ⊢
  refine lv_iconst (v := tw_I 0) hC.1 hC.2.1 dX7_formCount_0 rfl ?_
  refine lv_istore_n (lv' := [(1, .int (tw_I 0)), (0, .ref this)]) hC.1 hC.2.1 dX7_formCount_1 rfl hl (by decide) rfl (fun ls hl => ?_)
  refine lv_iconst (v := tw_I 0) hC.1 hC.2.1 dX7_formCount_2 rfl ?_
  refine lv_istore_n (lv' := [(2, .int (tw_I 0)), (1, .int (tw_I 0)), (0, .ref this)]) hC.1 hC.2.1 dX7_formCount_3 rfl hl (by decide) rfl (fun ls hl => ?_)
  exact sX7_formCount_L4 G sz hC this h 0 0 ((tw_rgL rfl)) ((tw_rgL rfl)) out hk H locs _ hR hL (lv_sub hl [2, 1, 0] rfl)
set_option maxRecDepth 100000 in
theorem kX7_formCount {l : Launch} {p : Program} {e : Env} {R : Room} {s : State} {m : MethodId} {args : Array Value} {below : List Frame} {meth : Method} {c : Code} {H : Heap} {locs : List Loc} {cells slots : Nat} {Q : State → Prop} {cc : ByteArray} {pc nL idx : Nat} {ls : Array Slot} {rest : List Value} {G : tw_G} {h : tm_H} {own : String} {ret : Option FieldType} {α : Type} {x : α} {sz : Nat} {this : Nat} (hC : tw_C G p s m args meth c own cc nL ret) (hR : tw_Rel G sz h H) (hL : tw_L G locs) {F : Int → Option α} (hk : (fX7_formCount this h).bind F = some x)  (hl : tw_mL own idx yX7_formCount) (hRm : rmX7_formCount.frames + 1 ≤ R.frames ∧ 8 + (3 + 11) + rmX7_formCount.locals ≤ R.locals) (hsz : ls.size = nL) (hW : (rest.map fun v => v.category).sum ≤ 8) (hf : cells + 0 ≤ R.cells ∧ slots + 0 ≤ R.slots) (hdg : decode cc pc = .ok (.invokevirtual idx, 3)) (kk : ∀ (r : Int) (H1 : Heap) (locs1 : List Loc), tw_Rel G sz h H1 → tw_L G locs1 → tm_rg r → F r = some x → W p l e R s m args below meth c H1 locs1 (cells + 0) (slots + 0) Q (F0 m (pc + 3) ls (.int (tw_I r) :: rest))) : W p l e R s m args below meth c H locs cells slots Q (F0 m pc ls (.ref this :: rest)) := by
  obtain ⟨r, hr, hF⟩ := Option.bind_eq_some_iff.mp hk
  have ob : ∀ r, fX7_formCount this h = some r → tm_is h 7 this := fun r hr => by
    unfold fX7_formCount at hr
    exact (tm_th_is hr).1
  exact tw_backi (tw_runV hC hR (cX7_formCount_ok l G sz this  h r hr) (n := 0) (As := []) ⟨tw_in_TB 690 (by decide +kernel) rfl, tw_in_TB 55 (by decide +kernel) rfl, by decide +kernel⟩ (tw_in_TB 688 (by decide +kernel) rfl) (tw_in_TB 689 (by decide +kernel) rfl) hl ⟨rfl, rfl⟩ hRm (ob r hr) (T := TX7) (N := 3) rfl rfl hsz rfl hW hdg hf) hL (fun H1 locs1 a b g => kk r H1 locs1 a b g hF)
def rmX8_init : Room := { frames := 4, cells := 440, slots := 8913, locals := 85 }
set_option maxRecDepth 100000 in
set_option maxHeartbeats 4000000 in
theorem cX8_init_ok (l : Launch) (G : tw_G) (n : Nat) (this : Nat)  (h : tm_H) (out : tm_H × Nat) (hk : fX8_init this h n = some out) : Met l yX8_init (tw_WS yX8_init cX8_init 1 none) rmX8_init (va_Pc [.ref this] (tw_Pre G n h)) (tw_Qv G out.2 out.1) 440 8913 (tw_F G) := by
  refine tw_met (by decide +kernel) (Nat.le_of_ble_eq_true rfl) ?_
  intro p e s m args below meth c H ls hC hnm hR hl
  unfold fX8_init at hk
  obtain ⟨hob, hk⟩ := tm_th_is hk
  have hl : lv_has ls 1 [(0, .ref this)] := hl
  have hL : tw_L G [] := fun q z => by cases z
  generalize hlc : ([] : List Loc) = locs at hL ⊢
  refine lv_aload_n hC.1 hC.2.1 dX8_init_0 rfl (lv_at hl 0 rfl) ?_
  refine tw_objInit hC (tw_in_TB 73 (by decide +kernel) rfl) tw_oiI tw_oiC hl.1 dX8_init_1 (by decide) (Nat.le_of_ble_eq_true rfl) ?_
  refine lv_aload_n hC.1 hC.2.1 dX8_init_4 rfl (lv_at hl 0 rfl) ?_
  refine tw_new hC hR nwX8_7 hk ⟨by decide, by decide⟩ dX8_init_5 (fun h1 H hR hk => ?_)
  refine lv_dup hC.1 hC.2.1 dX8_init_8 rfl ?_
  refine kX4_init hC hR hL hk mlX8_9 ⟨by decide, by decide⟩ hl.1 (Nat.le_of_ble_eq_true rfl) ⟨by decide, by decide⟩ dX8_init_9 (fun h2 n2 H locs hR hL hk => ?_)
  refine tw_putR hC hR hL hnm rfl rfl hk fpX8_10 dX8_init_12 (fun h3 H locs hR hL hk => ?_)
  refine lv_aload_n hC.1 hC.2.1 dX8_init_15 rfl (lv_at hl 0 rfl) ?_
  refine tw_new hC hR nwX8_7 hk ⟨by decide, by decide⟩ dX8_init_16 (fun h4 H hR hk => ?_)
  refine lv_dup hC.1 hC.2.1 dX8_init_19 rfl ?_
  refine kX4_init hC hR hL hk mlX8_9 ⟨by decide, by decide⟩ hl.1 (Nat.le_of_ble_eq_true rfl) ⟨by decide, by decide⟩ dX8_init_20 (fun h5 n5 H locs hR hL hk => ?_)
  refine tw_putR hC hR hL hnm rfl rfl hk fpX8_16 dX8_init_23 (fun h6 H locs hR hL hk => ?_)
  refine lv_aload_n hC.1 hC.2.1 dX8_init_26 rfl (lv_at hl 0 rfl) ?_
  refine tw_new hC hR nwX8_19 hk ⟨by decide, by decide⟩ dX8_init_27 (fun h7 H hR hk => ?_)
  refine lv_dup hC.1 hC.2.1 dX8_init_30 rfl ?_
  refine kX1_init hC hR hL hk mlX8_21 ⟨by decide, by decide⟩ hl.1 (Nat.le_of_ble_eq_true rfl) ⟨by decide, by decide⟩ dX8_init_31 (fun h8 n8 H locs hR hL hk => ?_)
  refine tw_putR hC hR hL hnm rfl rfl hk fpX8_22 dX8_init_34 (fun h9 H locs hR hL hk => ?_)
  refine lv_aload_n hC.1 hC.2.1 dX8_init_37 rfl (lv_at hl 0 rfl) ?_
  refine tw_new hC hR nwX8_26 hk ⟨by decide, by decide⟩ dX8_init_38 (fun h10 H hR hk => ?_)
  refine lv_dup hC.1 hC.2.1 dX8_init_41 rfl ?_
  refine kX2_init hC hR hL hk mlX8_28 ⟨by decide, by decide⟩ hl.1 (Nat.le_of_ble_eq_true rfl) ⟨by decide, by decide⟩ dX8_init_42 (fun h11 n11 H locs hR hL hk => ?_)
  refine tw_putR hC hR hL hnm rfl rfl hk fpX8_29 dX8_init_45 (fun h12 H locs hR hL hk => ?_)
  refine lv_aload_n hC.1 hC.2.1 dX8_init_48 rfl (lv_at hl 0 rfl) ?_
  refine tw_new hC hR nwX8_33 hk ⟨by decide, by decide⟩ dX8_init_49 (fun h13 H hR hk => ?_)
  refine lv_dup hC.1 hC.2.1 dX8_init_52 rfl ?_
  refine kX3_init hC hR hL hk mlX8_35 ⟨by decide, by decide⟩ hl.1 (Nat.le_of_ble_eq_true rfl) ⟨by decide, by decide⟩ dX8_init_53 (fun h14 n14 H locs hR hL hk => ?_)
  refine tw_putR hC hR hL hnm rfl rfl hk fpX8_36 dX8_init_56 (fun h15 H locs hR hL hk => ?_)
  refine lv_aload_n hC.1 hC.2.1 dX8_init_59 rfl (lv_at hl 0 rfl) ?_
  refine lv_iconst (v := tw_I 4) hC.1 hC.2.1 dX8_init_60 rfl ?_
  refine tw_nai hC hR tw_ari 4 (by decide) hk ⟨by decide, by decide⟩ dX8_init_61 (fun h16 H hR hk => ?_)
  refine tw_putR hC hR hL hnm rfl rfl hk fpX8_42 dX8_init_63 (fun h17 H locs hR hL hk => ?_)
  cases hk
  exact tw_vret hC hR hL rfl dX8_init_66
set_option maxRecDepth 100000 in
theorem kX8_init {l : Launch} {p : Program} {e : Env} {R : Room} {s : State} {m : MethodId} {args : Array Value} {below : List Frame} {meth : Method} {c : Code} {H : Heap} {locs : List Loc} {cells slots : Nat} {Q : State → Prop} {cc : ByteArray} {pc nL idx : Nat} {ls : Array Slot} {rest : List Value} {G : tw_G} {h : tm_H} {own : String} {ret : Option FieldType} {α : Type} {x : α} {n : Nat} {this : Nat} (hC : tw_C G p s m args meth c own cc nL ret) (hR : tw_Rel G n h H) (hL : tw_L G locs) {F : tm_H × Nat → Option α} (hk : (fX8_init this h n).bind F = some x)  (hl : tw_mL own idx yX8_init) (hRm : rmX8_init.frames + 1 ≤ R.frames ∧ 8 + (1 + 11) + rmX8_init.locals ≤ R.locals) (hsz : ls.size = nL) (hW : (rest.map fun v => v.category).sum ≤ 8) (hf : cells + 440 ≤ R.cells ∧ slots + 8913 ≤ R.slots) (hdg : decode cc pc = .ok (.invokespecial idx, 3)) (kk : ∀ (h1 : tm_H) (n1 : Nat) (H1 : Heap) (locs1 : List Loc), tw_Rel G n1 h1 H1 → tw_L G locs1 → F (h1, n1) = some x → W p l e R s m args below meth c H1 locs1 (cells + 440) (slots + 8913) Q (F0 m (pc + 3) ls (rest))) : W p l e R s m args below meth c H locs cells slots Q (F0 m pc ls (.ref this :: rest)) := by
  obtain ⟨r, hr, hF⟩ := Option.bind_eq_some_iff.mp hk
  exact tw_backv (tw_runI hC hR (cX8_init_ok l G n this  h r hr) (n := 0) (As := []) ⟨tw_in_TB 72 (by decide +kernel) rfl, tw_in_TB 53 (by decide +kernel) rfl, by decide +kernel⟩ (tw_in_TB 71 (by decide +kernel) rfl) rfl hl ⟨rfl, rfl⟩ hRm rfl hsz rfl hW hdg hf) hL (fun H1 locs1 a b => kk r.1 r.2 H1 locs1 a b hF)
def rmX8_insert : Room := { frames := 4, cells := 0, slots := 0, locals := 91 }
set_option maxRecDepth 100000 in
set_option maxHeartbeats 4000000 in
theorem cX8_insert_ok (l : Launch) (G : tw_G) (sz : Nat) (this : Nat) (a1 : Int) (a2 : Int) (a3 : Int) (ga1 : tm_rg a1) (ga2 : tm_rg a2) (ga3 : tm_rg a3) (h : tm_H) (out : Int × tm_H) (hk : fX8_insert this a1 a2 a3 h = some out) : Met l yX8_insert (tw_WS yX8_insert cX8_insert 5 (some .int)) rmX8_insert (va_Pc [.ref this, .int (tw_I a1), .int (tw_I a2), .int (tw_I a3)] (tw_Pre G sz h)) (tw_Qi G sz out.1 out.2) 0 0 (tw_F G) := by
  refine tw_met (by decide +kernel) (Nat.le_of_ble_eq_true rfl) ?_
  intro p e s m args below meth c H ls hC hnm hR hl
  unfold fX8_insert at hk
  obtain ⟨hob, hk⟩ := tm_th_is hk
  have hl : lv_has ls 5 [(0, .ref this), (1, .int (tw_I a1)), (2, .int (tw_I a2)), (3, .int (tw_I a3))] := hl
  have hL : tw_L G [] := fun q z => by cases z
  generalize hlc : ([] : List Loc) = locs at hL ⊢
  refine lv_aload_n hC.1 hC.2.1 dX8_insert_0 rfl (lv_at hl 0 rfl) ?_
  refine tw_getR hC hR hk flX8_10 dX8_insert_1 (fun r1 hk => ?_)
  refine tw_getR hC hR hk flX8_46 dX8_insert_4 (fun r2 hk => ?_)
  refine lv_astore (lv' := [(4, .ref r2), (0, .ref this), (1, .int (tw_I a1)), (2, .int (tw_I a2)), (3, .int (tw_I a3))]) hC.1 hC.2.1 dX8_insert_7 hl (by decide) rfl (fun ls hl => ?_)
  refine lv_aload hC.1 hC.2.1 dX8_insert_9 (lv_at hl 0 rfl) ?_
  refine lv_iload_n hC.1 hC.2.1 dX8_insert_11 rfl (lv_at hl 2 rfl) ?_
  refine kX0_has hC hR hL hk ga1 mlX8_50 ⟨by decide, by decide⟩ hl.1 (Nat.le_of_ble_eq_true rfl) ⟨Nat.zero_le _, Nat.zero_le _⟩ dX8_insert_12 (fun v3 H locs hR hL gv3 hk => ?_)
  refine tw_zeq (tgt := 46) hC hk gv3 dX8_insert_15 (by decide) (fun _ hk => ?_) (fun _ hk => ?_)
  · refine lv_iconst (v := tw_I (-1)) hC.1 hC.2.1 dX8_insert_46 rfl ?_
    cases hk
    exact tw_iret hC hR hL ((tw_rgL rfl)) rfl rfl dX8_insert_47
  · refine lv_iload_n hC.1 hC.2.1 dX8_insert_18 rfl (lv_at hl 3 rfl) ?_
    refine tw_zlt (tgt := 46) hC hk ga2 dX8_insert_19 (by decide) (fun _ hk => ?_) (fun _ hk => ?_)
    · refine lv_iconst (v := tw_I (-1)) hC.1 hC.2.1 dX8_insert_46 rfl ?_
      cases hk
      exact tw_iret hC hR hL ((tw_rgL rfl)) rfl rfl dX8_insert_47
    · refine lv_iload_n hC.1 hC.2.1 dX8_insert_22 rfl (lv_at hl 3 rfl) ?_
      refine lv_aload hC.1 hC.2.1 dX8_insert_23 (lv_at hl 0 rfl) ?_
      refine lv_iload_n hC.1 hC.2.1 dX8_insert_25 rfl (lv_at hl 2 rfl) ?_
      refine kX0_lengthOf hC hR hL hk ga1 mlX8_56 ⟨by decide, by decide⟩ hl.1 (Nat.le_of_ble_eq_true rfl) ⟨Nat.zero_le _, Nat.zero_le _⟩ dX8_insert_26 (fun v4 H locs hR hL gv4 hk => ?_)
      refine tw_cgt (tgt := 46) hC hk ga2 gv4 dX8_insert_29 (by decide) (fun _ hk => ?_) (fun _ hk => ?_)
      · refine lv_iconst (v := tw_I (-1)) hC.1 hC.2.1 dX8_insert_46 rfl ?_
        cases hk
        exact tw_iret hC hR hL ((tw_rgL rfl)) rfl rfl dX8_insert_47
      · refine lv_aload_n hC.1 hC.2.1 dX8_insert_32 rfl (lv_at hl 1 rfl) ?_
        refine tw_getR hC hR hk flX8_10 dX8_insert_33 (fun r5 hk => ?_)
        refine tw_getR hC hR hk flX8_60 dX8_insert_36 (fun r6 hk => ?_)
        refine lv_iload_n hC.1 hC.2.1 dX8_insert_39 rfl (lv_at hl 4 rfl) ?_
        refine kX7_has hC hR hL hk ga3 mlX8_64 ⟨by decide, by decide⟩ hl.1 (Nat.le_of_ble_eq_true rfl) ⟨Nat.zero_le _, Nat.zero_le _⟩ dX8_insert_40 (fun v7 H locs hR hL gv7 hk => ?_)
        refine tw_zne (tgt := 48) hC hk gv7 dX8_insert_43 (by decide) (fun _ hk => ?_) (fun _ hk => ?_)
        · refine lv_iconst (v := tw_I (-1)) hC.1 hC.2.1 dX8_insert_46 rfl ?_
          cases hk
          exact tw_iret hC hR hL ((tw_rgL rfl)) rfl rfl dX8_insert_47
        · refine lv_aload hC.1 hC.2.1 dX8_insert_48 (lv_at hl 0 rfl) ?_
          refine lv_iload_n hC.1 hC.2.1 dX8_insert_50 rfl (lv_at hl 2 rfl) ?_
          refine kX0_lengthOf hC hR hL hk ga1 mlX8_56 ⟨by decide, by decide⟩ hl.1 (Nat.le_of_ble_eq_true rfl) ⟨Nat.zero_le _, Nat.zero_le _⟩ dX8_insert_51 (fun v8 H locs hR hL gv8 hk => ?_)
          refine lv_bipush (v := tw_I 40) hC.1 hC.2.1 dX8_insert_54 (by decide) ?_
          refine tw_clt (tgt := 62) hC hk gv8 ((tw_rgL rfl)) dX8_insert_56 (by decide) (fun _ hk => ?_) (fun _ hk => ?_)
          · refine lv_aload_n hC.1 hC.2.1 dX8_insert_62 rfl (lv_at hl 1 rfl) ?_
            refine tw_getR hC hR hk flX8_22 dX8_insert_63 (fun r9 hk => ?_)
            refine lv_aload_n hC.1 hC.2.1 dX8_insert_66 rfl (lv_at hl 1 rfl) ?_
            refine tw_getR hC hR hk flX8_10 dX8_insert_67 (fun r10 hk => ?_)
            refine kX1_keep hC hR hL hk mlX8_67 ⟨by decide, by decide⟩ hl.1 (Nat.le_of_ble_eq_true rfl) ⟨Nat.zero_le _, Nat.zero_le _⟩ dX8_insert_70 (fun h11 H locs hR hL hk => ?_)
            refine lv_aload hC.1 hC.2.1 dX8_insert_73 (lv_at hl 0 rfl) ?_
            refine lv_iload_n hC.1 hC.2.1 dX8_insert_75 rfl (lv_at hl 2 rfl) ?_
            refine lv_iload_n hC.1 hC.2.1 dX8_insert_76 rfl (lv_at hl 3 rfl) ?_
            refine lv_iload_n hC.1 hC.2.1 dX8_insert_77 rfl (lv_at hl 4 rfl) ?_
            refine kX0_put hC hR hL hk ga1 ga2 ga3 mlX8_71 ⟨by decide, by decide⟩ hl.1 (Nat.le_of_ble_eq_true rfl) ⟨Nat.zero_le _, Nat.zero_le _⟩ dX8_insert_78 (fun h12 H locs hR hL hk => ?_)
            refine lv_aload hC.1 hC.2.1 dX8_insert_81 (lv_at hl 0 rfl) ?_
            refine lv_iload_n hC.1 hC.2.1 dX8_insert_83 rfl (lv_at hl 2 rfl) ?_
            refine kX0_lengthOf hC hR hL hk ga1 mlX8_56 ⟨by decide, by decide⟩ hl.1 (Nat.le_of_ble_eq_true rfl) ⟨Nat.zero_le _, Nat.zero_le _⟩ dX8_insert_84 (fun v13 H locs hR hL gv13 hk => ?_)
            cases hk
            exact tw_iret hC hR hL gv13 rfl rfl dX8_insert_87
          · refine lv_bipush (v := tw_I (-3)) hC.1 hC.2.1 dX8_insert_59 (by decide) ?_
            cases hk
            exact tw_iret hC hR hL ((tw_rgL rfl)) rfl rfl dX8_insert_61
set_option maxRecDepth 100000 in
theorem kX8_insert {l : Launch} {p : Program} {e : Env} {R : Room} {s : State} {m : MethodId} {args : Array Value} {below : List Frame} {meth : Method} {c : Code} {H : Heap} {locs : List Loc} {cells slots : Nat} {Q : State → Prop} {cc : ByteArray} {pc nL idx : Nat} {ls : Array Slot} {rest : List Value} {G : tw_G} {h : tm_H} {own : String} {ret : Option FieldType} {α : Type} {x : α} {sz : Nat} {this : Nat} {a1 : Int} {a2 : Int} {a3 : Int} (hC : tw_C G p s m args meth c own cc nL ret) (hR : tw_Rel G sz h H) (hL : tw_L G locs) {F : Int × tm_H → Option α} (hk : (fX8_insert this a1 a2 a3 h).bind F = some x) (ga1 : tm_rg a1) (ga2 : tm_rg a2) (ga3 : tm_rg a3) (hl : tw_mL own idx yX8_insert) (hRm : rmX8_insert.frames + 1 ≤ R.frames ∧ 8 + (5 + 11) + rmX8_insert.locals ≤ R.locals) (hsz : ls.size = nL) (hW : (rest.map fun v => v.category).sum ≤ 8) (hf : cells + 0 ≤ R.cells ∧ slots + 0 ≤ R.slots) (hdg : decode cc pc = .ok (.invokevirtual idx, 3)) (kk : ∀ (r : Int) (h1 : tm_H) (H1 : Heap) (locs1 : List Loc), tw_Rel G sz h1 H1 → tw_L G locs1 → tm_rg r → F (r, h1) = some x → W p l e R s m args below meth c H1 locs1 (cells + 0) (slots + 0) Q (F0 m (pc + 3) ls (.int (tw_I r) :: rest))) : W p l e R s m args below meth c H locs cells slots Q (F0 m pc ls (.int (tw_I a3) :: .int (tw_I a2) :: .int (tw_I a1) :: .ref this :: rest)) := by
  obtain ⟨r, hr, hF⟩ := Option.bind_eq_some_iff.mp hk
  have ob : ∀ r, fX8_insert this a1 a2 a3 h = some r → tm_is h 8 this := fun r hr => by
    unfold fX8_insert at hr
    exact (tm_th_is hr).1
  exact tw_backi (tw_runV hC hR (cX8_insert_ok l G sz this a1 a2 a3 ga1 ga2 ga3 h r hr) (n := 3) (As := [.int (tw_I a1), .int (tw_I a2), .int (tw_I a3)]) ⟨tw_in_TB 277 (by decide +kernel) rfl, tw_in_TB 53 (by decide +kernel) rfl, by decide +kernel⟩ (tw_in_TB 275 (by decide +kernel) rfl) (tw_in_TB 276 (by decide +kernel) rfl) hl ⟨rfl, rfl⟩ hRm (ob r hr) (T := TX8) (N := 6) rfl rfl hsz rfl hW hdg hf) hL (fun H1 locs1 a b g => kk r.1 r.2 H1 locs1 a b g hF)
def rmX8_delete : Room := { frames := 4, cells := 0, slots := 0, locals := 91 }
set_option maxRecDepth 100000 in
set_option maxHeartbeats 4000000 in
theorem cX8_delete_ok (l : Launch) (G : tw_G) (sz : Nat) (this : Nat) (a1 : Int) (a2 : Int) (a3 : Int) (ga1 : tm_rg a1) (ga2 : tm_rg a2) (ga3 : tm_rg a3) (h : tm_H) (out : Int × tm_H) (hk : fX8_delete this a1 a2 a3 h = some out) : Met l yX8_delete (tw_WS yX8_delete cX8_delete 5 (some .int)) rmX8_delete (va_Pc [.ref this, .int (tw_I a1), .int (tw_I a2), .int (tw_I a3)] (tw_Pre G sz h)) (tw_Qi G sz out.1 out.2) 0 0 (tw_F G) := by
  refine tw_met (by decide +kernel) (Nat.le_of_ble_eq_true rfl) ?_
  intro p e s m args below meth c H ls hC hnm hR hl
  unfold fX8_delete at hk
  obtain ⟨hob, hk⟩ := tm_th_is hk
  have hl : lv_has ls 5 [(0, .ref this), (1, .int (tw_I a1)), (2, .int (tw_I a2)), (3, .int (tw_I a3))] := hl
  have hL : tw_L G [] := fun q z => by cases z
  generalize hlc : ([] : List Loc) = locs at hL ⊢
  refine lv_aload_n hC.1 hC.2.1 dX8_delete_0 rfl (lv_at hl 0 rfl) ?_
  refine tw_getR hC hR hk flX8_10 dX8_delete_1 (fun r1 hk => ?_)
  refine tw_getR hC hR hk flX8_46 dX8_delete_4 (fun r2 hk => ?_)
  refine lv_astore (lv' := [(4, .ref r2), (0, .ref this), (1, .int (tw_I a1)), (2, .int (tw_I a2)), (3, .int (tw_I a3))]) hC.1 hC.2.1 dX8_delete_7 hl (by decide) rfl (fun ls hl => ?_)
  refine lv_aload hC.1 hC.2.1 dX8_delete_9 (lv_at hl 0 rfl) ?_
  refine lv_iload_n hC.1 hC.2.1 dX8_delete_11 rfl (lv_at hl 2 rfl) ?_
  refine lv_iload_n hC.1 hC.2.1 dX8_delete_12 rfl (lv_at hl 3 rfl) ?_
  refine kX0_hasPlace hC hR hL hk ga1 ga2 mlX8_75 ⟨by decide, by decide⟩ hl.1 (Nat.le_of_ble_eq_true rfl) ⟨Nat.zero_le _, Nat.zero_le _⟩ dX8_delete_13 (fun v3 H locs hR hL gv3 hk => ?_)
  refine tw_zeq (tgt := 34) hC hk gv3 dX8_delete_16 (by decide) (fun _ hk => ?_) (fun _ hk => ?_)
  · refine lv_iconst (v := tw_I (-1)) hC.1 hC.2.1 dX8_delete_34 rfl ?_
    cases hk
    exact tw_iret hC hR hL ((tw_rgL rfl)) rfl rfl dX8_delete_35
  · refine lv_aload hC.1 hC.2.1 dX8_delete_19 (lv_at hl 0 rfl) ?_
    refine lv_iload_n hC.1 hC.2.1 dX8_delete_21 rfl (lv_at hl 2 rfl) ?_
    refine lv_iload_n hC.1 hC.2.1 dX8_delete_22 rfl (lv_at hl 4 rfl) ?_
    refine kX0_hasPlace hC hR hL hk ga1 ga3 mlX8_75 ⟨by decide, by decide⟩ hl.1 (Nat.le_of_ble_eq_true rfl) ⟨Nat.zero_le _, Nat.zero_le _⟩ dX8_delete_23 (fun v4 H locs hR hL gv4 hk => ?_)
    refine tw_zeq (tgt := 34) hC hk gv4 dX8_delete_26 (by decide) (fun _ hk => ?_) (fun _ hk => ?_)
    · refine lv_iconst (v := tw_I (-1)) hC.1 hC.2.1 dX8_delete_34 rfl ?_
      cases hk
      exact tw_iret hC hR hL ((tw_rgL rfl)) rfl rfl dX8_delete_35
    · refine lv_iload_n hC.1 hC.2.1 dX8_delete_29 rfl (lv_at hl 4 rfl) ?_
      refine lv_iload_n hC.1 hC.2.1 dX8_delete_30 rfl (lv_at hl 3 rfl) ?_
      refine tw_cge (tgt := 36) hC hk ga3 ga2 dX8_delete_31 (by decide) (fun _ hk => ?_) (fun _ hk => ?_)
      · refine lv_iconst (v := tw_I (-1)) hC.1 hC.2.1 dX8_delete_34 rfl ?_
        cases hk
        exact tw_iret hC hR hL ((tw_rgL rfl)) rfl rfl dX8_delete_35
      · refine lv_aload_n hC.1 hC.2.1 dX8_delete_36 rfl (lv_at hl 1 rfl) ?_
        refine tw_getR hC hR hk flX8_22 dX8_delete_37 (fun r5 hk => ?_)
        refine lv_aload_n hC.1 hC.2.1 dX8_delete_40 rfl (lv_at hl 1 rfl) ?_
        refine tw_getR hC hR hk flX8_10 dX8_delete_41 (fun r6 hk => ?_)
        refine kX1_keep hC hR hL hk mlX8_67 ⟨by decide, by decide⟩ hl.1 (Nat.le_of_ble_eq_true rfl) ⟨Nat.zero_le _, Nat.zero_le _⟩ dX8_delete_44 (fun h7 H locs hR hL hk => ?_)
        refine lv_aload hC.1 hC.2.1 dX8_delete_47 (lv_at hl 0 rfl) ?_
        refine lv_iload_n hC.1 hC.2.1 dX8_delete_49 rfl (lv_at hl 2 rfl) ?_
        refine lv_iload_n hC.1 hC.2.1 dX8_delete_50 rfl (lv_at hl 3 rfl) ?_
        refine lv_iload_n hC.1 hC.2.1 dX8_delete_51 rfl (lv_at hl 4 rfl) ?_
        refine kX0_cut hC hR hL hk ga1 ga2 ga3 mlX8_79 ⟨by decide, by decide⟩ hl.1 (Nat.le_of_ble_eq_true rfl) ⟨Nat.zero_le _, Nat.zero_le _⟩ dX8_delete_52 (fun h8 H locs hR hL hk => ?_)
        refine lv_aload hC.1 hC.2.1 dX8_delete_55 (lv_at hl 0 rfl) ?_
        refine lv_iload_n hC.1 hC.2.1 dX8_delete_57 rfl (lv_at hl 2 rfl) ?_
        refine kX0_lengthOf hC hR hL hk ga1 mlX8_56 ⟨by decide, by decide⟩ hl.1 (Nat.le_of_ble_eq_true rfl) ⟨Nat.zero_le _, Nat.zero_le _⟩ dX8_delete_58 (fun v9 H locs hR hL gv9 hk => ?_)
        cases hk
        exact tw_iret hC hR hL gv9 rfl rfl dX8_delete_61
set_option maxRecDepth 100000 in
theorem kX8_delete {l : Launch} {p : Program} {e : Env} {R : Room} {s : State} {m : MethodId} {args : Array Value} {below : List Frame} {meth : Method} {c : Code} {H : Heap} {locs : List Loc} {cells slots : Nat} {Q : State → Prop} {cc : ByteArray} {pc nL idx : Nat} {ls : Array Slot} {rest : List Value} {G : tw_G} {h : tm_H} {own : String} {ret : Option FieldType} {α : Type} {x : α} {sz : Nat} {this : Nat} {a1 : Int} {a2 : Int} {a3 : Int} (hC : tw_C G p s m args meth c own cc nL ret) (hR : tw_Rel G sz h H) (hL : tw_L G locs) {F : Int × tm_H → Option α} (hk : (fX8_delete this a1 a2 a3 h).bind F = some x) (ga1 : tm_rg a1) (ga2 : tm_rg a2) (ga3 : tm_rg a3) (hl : tw_mL own idx yX8_delete) (hRm : rmX8_delete.frames + 1 ≤ R.frames ∧ 8 + (5 + 11) + rmX8_delete.locals ≤ R.locals) (hsz : ls.size = nL) (hW : (rest.map fun v => v.category).sum ≤ 8) (hf : cells + 0 ≤ R.cells ∧ slots + 0 ≤ R.slots) (hdg : decode cc pc = .ok (.invokevirtual idx, 3)) (kk : ∀ (r : Int) (h1 : tm_H) (H1 : Heap) (locs1 : List Loc), tw_Rel G sz h1 H1 → tw_L G locs1 → tm_rg r → F (r, h1) = some x → W p l e R s m args below meth c H1 locs1 (cells + 0) (slots + 0) Q (F0 m (pc + 3) ls (.int (tw_I r) :: rest))) : W p l e R s m args below meth c H locs cells slots Q (F0 m pc ls (.int (tw_I a3) :: .int (tw_I a2) :: .int (tw_I a1) :: .ref this :: rest)) := by
  obtain ⟨r, hr, hF⟩ := Option.bind_eq_some_iff.mp hk
  have ob : ∀ r, fX8_delete this a1 a2 a3 h = some r → tm_is h 8 this := fun r hr => by
    unfold fX8_delete at hr
    exact (tm_th_is hr).1
  exact tw_backi (tw_runV hC hR (cX8_delete_ok l G sz this a1 a2 a3 ga1 ga2 ga3 h r hr) (n := 3) (As := [.int (tw_I a1), .int (tw_I a2), .int (tw_I a3)]) ⟨tw_in_TB 327 (by decide +kernel) rfl, tw_in_TB 53 (by decide +kernel) rfl, by decide +kernel⟩ (tw_in_TB 325 (by decide +kernel) rfl) (tw_in_TB 326 (by decide +kernel) rfl) hl ⟨rfl, rfl⟩ hRm (ob r hr) (T := TX8) (N := 6) rfl rfl hsz rfl hW hdg hf) hL (fun H1 locs1 a b g => kk r.1 r.2 H1 locs1 a b g hF)
def rmX8_replace : Room := { frames := 4, cells := 0, slots := 0, locals := 91 }
set_option maxRecDepth 100000 in
set_option maxHeartbeats 4000000 in
theorem cX8_replace_ok (l : Launch) (G : tw_G) (sz : Nat) (this : Nat) (a1 : Int) (a2 : Int) (ga1 : tm_rg a1) (ga2 : tm_rg a2) (h : tm_H) (out : Int × tm_H) (hk : fX8_replace this a1 a2 h = some out) : Met l yX8_replace (tw_WS yX8_replace cX8_replace 3 (some .int)) rmX8_replace (va_Pc [.ref this, .int (tw_I a1), .int (tw_I a2)] (tw_Pre G sz h)) (tw_Qi G sz out.1 out.2) 0 0 (tw_F G) := by
  refine tw_met (by decide +kernel) (Nat.le_of_ble_eq_true rfl) ?_
  intro p e s m args below meth c H ls hC hnm hR hl
  unfold fX8_replace at hk
  obtain ⟨hob, hk⟩ := tm_th_is hk
  have hl : lv_has ls 3 [(0, .ref this), (1, .int (tw_I a1)), (2, .int (tw_I a2))] := hl
  have hL : tw_L G [] := fun q z => by cases z
  generalize hlc : ([] : List Loc) = locs at hL ⊢
  refine lv_aload_n hC.1 hC.2.1 dX8_replace_0 rfl (lv_at hl 0 rfl) ?_
  refine tw_getR hC hR hk flX8_10 dX8_replace_1 (fun r1 hk => ?_)
  refine tw_getR hC hR hk flX8_60 dX8_replace_4 (fun r2 hk => ?_)
  refine lv_iload_n hC.1 hC.2.1 dX8_replace_7 rfl (lv_at hl 1 rfl) ?_
  refine kX7_has hC hR hL hk ga1 mlX8_64 ⟨by decide, by decide⟩ hl.1 (Nat.le_of_ble_eq_true rfl) ⟨Nat.zero_le _, Nat.zero_le _⟩ dX8_replace_8 (fun v3 H locs hR hL gv3 hk => ?_)
  refine tw_zeq (tgt := 33) hC hk gv3 dX8_replace_11 (by decide) (fun _ hk => ?_) (fun _ hk => ?_)
  · refine lv_iconst (v := tw_I (-1)) hC.1 hC.2.1 dX8_replace_33 rfl ?_
    cases hk
    exact tw_iret hC hR hL ((tw_rgL rfl)) rfl rfl dX8_replace_34
  · refine lv_aload_n hC.1 hC.2.1 dX8_replace_14 rfl (lv_at hl 0 rfl) ?_
    refine tw_getR hC hR hk flX8_10 dX8_replace_15 (fun r4 hk => ?_)
    refine tw_getR hC hR hk flX8_60 dX8_replace_18 (fun r5 hk => ?_)
    refine lv_iload_n hC.1 hC.2.1 dX8_replace_21 rfl (lv_at hl 2 rfl) ?_
    refine kX7_has hC hR hL hk ga2 mlX8_64 ⟨by decide, by decide⟩ hl.1 (Nat.le_of_ble_eq_true rfl) ⟨Nat.zero_le _, Nat.zero_le _⟩ dX8_replace_22 (fun v6 H locs hR hL gv6 hk => ?_)
    refine tw_zeq (tgt := 33) hC hk gv6 dX8_replace_25 (by decide) (fun _ hk => ?_) (fun _ hk => ?_)
    · refine lv_iconst (v := tw_I (-1)) hC.1 hC.2.1 dX8_replace_33 rfl ?_
      cases hk
      exact tw_iret hC hR hL ((tw_rgL rfl)) rfl rfl dX8_replace_34
    · refine lv_iload_n hC.1 hC.2.1 dX8_replace_28 rfl (lv_at hl 1 rfl) ?_
      refine lv_iload_n hC.1 hC.2.1 dX8_replace_29 rfl (lv_at hl 2 rfl) ?_
      refine tw_cne (tgt := 35) hC hk ga1 ga2 dX8_replace_30 (by decide) (fun _ hk => ?_) (fun _ hk => ?_)
      · refine lv_iconst (v := tw_I (-1)) hC.1 hC.2.1 dX8_replace_33 rfl ?_
        cases hk
        exact tw_iret hC hR hL ((tw_rgL rfl)) rfl rfl dX8_replace_34
      · refine lv_aload_n hC.1 hC.2.1 dX8_replace_35 rfl (lv_at hl 0 rfl) ?_
        refine tw_getR hC hR hk flX8_22 dX8_replace_36 (fun r7 hk => ?_)
        refine lv_aload_n hC.1 hC.2.1 dX8_replace_39 rfl (lv_at hl 0 rfl) ?_
        refine tw_getR hC hR hk flX8_10 dX8_replace_40 (fun r8 hk => ?_)
        refine kX1_keep hC hR hL hk mlX8_67 ⟨by decide, by decide⟩ hl.1 (Nat.le_of_ble_eq_true rfl) ⟨Nat.zero_le _, Nat.zero_le _⟩ dX8_replace_43 (fun h9 H locs hR hL hk => ?_)
        refine lv_aload_n hC.1 hC.2.1 dX8_replace_46 rfl (lv_at hl 0 rfl) ?_
        refine tw_getR hC hR hk flX8_10 dX8_replace_47 (fun r10 hk => ?_)
        refine tw_getR hC hR hk flX8_46 dX8_replace_50 (fun r11 hk => ?_)
        refine lv_iload_n hC.1 hC.2.1 dX8_replace_53 rfl (lv_at hl 1 rfl) ?_
        refine lv_iload_n hC.1 hC.2.1 dX8_replace_54 rfl (lv_at hl 2 rfl) ?_
        refine kX0_exchange hC hR hL hk ga1 ga2 mlX8_82 ⟨by decide, by decide⟩ hl.1 (Nat.le_of_ble_eq_true rfl) ⟨Nat.zero_le _, Nat.zero_le _⟩ dX8_replace_55 (fun v12 h12 H locs hR hL gv12 hk => ?_)
        cases hk
        exact tw_iret hC hR hL gv12 rfl rfl dX8_replace_58
set_option maxRecDepth 100000 in
theorem kX8_replace {l : Launch} {p : Program} {e : Env} {R : Room} {s : State} {m : MethodId} {args : Array Value} {below : List Frame} {meth : Method} {c : Code} {H : Heap} {locs : List Loc} {cells slots : Nat} {Q : State → Prop} {cc : ByteArray} {pc nL idx : Nat} {ls : Array Slot} {rest : List Value} {G : tw_G} {h : tm_H} {own : String} {ret : Option FieldType} {α : Type} {x : α} {sz : Nat} {this : Nat} {a1 : Int} {a2 : Int} (hC : tw_C G p s m args meth c own cc nL ret) (hR : tw_Rel G sz h H) (hL : tw_L G locs) {F : Int × tm_H → Option α} (hk : (fX8_replace this a1 a2 h).bind F = some x) (ga1 : tm_rg a1) (ga2 : tm_rg a2) (hl : tw_mL own idx yX8_replace) (hRm : rmX8_replace.frames + 1 ≤ R.frames ∧ 8 + (3 + 11) + rmX8_replace.locals ≤ R.locals) (hsz : ls.size = nL) (hW : (rest.map fun v => v.category).sum ≤ 8) (hf : cells + 0 ≤ R.cells ∧ slots + 0 ≤ R.slots) (hdg : decode cc pc = .ok (.invokevirtual idx, 3)) (kk : ∀ (r : Int) (h1 : tm_H) (H1 : Heap) (locs1 : List Loc), tw_Rel G sz h1 H1 → tw_L G locs1 → tm_rg r → F (r, h1) = some x → W p l e R s m args below meth c H1 locs1 (cells + 0) (slots + 0) Q (F0 m (pc + 3) ls (.int (tw_I r) :: rest))) : W p l e R s m args below meth c H locs cells slots Q (F0 m pc ls (.int (tw_I a2) :: .int (tw_I a1) :: .ref this :: rest)) := by
  obtain ⟨r, hr, hF⟩ := Option.bind_eq_some_iff.mp hk
  have ob : ∀ r, fX8_replace this a1 a2 h = some r → tm_is h 8 this := fun r hr => by
    unfold fX8_replace at hr
    exact (tm_th_is hr).1
  exact tw_backi (tw_runV hC hR (cX8_replace_ok l G sz this a1 a2 ga1 ga2 h r hr) (n := 2) (As := [.int (tw_I a1), .int (tw_I a2)]) ⟨tw_in_TB 340 (by decide +kernel) rfl, tw_in_TB 53 (by decide +kernel) rfl, by decide +kernel⟩ (tw_in_TB 338 (by decide +kernel) rfl) (tw_in_TB 339 (by decide +kernel) rfl) hl ⟨rfl, rfl⟩ hRm (ob r hr) (T := TX8) (N := 6) rfl rfl hsz rfl hW hdg hf) hL (fun H1 locs1 a b g => kk r.1 r.2 H1 locs1 a b g hF)
def rmX8_readNow : Room := { frames := 5, cells := 0, slots := 0, locals := 119 }
set_option maxRecDepth 100000 in
set_option maxHeartbeats 4000000 in
theorem cX8_readNow_ok (l : Launch) (G : tw_G) (sz : Nat) (this : Nat)  (h : tm_H) (out : Nat × tm_H) (hk : fX8_readNow this h = some out) : Met l yX8_readNow (tw_WS yX8_readNow cX8_readNow 1 (some (.object "TermMarks$Reading"))) rmX8_readNow (va_Pc [.ref this] (tw_Pre G sz h)) (tw_Qr G sz out.1 out.2) 0 0 (tw_F G) := by
  refine tw_met (by decide +kernel) (Nat.le_of_ble_eq_true rfl) ?_
  intro p e s m args below meth c H ls hC hnm hR hl
  unfold fX8_readNow at hk
  obtain ⟨hob, hk⟩ := tm_th_is hk
  have hl : lv_has ls 1 [(0, .ref this)] := hl
  have hL : tw_L G [] := fun q z => by cases z
  generalize hlc : ([] : List Loc) = locs at hL ⊢
  refine lv_aload_n hC.1 hC.2.1 dX8_readNow_0 rfl (lv_at hl 0 rfl) ?_
  refine tw_getR hC hR hk flX8_36 dX8_readNow_1 (fun r1 hk => ?_)
  refine lv_aload_n hC.1 hC.2.1 dX8_readNow_4 rfl (lv_at hl 0 rfl) ?_
  refine tw_getR hC hR hk flX8_10 dX8_readNow_5 (fun r2 hk => ?_)
  refine kX3_read hC hR hL hk mlX8_227 ⟨by decide, by decide⟩ hl.1 (Nat.le_of_ble_eq_true rfl) ⟨Nat.zero_le _, Nat.zero_le _⟩ dX8_readNow_8 (fun h3 H locs hR hL hk => ?_)
  refine lv_aload_n hC.1 hC.2.1 dX8_readNow_11 rfl (lv_at hl 0 rfl) ?_
  refine tw_getR hC hR hk flX8_36 dX8_readNow_12 (fun r4 hk => ?_)
  cases hk
  exact tw_aret hC (Or.inl ⟨_, rfl⟩) hR hL rfl rfl dX8_readNow_15
set_option maxRecDepth 100000 in
theorem kX8_readNow {l : Launch} {p : Program} {e : Env} {R : Room} {s : State} {m : MethodId} {args : Array Value} {below : List Frame} {meth : Method} {c : Code} {H : Heap} {locs : List Loc} {cells slots : Nat} {Q : State → Prop} {cc : ByteArray} {pc nL idx : Nat} {ls : Array Slot} {rest : List Value} {G : tw_G} {h : tm_H} {own : String} {ret : Option FieldType} {α : Type} {x : α} {sz : Nat} {this : Nat} (hC : tw_C G p s m args meth c own cc nL ret) (hR : tw_Rel G sz h H) (hL : tw_L G locs) {F : Nat × tm_H → Option α} (hk : (fX8_readNow this h).bind F = some x)  (hl : tw_mL own idx yX8_readNow) (hRm : rmX8_readNow.frames + 1 ≤ R.frames ∧ 8 + (1 + 11) + rmX8_readNow.locals ≤ R.locals) (hsz : ls.size = nL) (hW : (rest.map fun v => v.category).sum ≤ 8) (hf : cells + 0 ≤ R.cells ∧ slots + 0 ≤ R.slots) (hdg : decode cc pc = .ok (.invokevirtual idx, 3)) (kk : ∀ (r : Nat) (h1 : tm_H) (H1 : Heap) (locs1 : List Loc), tw_Rel G sz h1 H1 → tw_L G locs1 → F (r, h1) = some x → W p l e R s m args below meth c H1 locs1 (cells + 0) (slots + 0) Q (F0 m (pc + 3) ls (.ref r :: rest))) : W p l e R s m args below meth c H locs cells slots Q (F0 m pc ls (.ref this :: rest)) := by
  obtain ⟨r, hr, hF⟩ := Option.bind_eq_some_iff.mp hk
  have ob : ∀ r, fX8_readNow this h = some r → tm_is h 8 this := fun r hr => by
    unfold fX8_readNow at hr
    exact (tm_th_is hr).1
  exact tw_backr (tw_runV hC hR (cX8_readNow_ok l G sz this  h r hr) (n := 0) (As := []) ⟨tw_in_TB 356 (by decide +kernel) rfl, tw_in_TB 53 (by decide +kernel) rfl, by decide +kernel⟩ (tw_in_TB 355 (by decide +kernel) rfl) (tw_in_TB 1 (by decide +kernel) rfl) hl ⟨rfl, rfl⟩ hRm (ob r hr) (T := TX8) (N := 6) rfl rfl hsz rfl hW hdg hf) hL (fun H1 locs1 a b => kk r.1 r.2 H1 locs1 a b hF)
def rmX8_swap : Room := { frames := 6, cells := 0, slots := 0, locals := 139 }
set_option maxRecDepth 100000 in
set_option maxHeartbeats 4000000 in
theorem cX8_swap_ok (l : Launch) (G : tw_G) (sz : Nat) (this : Nat) (a1 : Int) (a2 : Int) (ga1 : tm_rg a1) (ga2 : tm_rg a2) (h : tm_H) (out : Int × tm_H) (hk : fX8_swap this a1 a2 h = some out) : Met l yX8_swap (tw_WS yX8_swap cX8_swap 3 (some .int)) rmX8_swap (va_Pc [.ref this, .int (tw_I a1), .int (tw_I a2)] (tw_Pre G sz h)) (tw_Qi G sz out.1 out.2) 0 0 (tw_F G) := by
  refine tw_met (by decide +kernel) (Nat.le_of_ble_eq_true rfl) ?_
  intro p e s m args below meth c H ls hC hnm hR hl
  unfold fX8_swap at hk
  obtain ⟨hob, hk⟩ := tm_th_is hk
  have hl : lv_has ls 3 [(0, .ref this), (1, .int (tw_I a1)), (2, .int (tw_I a2))] := hl
  have hL : tw_L G [] := fun q z => by cases z
  generalize hlc : ([] : List Loc) = locs at hL ⊢
  refine lv_aload_n hC.1 hC.2.1 dX8_swap_0 rfl (lv_at hl 0 rfl) ?_
  refine tw_getR hC hR hk flX8_10 dX8_swap_1 (fun r1 hk => ?_)
  refine tw_getR hC hR hk flX8_46 dX8_swap_4 (fun r2 hk => ?_)
  refine lv_iload_n hC.1 hC.2.1 dX8_swap_7 rfl (lv_at hl 1 rfl) ?_
  refine kX0_has hC hR hL hk ga1 mlX8_50 ⟨by decide, by decide⟩ hl.1 (Nat.le_of_ble_eq_true rfl) ⟨Nat.zero_le _, Nat.zero_le _⟩ dX8_swap_8 (fun v3 H locs hR hL gv3 hk => ?_)
  refine tw_zeq (tgt := 28) hC hk gv3 dX8_swap_11 (by decide) (fun _ hk => ?_) (fun _ hk => ?_)
  · refine lv_iconst (v := tw_I (-1)) hC.1 hC.2.1 dX8_swap_28 rfl ?_
    cases hk
    exact tw_iret hC hR hL ((tw_rgL rfl)) rfl rfl dX8_swap_29
  · refine lv_aload_n hC.1 hC.2.1 dX8_swap_14 rfl (lv_at hl 0 rfl) ?_
    refine tw_getR hC hR hk flX8_10 dX8_swap_15 (fun r4 hk => ?_)
    refine tw_getR hC hR hk flX8_46 dX8_swap_18 (fun r5 hk => ?_)
    refine lv_iload_n hC.1 hC.2.1 dX8_swap_21 rfl (lv_at hl 2 rfl) ?_
    refine kX0_has hC hR hL hk ga2 mlX8_50 ⟨by decide, by decide⟩ hl.1 (Nat.le_of_ble_eq_true rfl) ⟨Nat.zero_le _, Nat.zero_le _⟩ dX8_swap_22 (fun v6 H locs hR hL gv6 hk => ?_)
    refine tw_zne (tgt := 30) hC hk gv6 dX8_swap_25 (by decide) (fun _ hk => ?_) (fun _ hk => ?_)
    · refine lv_iconst (v := tw_I (-1)) hC.1 hC.2.1 dX8_swap_28 rfl ?_
      cases hk
      exact tw_iret hC hR hL ((tw_rgL rfl)) rfl rfl dX8_swap_29
    · refine lv_aload_n hC.1 hC.2.1 dX8_swap_30 rfl (lv_at hl 0 rfl) ?_
      refine tw_getR hC hR hk flX8_22 dX8_swap_31 (fun r7 hk => ?_)
      refine lv_aload_n hC.1 hC.2.1 dX8_swap_34 rfl (lv_at hl 0 rfl) ?_
      refine tw_getR hC hR hk flX8_10 dX8_swap_35 (fun r8 hk => ?_)
      refine kX1_keep hC hR hL hk mlX8_67 ⟨by decide, by decide⟩ hl.1 (Nat.le_of_ble_eq_true rfl) ⟨Nat.zero_le _, Nat.zero_le _⟩ dX8_swap_38 (fun h9 H locs hR hL hk => ?_)
      refine lv_aload_n hC.1 hC.2.1 dX8_swap_41 rfl (lv_at hl 0 rfl) ?_
      refine tw_getR hC hR hk flX8_10 dX8_swap_42 (fun r10 hk => ?_)
      refine tw_getR hC hR hk flX8_46 dX8_swap_45 (fun r11 hk => ?_)
      refine lv_iload_n hC.1 hC.2.1 dX8_swap_48 rfl (lv_at hl 1 rfl) ?_
      refine lv_iload_n hC.1 hC.2.1 dX8_swap_49 rfl (lv_at hl 2 rfl) ?_
      refine kX0_trade hC hR hL hk ga1 ga2 mlX8_86 ⟨by decide, by decide⟩ hl.1 (Nat.le_of_ble_eq_true rfl) ⟨Nat.zero_le _, Nat.zero_le _⟩ dX8_swap_50 (fun h12 H locs hR hL hk => ?_)
      refine lv_aload_n hC.1 hC.2.1 dX8_swap_53 rfl (lv_at hl 0 rfl) ?_
      refine kX8_readNow hC hR hL hk mlX8_90 ⟨by decide, by decide⟩ hl.1 (Nat.le_of_ble_eq_true rfl) ⟨Nat.zero_le _, Nat.zero_le _⟩ dX8_swap_54 (fun v13 h13 H locs hR hL hk => ?_)
      refine kX3_markCount hC hR hL hk mlX8_94 ⟨by decide, by decide⟩ hl.1 (Nat.le_of_ble_eq_true rfl) ⟨Nat.zero_le _, Nat.zero_le _⟩ dX8_swap_57 (fun v14 H locs hR hL gv14 hk => ?_)
      cases hk
      exact tw_iret hC hR hL gv14 rfl rfl dX8_swap_60
set_option maxRecDepth 100000 in
theorem kX8_swap {l : Launch} {p : Program} {e : Env} {R : Room} {s : State} {m : MethodId} {args : Array Value} {below : List Frame} {meth : Method} {c : Code} {H : Heap} {locs : List Loc} {cells slots : Nat} {Q : State → Prop} {cc : ByteArray} {pc nL idx : Nat} {ls : Array Slot} {rest : List Value} {G : tw_G} {h : tm_H} {own : String} {ret : Option FieldType} {α : Type} {x : α} {sz : Nat} {this : Nat} {a1 : Int} {a2 : Int} (hC : tw_C G p s m args meth c own cc nL ret) (hR : tw_Rel G sz h H) (hL : tw_L G locs) {F : Int × tm_H → Option α} (hk : (fX8_swap this a1 a2 h).bind F = some x) (ga1 : tm_rg a1) (ga2 : tm_rg a2) (hl : tw_mL own idx yX8_swap) (hRm : rmX8_swap.frames + 1 ≤ R.frames ∧ 8 + (3 + 11) + rmX8_swap.locals ≤ R.locals) (hsz : ls.size = nL) (hW : (rest.map fun v => v.category).sum ≤ 8) (hf : cells + 0 ≤ R.cells ∧ slots + 0 ≤ R.slots) (hdg : decode cc pc = .ok (.invokevirtual idx, 3)) (kk : ∀ (r : Int) (h1 : tm_H) (H1 : Heap) (locs1 : List Loc), tw_Rel G sz h1 H1 → tw_L G locs1 → tm_rg r → F (r, h1) = some x → W p l e R s m args below meth c H1 locs1 (cells + 0) (slots + 0) Q (F0 m (pc + 3) ls (.int (tw_I r) :: rest))) : W p l e R s m args below meth c H locs cells slots Q (F0 m pc ls (.int (tw_I a2) :: .int (tw_I a1) :: .ref this :: rest)) := by
  obtain ⟨r, hr, hF⟩ := Option.bind_eq_some_iff.mp hk
  have ob : ∀ r, fX8_swap this a1 a2 h = some r → tm_is h 8 this := fun r hr => by
    unfold fX8_swap at hr
    exact (tm_th_is hr).1
  exact tw_backi (tw_runV hC hR (cX8_swap_ok l G sz this a1 a2 ga1 ga2 h r hr) (n := 2) (As := [.int (tw_I a1), .int (tw_I a2)]) ⟨tw_in_TB 348 (by decide +kernel) rfl, tw_in_TB 53 (by decide +kernel) rfl, by decide +kernel⟩ (tw_in_TB 346 (by decide +kernel) rfl) (tw_in_TB 347 (by decide +kernel) rfl) hl ⟨rfl, rfl⟩ hRm (ob r hr) (T := TX8) (N := 6) rfl rfl hsz rfl hW hdg hf) hL (fun H1 locs1 a b g => kk r.1 r.2 H1 locs1 a b g hF)
