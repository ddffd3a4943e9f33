def rmX5_twoAreAlike : Room := { frames := 2, cells := 0, slots := 0, locals := 45 }
set_option maxRecDepth 100000 in
set_option maxHeartbeats 4000000 in
theorem sX5_twoAreAlike_S0 {l : Launch} {p : Program} {e : Env} {s : State} {m : MethodId} {args : Array Value} {below : List Frame} {meth : Method} {c : Code} (G : tw_G) (sz : Nat) (hC : tw_C G p s m args meth c RX5 cX5_twoAreAlike 4 (some .boolean)) (this : Nat) (a1 : Nat)  (h : tm_H) : ∀ (k : Nat) (st : (Int) ⊕ (Int × Int) ⊕ (Int × Int)) (out : Int), tm_wit (fX5_twoAreAlike_S0 this a1 h) k st = some out → match st with
    | .inl ((x2)) => ∀ (H : Heap) (locs : List Loc) (ls : Array Slot), tm_rg x2 → tw_Rel G sz h H → tw_L G locs → lv_has ls 4 [(0, .ref this), (1, .ref a1), (2, .int (tw_I x2))] → W p l e rmX5_twoAreAlike s m args below meth c H locs 0 0 (MQ below (tw_Qi G sz out h) args s 0 0 (tw_F G)) (F0 m 2 ls [])
    | .inr (.inl ((x2, x3))) => ∀ (H : Heap) (locs : List Loc) (ls : Array Slot), tm_rg x2 → tm_rg x3 → tw_Rel G sz h H → tw_L G locs → lv_has ls 4 [(0, .ref this), (1, .ref a1), (2, .int (tw_I x2)), (3, .int (tw_I x3))] → W p l e rmX5_twoAreAlike s m args below meth c H locs 0 0 (MQ below (tw_Qi G sz out h) args s 0 0 (tw_F G)) (F0 m 14 ls [])
    | .inr (.inr ((x2, x3))) => ∀ (H : Heap) (locs : List Loc) (ls : Array Slot), tm_rg x2 → tm_rg x3 → tw_Rel G sz h H → tw_L G locs → lv_has ls 4 [(0, .ref this), (1, .ref a1), (2, .int (tw_I x2)), (3, .int (tw_I x3))] → W p l e rmX5_twoAreAlike s m args below meth c H locs 0 0 (MQ below (tw_Qi G sz out h) args s 0 0 (tw_F G)) (F0 m 64 ls []) := by
  intro k
  induction k with
  | zero =>
    intro st out hk
    exact absurd hk (by unfold tm_wit; exact fun z => by cases z)
  | succ k ih =>
    intro st out hk
    obtain ⟨X, hk, hf⟩ := tm_wit_succ hk
    obtain x2 | ⟨x2, x3⟩ | ⟨x2, x3⟩ := st
    · intro H locs ls gx2 hR hL hl
      dsimp only [fX5_twoAreAlike_S0] at hk
      refine lv_iload_n hC.1 hC.2.1 dX5_twoAreAlike_2 rfl (lv_at hl 2 rfl) ?_
      refine lv_aload_n hC.1 hC.2.1 dX5_twoAreAlike_3 rfl (lv_at hl 0 rfl) ?_
      refine tw_getI hC hR hk flX5_24 dX5_twoAreAlike_4 (fun v1 gv1 hk => ?_)
      refine tw_cge (tgt := 76) hC hk gx2 gv1 dX5_twoAreAlike_7 (by decide) (fun _ hk => ?_) (fun _ hk => ?_)
      · refine lv_iload_n hC.1 hC.2.1 dX5_twoAreAlike_10 rfl (lv_at hl 2 rfl) ?_
        refine lv_iconst (v := tw_I 1) hC.1 hC.2.1 dX5_twoAreAlike_11 rfl ?_
        refine tw_iadd hC dX5_twoAreAlike_12 ?_
        refine lv_istore_n (lv' := [(3, .int (tw_I (tm_wr (x2 + 1)))), (0, .ref this), (1, .ref a1), (2, .int (tw_I x2))]) hC.1 hC.2.1 dX5_twoAreAlike_13 rfl hl (by decide) rfl (fun ls hl => ?_)
        cases hk
        exact ih _ out hf H locs _ gx2 ((tm_wr_rg _)) hR hL (lv_sub hl [1, 2, 3, 0] rfl)
      · refine lv_iconst (v := tw_I 0) hC.1 hC.2.1 dX5_twoAreAlike_76 rfl ?_
        cases hk
        cases hf
        exact tw_zret hC hR hL rfl rfl dX5_twoAreAlike_77
    · intro H locs ls gx2 gx3 hR hL hl
      dsimp only [fX5_twoAreAlike_S0] at hk
      refine lv_iload_n hC.1 hC.2.1 dX5_twoAreAlike_14 rfl (lv_at hl 3 rfl) ?_
      refine lv_aload_n hC.1 hC.2.1 dX5_twoAreAlike_15 rfl (lv_at hl 0 rfl) ?_
      refine tw_getI hC hR hk flX5_24 dX5_twoAreAlike_16 (fun v2 gv2 hk => ?_)
      refine tw_cge (tgt := 70) hC hk gx3 gv2 dX5_twoAreAlike_19 (by decide) (fun _ hk => ?_) (fun _ hk => ?_)
      · refine lv_aload_n hC.1 hC.2.1 dX5_twoAreAlike_22 rfl (lv_at hl 0 rfl) ?_
        refine tw_getR hC hR hk flX5_16 dX5_twoAreAlike_23 (fun r3 hk => ?_)
        refine lv_iload_n hC.1 hC.2.1 dX5_twoAreAlike_26 rfl (lv_at hl 2 rfl) ?_
        refine tw_iald hC hR hk dX5_twoAreAlike_27 (fun v4 gv4 hk => ?_)
        refine lv_aload_n hC.1 hC.2.1 dX5_twoAreAlike_28 rfl (lv_at hl 0 rfl) ?_
        refine tw_getR hC hR hk flX5_16 dX5_twoAreAlike_29 (fun r5 hk => ?_)
        refine lv_iload_n hC.1 hC.2.1 dX5_twoAreAlike_32 rfl (lv_at hl 3 rfl) ?_
        refine tw_iald hC hR hk dX5_twoAreAlike_33 (fun v6 gv6 hk => ?_)
        refine tw_cne (tgt := 64) hC hk gv4 gv6 dX5_twoAreAlike_34 (by decide) (fun _ hk => ?_) (fun _ hk => ?_)
        · refine lv_aload_n hC.1 hC.2.1 dX5_twoAreAlike_37 rfl (lv_at hl 1 rfl) ?_
          refine lv_aload_n hC.1 hC.2.1 dX5_twoAreAlike_38 rfl (lv_at hl 0 rfl) ?_
          refine tw_getR hC hR hk flX5_13 dX5_twoAreAlike_39 (fun r7 hk => ?_)
          refine lv_iload_n hC.1 hC.2.1 dX5_twoAreAlike_42 rfl (lv_at hl 2 rfl) ?_
          refine tw_aald hC hR hk dX5_twoAreAlike_43 (fun r8 hk => ?_)
          refine lv_aload_n hC.1 hC.2.1 dX5_twoAreAlike_44 rfl (lv_at hl 0 rfl) ?_
          refine tw_getR hC hR hk flX5_13 dX5_twoAreAlike_45 (fun r9 hk => ?_)
          refine lv_iload_n hC.1 hC.2.1 dX5_twoAreAlike_48 rfl (lv_at hl 3 rfl) ?_
          refine tw_aald hC hR hk dX5_twoAreAlike_49 (fun r10 hk => ?_)
          refine lv_aload_n hC.1 hC.2.1 dX5_twoAreAlike_50 rfl (lv_at hl 0 rfl) ?_
          refine tw_getR hC hR hk flX5_16 dX5_twoAreAlike_51 (fun r11 hk => ?_)
          refine lv_iload_n hC.1 hC.2.1 dX5_twoAreAlike_54 rfl (lv_at hl 2 rfl) ?_
          refine tw_iald hC hR hk dX5_twoAreAlike_55 (fun v12 gv12 hk => ?_)
          refine kX5_sameBases hC hR hL hk gv12 mlX5_38 ⟨by decide, by decide⟩ hl.1 (Nat.le_of_ble_eq_true rfl) ⟨Nat.zero_le _, Nat.zero_le _⟩ dX5_twoAreAlike_56 (fun v13 H locs hR hL gv13 hk => ?_)
          refine tw_zeq (tgt := 64) hC hk gv13 dX5_twoAreAlike_59 (by decide) (fun _ hk => ?_) (fun _ hk => ?_)
          · cases hk
            exact ih _ out hf H locs _ gx2 gx3 hR hL (lv_sub hl [0, 1, 2, 3] rfl)
          · refine lv_iconst (v := tw_I 1) hC.1 hC.2.1 dX5_twoAreAlike_62 rfl ?_
            cases hk
            cases hf
            exact tw_zret hC hR hL rfl rfl dX5_twoAreAlike_63
        · cases hk
          exact ih _ out hf H locs _ gx2 gx3 hR hL (lv_sub hl [0, 1, 2, 3] rfl)
      · refine tw_iinc (lv' := [(2, .int (tw_I (tm_wr (x2 + 1)))), (0, .ref this), (1, .ref a1), (3, .int (tw_I x3))]) hC dX5_twoAreAlike_70 hl (k := 2) rfl (by decide) rfl (fun ls hl => ?_)
        refine lv_goto (tgt := 2) hC.1 hC.2.1 dX5_twoAreAlike_73 (by decide) ?_
        cases hk
        exact ih _ out hf H locs _ ((tm_wr_rg _)) hR hL (lv_sub hl [1, 2, 0] rfl)
    · intro H locs ls gx2 gx3 hR hL hl
      dsimp only [fX5_twoAreAlike_S0] at hk
      refine tw_iinc (lv' := [(3, .int (tw_I (tm_wr (x3 + 1)))), (0, .ref this), (1, .ref a1), (2, .int (tw_I x2))]) hC dX5_twoAreAlike_64 hl (k := 3) rfl (by decide) rfl (fun ls hl => ?_)
      refine lv_goto (tgt := 14) hC.1 hC.2.1 dX5_twoAreAlike_67 (by decide) ?_
      cases hk
      exact ih _ out hf H locs _ gx2 ((tm_wr_rg _)) hR hL (lv_sub hl [1, 2, 3, 0] rfl)
theorem sX5_twoAreAlike_L2 {l : Launch} {p : Program} {e : Env} {s : State} {m : MethodId} {args : Array Value} {below : List Frame} {meth : Method} {c : Code} (G : tw_G) (sz : Nat) (hC : tw_C G p s m args meth c RX5 cX5_twoAreAlike 4 (some .boolean)) (this : Nat) (a1 : Nat)  (h : tm_H) (x2 : Int) (gx2 : tm_rg x2) (out : Int) (hk : fX5_twoAreAlike_L2 this a1 h x2 = some out) (H : Heap) (locs : List Loc) (ls : Array Slot) (hR : tw_Rel G sz h H) (hL : tw_L G locs) (hl : lv_has ls 4 [(0, .ref this), (1, .ref a1), (2, .int (tw_I x2))]) : W p l e rmX5_twoAreAlike s m args below meth c H locs 0 0 (MQ below (tw_Qi G sz out h) args s 0 0 (tw_F G)) (F0 m 2 ls []) := by
  obtain ⟨k, hk⟩ := tm_wl_iff.mp hk
  exact sX5_twoAreAlike_S0 G sz hC this a1  h k (.inl ((x2))) out hk H locs ls gx2 hR hL hl
theorem sX5_twoAreAlike_L14 {l : Launch} {p : Program} {e : Env} {s : State} {m : MethodId} {args : Array Value} {below : List Frame} {meth : Method} {c : Code} (G : tw_G) (sz : Nat) (hC : tw_C G p s m args meth c RX5 cX5_twoAreAlike 4 (some .boolean)) (this : Nat) (a1 : Nat)  (h : tm_H) (x2 : Int) (x3 : Int) (gx2 : tm_rg x2) (gx3 : tm_rg x3) (out : Int) (hk : fX5_twoAreAlike_L14 this a1 h x2 x3 = some out) (H : Heap) (locs : List Loc) (ls : Array Slot) (hR : tw_Rel G sz h H) (hL : tw_L G locs) (hl : lv_has ls 4 [(0, .ref this), (1, .ref a1), (2, .int (tw_I x2)), (3, .int (tw_I x3))]) : W p l e rmX5_twoAreAlike s m args below meth c H locs 0 0 (MQ below (tw_Qi G sz out h) args s 0 0 (tw_F G)) (F0 m 14 ls []) := by
  obtain ⟨k, hk⟩ := tm_wl_iff.mp hk
  exact sX5_twoAreAlike_S0 G sz hC this a1  h k (.inr (.inl ((x2, x3)))) out hk H locs ls gx2 gx3 hR hL hl
theorem sX5_twoAreAlike_L64 {l : Launch} {p : Program} {e : Env} {s : State} {m : MethodId} {args : Array Value} {below : List Frame} {meth : Method} {c : Code} (G : tw_G) (sz : Nat) (hC : tw_C G p s m args meth c RX5 cX5_twoAreAlike 4 (some .boolean)) (this : Nat) (a1 : Nat)  (h : tm_H) (x2 : Int) (x3 : Int) (gx2 : tm_rg x2) (gx3 : tm_rg x3) (out : Int) (hk : fX5_twoAreAlike_L64 this a1 h x2 x3 = some out) (H : Heap) (locs : List Loc) (ls : Array Slot) (hR : tw_Rel G sz h H) (hL : tw_L G locs) (hl : lv_has ls 4 [(0, .ref this), (1, .ref a1), (2, .int (tw_I x2)), (3, .int (tw_I x3))]) : W p l e rmX5_twoAreAlike s m args below meth c H locs 0 0 (MQ below (tw_Qi G sz out h) args s 0 0 (tw_F G)) (F0 m 64 ls []) := by
  obtain ⟨k, hk⟩ := tm_wl_iff.mp hk
  exact sX5_twoAreAlike_S0 G sz hC this a1  h k (.inr (.inr ((x2, x3)))) out hk H locs ls gx2 gx3 hR hL hl
set_option maxRecDepth 100000 in
set_option maxHeartbeats 4000000 in
theorem cX5_twoAreAlike_ok (l : Launch) (G : tw_G) (sz : Nat) (this : Nat) (a1 : Nat)  (h : tm_H) (out : Int) (hk : fX5_twoAreAlike this a1 h = some out) : Met l yX5_twoAreAlike (tw_WS yX5_twoAreAlike cX5_twoAreAlike 4 (some .boolean)) rmX5_twoAreAlike (va_Pc [.ref this, .ref a1] (tw_Pre G sz h)) (tw_Qi G sz out h) 0 0 (tw_F G) := by
  refine tw_met (by decide +kernel) (Nat.le_of_ble_eq_true rfl) ?_
  intro p e s m args below meth c H ls hC hnm hR hl
  unfold fX5_twoAreAlike at hk
  obtain ⟨hob, hk⟩ := tm_th_is hk
  have hl : lv_has ls 4 [(0, .ref this), (1, .ref a1)] := hl
  have hL : tw_L G [] := fun q z => by cases z
  generalize hlc : ([] : List Loc) = locs at hL ⊢
  refine lv_iconst (v := tw_I 0) hC.1 hC.2.1 dX5_twoAreAlike_0 rfl ?_
  refine lv_istore_n (lv' := [(2, .int (tw_I 0)), (0, .ref this), (1, .ref a1)]) hC.1 hC.2.1 dX5_twoAreAlike_1 rfl hl (by decide) rfl (fun ls hl => ?_)
  exact sX5_twoAreAlike_L2 G sz hC this a1 h 0 ((tw_rgL rfl)) out hk H locs _ hR hL (lv_sub hl [1, 2, 0] rfl)
set_option maxRecDepth 100000 in
theorem kX5_twoAreAlike {l : Launch} {p : Program} {e : Env} {R : Room} {s : State} {m : MethodId} {args : Array Value} {below : List Frame} {meth : Method} {c : Code} {H : Heap} {locs : List Loc} {cells slots : Nat} {Q : State → Prop} {cc : ByteArray} {pc nL idx : Nat} {ls : Array Slot} {rest : List Value} {G : tw_G} {h : tm_H} {own : String} {ret : Option FieldType} {α : Type} {x : α} {sz : Nat} {this : Nat} {a1 : Nat} (hC : tw_C G p s m args meth c own cc nL ret) (hR : tw_Rel G sz h H) (hL : tw_L G locs) {F : Int → Option α} (hk : (fX5_twoAreAlike this a1 h).bind F = some x)  (hl : tw_mL own idx yX5_twoAreAlike) (hRm : rmX5_twoAreAlike.frames + 1 ≤ R.frames ∧ 8 + (4 + 11) + rmX5_twoAreAlike.locals ≤ R.locals) (hsz : ls.size = nL) (hW : (rest.map fun v => v.category).sum ≤ 8) (hf : cells + 0 ≤ R.cells ∧ slots + 0 ≤ R.slots) (hdg : decode cc pc = .ok (.invokevirtual idx, 3)) (kk : ∀ (r : Int) (H1 : Heap) (locs1 : List Loc), tw_Rel G sz h H1 → tw_L G locs1 → tm_rg r → F r = some x → W p l e R s m args below meth c H1 locs1 (cells + 0) (slots + 0) Q (F0 m (pc + 3) ls (.int (tw_I r) :: rest))) : W p l e R s m args below meth c H locs cells slots Q (F0 m pc ls (.ref a1 :: .ref this :: rest)) := by
  obtain ⟨r, hr, hF⟩ := Option.bind_eq_some_iff.mp hk
  have ob : ∀ r, fX5_twoAreAlike this a1 h = some r → tm_is h 5 this := fun r hr => by
    unfold fX5_twoAreAlike at hr
    exact (tm_th_is hr).1
  exact tw_backi (tw_runV hC hR (cX5_twoAreAlike_ok l G sz this a1  h r hr) (n := 1) (As := [.ref a1]) ⟨tw_in_TB 484 (by decide +kernel) rfl, tw_in_TB 57 (by decide +kernel) rfl, by decide +kernel⟩ (tw_in_TB 482 (by decide +kernel) rfl) (tw_in_TB 483 (by decide +kernel) rfl) hl ⟨rfl, rfl⟩ hRm (ob r hr) (T := TX5) (N := 4) rfl rfl hsz rfl hW hdg hf) hL (fun H1 locs1 a b g => kk r H1 locs1 a b g hF)
def rmX4_mayHaveBase : Room := { frames := 3, cells := 0, slots := 0, locals := 68 }
set_option maxRecDepth 100000 in
set_option maxHeartbeats 4000000 in
theorem sX4_mayHaveBase_L29 {l : Launch} {p : Program} {e : Env} {s : State} {m : MethodId} {args : Array Value} {below : List Frame} {meth : Method} {c : Code} (G : tw_G) (sz : Nat) (hC : tw_C G p s m args meth c RX4 cX4_mayHaveBase 5 (some .boolean)) (this : Nat) (a1 : Int) (a2 : Int) (ga1 : tm_rg a1) (ga2 : tm_rg a2)  (h : tm_H)  (out : Int × tm_H) (hk : fX4_mayHaveBase_L29 this a1 a2 h = some out) (H : Heap) (locs : List Loc) (ls : Array Slot) (hR : tw_Rel G sz h H) (hL : tw_L G locs) (hl : lv_has ls 5 [(0, .ref this), (1, .int (tw_I a1)), (2, .int (tw_I a2))]) : W p l e rmX4_mayHaveBase s m args below meth c H locs 0 0 (MQ below (tw_Qi G sz out.1 out.2) args s 0 0 (tw_F G)) (F0 m 29 ls []) := by
  unfold fX4_mayHaveBase_L29 at hk
  refine lv_aload_n hC.1 hC.2.1 dX4_mayHaveBase_29 rfl (lv_at hl 0 rfl) ?_
  refine tw_getR hC hR hk flX4_12 dX4_mayHaveBase_30 (fun r5 hk => ?_)
  refine lv_iload_n hC.1 hC.2.1 dX4_mayHaveBase_33 rfl (lv_at hl 1 rfl) ?_
  refine kX7_baseOf hC hR hL hk ga1 mlX4_57 ⟨by decide, by decide⟩ hl.1 (Nat.le_of_ble_eq_true rfl) ⟨Nat.zero_le _, Nat.zero_le _⟩ dX4_mayHaveBase_34 (fun v6 H locs hR hL gv6 hk => ?_)
  refine lv_istore_n (lv' := [(3, .int (tw_I v6)), (0, .ref this), (1, .int (tw_I a1)), (2, .int (tw_I a2))]) hC.1 hC.2.1 dX4_mayHaveBase_37 rfl hl (by decide) rfl (fun ls hl => ?_)
  refine lv_aload_n hC.1 hC.2.1 dX4_mayHaveBase_38 rfl (lv_at hl 1 rfl) ?_
  refine tw_getR hC hR hk flX4_12 dX4_mayHaveBase_39 (fun r7 hk => ?_)
  refine lv_iload_n hC.1 hC.2.1 dX4_mayHaveBase_42 rfl (lv_at hl 2 rfl) ?_
  refine lv_iload_n hC.1 hC.2.1 dX4_mayHaveBase_43 rfl (lv_at hl 3 rfl) ?_
  refine kX7_putBase hC hR hL hk ga1 ga2 mlX4_61 ⟨by decide, by decide⟩ hl.1 (Nat.le_of_ble_eq_true rfl) ⟨Nat.zero_le _, Nat.zero_le _⟩ dX4_mayHaveBase_44 (fun h8 H locs hR hL hk => ?_)
  refine lv_aload_n hC.1 hC.2.1 dX4_mayHaveBase_47 rfl (lv_at hl 1 rfl) ?_
  refine tw_getR hC hR hk flX4_28 dX4_mayHaveBase_48 (fun r9 hk => ?_)
  refine lv_aload_n hC.1 hC.2.1 dX4_mayHaveBase_51 rfl (lv_at hl 1 rfl) ?_
  refine tw_getR hC hR hk flX4_12 dX4_mayHaveBase_52 (fun r10 hk => ?_)
  refine kX5_twoAreAlike hC hR hL hk mlX4_65 ⟨by decide, by decide⟩ hl.1 (Nat.le_of_ble_eq_true rfl) ⟨Nat.zero_le _, Nat.zero_le _⟩ dX4_mayHaveBase_55 (fun v11 H locs hR hL gv11 hk => ?_)
  refine lv_istore (lv' := [(4, .int (tw_I v11)), (3, .int (tw_I v6)), (0, .ref this), (1, .int (tw_I a1)), (2, .int (tw_I a2))]) hC.1 hC.2.1 dX4_mayHaveBase_58 hl (by decide) rfl (fun ls hl => ?_)
  refine lv_aload_n hC.1 hC.2.1 dX4_mayHaveBase_60 rfl (lv_at hl 2 rfl) ?_
  refine tw_getR hC hR hk flX4_12 dX4_mayHaveBase_61 (fun r12 hk => ?_)
  refine lv_iload_n hC.1 hC.2.1 dX4_mayHaveBase_64 rfl (lv_at hl 3 rfl) ?_
  refine lv_iload_n hC.1 hC.2.1 dX4_mayHaveBase_65 rfl (lv_at hl 1 rfl) ?_
  refine kX7_putBase hC hR hL hk ga1 gv6 mlX4_61 ⟨by decide, by decide⟩ hl.1 (Nat.le_of_ble_eq_true rfl) ⟨Nat.zero_le _, Nat.zero_le _⟩ dX4_mayHaveBase_66 (fun h13 H locs hR hL hk => ?_)
  refine lv_iload hC.1 hC.2.1 dX4_mayHaveBase_69 (lv_at hl 0 rfl) ?_
  refine tw_zne (tgt := 78) hC hk gv11 dX4_mayHaveBase_71 (by decide) (fun _ hk => ?_) (fun _ hk => ?_)
  · refine lv_iconst (v := tw_I 1) hC.1 hC.2.1 dX4_mayHaveBase_74 rfl ?_
    refine lv_goto (tgt := 79) hC.1 hC.2.1 dX4_mayHaveBase_75 (by decide) ?_
    cases hk
    exact tw_zret hC hR hL rfl rfl dX4_mayHaveBase_79
  · refine lv_iconst (v := tw_I 0) hC.1 hC.2.1 dX4_mayHaveBase_78 rfl ?_
    cases hk
    exact tw_zret hC hR hL rfl rfl dX4_mayHaveBase_79
set_option maxRecDepth 100000 in
set_option maxHeartbeats 4000000 in
theorem cX4_mayHaveBase_ok (l : Launch) (G : tw_G) (sz : Nat) (this : Nat) (a1 : Int) (a2 : Int) (ga1 : tm_rg a1) (ga2 : tm_rg a2) (h : tm_H) (out : Int × tm_H) (hk : fX4_mayHaveBase this a1 a2 h = some out) : Met l yX4_mayHaveBase (tw_WS yX4_mayHaveBase cX4_mayHaveBase 5 (some .boolean)) rmX4_mayHaveBase (va_Pc [.ref this, .int (tw_I a1), .int (tw_I a2)] (tw_Pre G sz h)) (tw_Qi G sz out.1 out.2) 0 0 (tw_F G) := by
  refine tw_met (by decide +kernel) (Nat.le_of_ble_eq_true rfl) ?_
  intro p e s m args below meth c H ls hC hnm hR hl
  unfold fX4_mayHaveBase at hk
  obtain ⟨hob, hk⟩ := tm_th_is hk
  have hl : lv_has ls 5 [(0, .ref this), (1, .int (tw_I a1)), (2, .int (tw_I a2))] := hl
  have hL : tw_L G [] := fun q z => by cases z
  generalize hlc : ([] : List Loc) = locs at hL ⊢
  refine lv_iload_n hC.1 hC.2.1 dX4_mayHaveBase_0 rfl (lv_at hl 2 rfl) ?_
  refine lv_iload_n hC.1 hC.2.1 dX4_mayHaveBase_1 rfl (lv_at hl 1 rfl) ?_
  refine tw_ceq (tgt := 29) hC hk ga2 ga1 dX4_mayHaveBase_2 (by decide) (fun _ hk => ?_) (fun _ hk => ?_)
  · exact sX4_mayHaveBase_L29 G sz hC this a1 a2 ga1 ga2 h out hk H locs _ hR hL (lv_sub hl [0, 1, 2] rfl)
  · refine lv_aload_n hC.1 hC.2.1 dX4_mayHaveBase_5 rfl (lv_at hl 0 rfl) ?_
    refine tw_getR hC hR hk flX4_12 dX4_mayHaveBase_6 (fun r1 hk => ?_)
    refine lv_iload_n hC.1 hC.2.1 dX4_mayHaveBase_9 rfl (lv_at hl 2 rfl) ?_
    refine kX7_isForm hC hR hL hk ga2 mlX4_51 ⟨by decide, by decide⟩ hl.1 (Nat.le_of_ble_eq_true rfl) ⟨Nat.zero_le _, Nat.zero_le _⟩ dX4_mayHaveBase_10 (fun v2 H locs hR hL gv2 hk => ?_)
    refine tw_zne (tgt := 27) hC hk gv2 dX4_mayHaveBase_13 (by decide) (fun _ hk => ?_) (fun _ hk => ?_)
    · refine lv_aload_n hC.1 hC.2.1 dX4_mayHaveBase_16 rfl (lv_at hl 0 rfl) ?_
      refine tw_getR hC hR hk flX4_12 dX4_mayHaveBase_17 (fun r3 hk => ?_)
      refine lv_iload_n hC.1 hC.2.1 dX4_mayHaveBase_20 rfl (lv_at hl 1 rfl) ?_
      refine kX7_hasForms hC hR hL hk ga1 mlX4_54 ⟨by decide, by decide⟩ hl.1 (Nat.le_of_ble_eq_true rfl) ⟨Nat.zero_le _, Nat.zero_le _⟩ dX4_mayHaveBase_21 (fun v4 H locs hR hL gv4 hk => ?_)
      refine tw_zeq (tgt := 29) hC hk gv4 dX4_mayHaveBase_24 (by decide) (fun _ hk => ?_) (fun _ hk => ?_)
      · exact sX4_mayHaveBase_L29 G sz hC this a1 a2 ga1 ga2 h out hk H locs _ hR hL (lv_sub hl [0, 1, 2] rfl)
      · refine lv_iconst (v := tw_I 0) hC.1 hC.2.1 dX4_mayHaveBase_27 rfl ?_
        cases hk
        exact tw_zret hC hR hL rfl rfl dX4_mayHaveBase_28
    · refine lv_iconst (v := tw_I 0) hC.1 hC.2.1 dX4_mayHaveBase_27 rfl ?_
      cases hk
      exact tw_zret hC hR hL rfl rfl dX4_mayHaveBase_28
set_option maxRecDepth 100000 in
theorem kX4_mayHaveBase {l : Launch} {p : Program} {e : Env} {R : Room} {s : State} {m : MethodId} {args : Array Value} {below : List Frame} {meth : Method} {c : Code} {H : Heap} {locs : List Loc} {cells slots : Nat} {Q : State → Prop} {cc : ByteArray} {pc nL idx : Nat} {ls : Array Slot} {rest : List Value} {G : tw_G} {h : tm_H} {own : String} {ret : Option FieldType} {α : Type} {x : α} {sz : Nat} {this : Nat} {a1 : Int} {a2 : Int} (hC : tw_C G p s m args meth c own cc nL ret) (hR : tw_Rel G sz h H) (hL : tw_L G locs) {F : Int × tm_H → Option α} (hk : (fX4_mayHaveBase this a1 a2 h).bind F = some x) (ga1 : tm_rg a1) (ga2 : tm_rg a2) (hl : tw_mL own idx yX4_mayHaveBase) (hRm : rmX4_mayHaveBase.frames + 1 ≤ R.frames ∧ 8 + (5 + 11) + rmX4_mayHaveBase.locals ≤ R.locals) (hsz : ls.size = nL) (hW : (rest.map fun v => v.category).sum ≤ 8) (hf : cells + 0 ≤ R.cells ∧ slots + 0 ≤ R.slots) (hdg : decode cc pc = .ok (.invokevirtual idx, 3)) (kk : ∀ (r : Int) (h1 : tm_H) (H1 : Heap) (locs1 : List Loc), tw_Rel G sz h1 H1 → tw_L G locs1 → tm_rg r → F (r, h1) = some x → W p l e R s m args below meth c H1 locs1 (cells + 0) (slots + 0) Q (F0 m (pc + 3) ls (.int (tw_I r) :: rest))) : W p l e R s m args below meth c H locs cells slots Q (F0 m pc ls (.int (tw_I a2) :: .int (tw_I a1) :: .ref this :: rest)) := by
  obtain ⟨r, hr, hF⟩ := Option.bind_eq_some_iff.mp hk
  have ob : ∀ r, fX4_mayHaveBase this a1 a2 h = some r → tm_is h 4 this := fun r hr => by
    unfold fX4_mayHaveBase at hr
    exact (tm_th_is hr).1
  exact tw_backi (tw_runV hC hR (cX4_mayHaveBase_ok l G sz this a1 a2 ga1 ga2 h r hr) (n := 2) (As := [.int (tw_I a1), .int (tw_I a2)]) ⟨tw_in_TB 466 (by decide +kernel) rfl, tw_in_TB 54 (by decide +kernel) rfl, by decide +kernel⟩ (tw_in_TB 464 (by decide +kernel) rfl) (tw_in_TB 465 (by decide +kernel) rfl) hl ⟨rfl, rfl⟩ hRm (ob r hr) (T := TX4) (N := 5) rfl rfl hsz rfl hW hdg hf) hL (fun H1 locs1 a b g => kk r.1 r.2 H1 locs1 a b g hF)
def rmX2_readForm : Room := { frames := 4, cells := 0, slots := 0, locals := 92 }
set_option maxRecDepth 100000 in
set_option maxHeartbeats 4000000 in
theorem cX2_readForm_ok (l : Launch) (G : tw_G) (sz : Nat) (this : Nat)  (h : tm_H) (out : Int × tm_H) (hk : fX2_readForm this h = some out) : Met l yX2_readForm (tw_WS yX2_readForm cX2_readForm 4 (some .boolean)) rmX2_readForm (va_Pc [.ref this] (tw_Pre G sz h)) (tw_Qi G sz out.1 out.2) 0 0 (tw_F G) := by
  refine tw_met (by decide +kernel) (Nat.le_of_ble_eq_true rfl) ?_
  intro p e s m args below meth c H ls hC hnm hR hl
  unfold fX2_readForm at hk
  obtain ⟨hob, hk⟩ := tm_th_is hk
  have hl : lv_has ls 4 [(0, .ref this)] := hl
  have hL : tw_L G [] := fun q z => by cases z
  generalize hlc : ([] : List Loc) = locs at hL ⊢
  refine lv_aload_n hC.1 hC.2.1 dX2_readForm_0 rfl (lv_at hl 0 rfl) ?_
  refine kX2_step hC hR hL hk mlX2_42 ⟨by decide, by decide⟩ hl.1 (Nat.le_of_ble_eq_true rfl) ⟨Nat.zero_le _, Nat.zero_le _⟩ dX2_readForm_1 (fun h1 H locs hR hL hk => ?_)
  refine lv_aload_n hC.1 hC.2.1 dX2_readForm_4 rfl (lv_at hl 0 rfl) ?_
  refine kX2_readWord hC hR hL hk mlX2_93 ⟨by decide, by decide⟩ hl.1 (Nat.le_of_ble_eq_true rfl) ⟨Nat.zero_le _, Nat.zero_le _⟩ dX2_readForm_5 (fun v2 h2 H locs hR hL gv2 hk => ?_)
  refine lv_istore_n (lv' := [(1, .int (tw_I v2)), (0, .ref this)]) hC.1 hC.2.1 dX2_readForm_8 rfl hl (by decide) rfl (fun ls hl => ?_)
  refine lv_iload_n hC.1 hC.2.1 dX2_readForm_9 rfl (lv_at hl 0 rfl) ?_
  refine lv_bipush (v := tw_I (-99)) hC.1 hC.2.1 dX2_readForm_10 (by decide) ?_
  refine tw_ceq (tgt := 24) hC hk gv2 ((tw_rgL rfl)) dX2_readForm_12 (by decide) (fun _ hk => ?_) (fun _ hk => ?_)
  · refine lv_iconst (v := tw_I 0) hC.1 hC.2.1 dX2_readForm_24 rfl ?_
    cases hk
    exact tw_zret hC hR hL rfl rfl dX2_readForm_25
  · refine lv_aload_n hC.1 hC.2.1 dX2_readForm_15 rfl (lv_at hl 1 rfl) ?_
    refine lv_bipush (v := tw_I 61) hC.1 hC.2.1 dX2_readForm_16 (by decide) ?_
    refine kX2_pass hC hR hL hk ((tw_rgL rfl)) mlX2_83 ⟨by decide, by decide⟩ hl.1 (Nat.le_of_ble_eq_true rfl) ⟨Nat.zero_le _, Nat.zero_le _⟩ dX2_readForm_18 (fun v3 h3 H locs hR hL gv3 hk => ?_)
    refine tw_zne (tgt := 26) hC hk gv3 dX2_readForm_21 (by decide) (fun _ hk => ?_) (fun _ hk => ?_)
    · refine lv_iconst (v := tw_I 0) hC.1 hC.2.1 dX2_readForm_24 rfl ?_
      cases hk
      exact tw_zret hC hR hL rfl rfl dX2_readForm_25
    · refine lv_aload_n hC.1 hC.2.1 dX2_readForm_26 rfl (lv_at hl 1 rfl) ?_
      refine kX2_readWord hC hR hL hk mlX2_93 ⟨by decide, by decide⟩ hl.1 (Nat.le_of_ble_eq_true rfl) ⟨Nat.zero_le _, Nat.zero_le _⟩ dX2_readForm_27 (fun v4 h4 H locs hR hL gv4 hk => ?_)
      refine lv_istore_n (lv' := [(2, .int (tw_I v4)), (1, .int (tw_I v2)), (0, .ref this)]) hC.1 hC.2.1 dX2_readForm_30 rfl hl (by decide) rfl (fun ls hl => ?_)
      refine lv_iload_n hC.1 hC.2.1 dX2_readForm_31 rfl (lv_at hl 0 rfl) ?_
      refine lv_bipush (v := tw_I (-99)) hC.1 hC.2.1 dX2_readForm_32 (by decide) ?_
      refine tw_ceq (tgt := 53) hC hk gv4 ((tw_rgL rfl)) dX2_readForm_34 (by decide) (fun _ hk => ?_) (fun _ hk => ?_)
      · refine lv_iconst (v := tw_I 0) hC.1 hC.2.1 dX2_readForm_53 rfl ?_
        cases hk
        exact tw_zret hC hR hL rfl rfl dX2_readForm_54
      · refine lv_aload_n hC.1 hC.2.1 dX2_readForm_37 rfl (lv_at hl 2 rfl) ?_
        refine tw_getR hC hR hk flX2_12 dX2_readForm_38 (fun r5 hk => ?_)
        refine lv_aload_n hC.1 hC.2.1 dX2_readForm_41 rfl (lv_at hl 2 rfl) ?_
        refine tw_getI hC hR hk flX2_31 dX2_readForm_42 (fun v6 gv6 hk => ?_)
        refine kX6_at hC hR hL hk gv6 mlX2_69 ⟨by decide, by decide⟩ hl.1 (Nat.le_of_ble_eq_true rfl) ⟨Nat.zero_le _, Nat.zero_le _⟩ dX2_readForm_45 (fun v7 H locs hR hL gv7 hk => ?_)
        refine lv_bipush (v := tw_I 59) hC.1 hC.2.1 dX2_readForm_48 (by decide) ?_
        refine tw_ceq (tgt := 55) hC hk gv7 ((tw_rgL rfl)) dX2_readForm_50 (by decide) (fun _ hk => ?_) (fun _ hk => ?_)
        · refine lv_aload_n hC.1 hC.2.1 dX2_readForm_55 rfl (lv_at hl 2 rfl) ?_
          refine tw_getR hC hR hk flX2_21 dX2_readForm_56 (fun r8 hk => ?_)
          refine tw_getR hC hR hk flX2_107 dX2_readForm_59 (fun r9 hk => ?_)
          refine lv_iload_n hC.1 hC.2.1 dX2_readForm_62 rfl (lv_at hl 0 rfl) ?_
          refine kX7_baseOf hC hR hL hk gv4 mlX2_119 ⟨by decide, by decide⟩ hl.1 (Nat.le_of_ble_eq_true rfl) ⟨Nat.zero_le _, Nat.zero_le _⟩ dX2_readForm_63 (fun v10 H locs hR hL gv10 hk => ?_)
          refine lv_istore_n (lv' := [(3, .int (tw_I v10)), (2, .int (tw_I v4)), (1, .int (tw_I v2)), (0, .ref this)]) hC.1 hC.2.1 dX2_readForm_66 rfl hl (by decide) rfl (fun ls hl => ?_)
          refine lv_aload_n hC.1 hC.2.1 dX2_readForm_67 rfl (lv_at hl 3 rfl) ?_
          refine tw_getR hC hR hk flX2_21 dX2_readForm_68 (fun r11 hk => ?_)
          refine lv_iload_n hC.1 hC.2.1 dX2_readForm_71 rfl (lv_at hl 2 rfl) ?_
          refine lv_iload_n hC.1 hC.2.1 dX2_readForm_72 rfl (lv_at hl 0 rfl) ?_
          refine kX4_mayHaveBase hC hR hL hk gv2 gv10 mlX2_124 ⟨by decide, by decide⟩ hl.1 (Nat.le_of_ble_eq_true rfl) ⟨Nat.zero_le _, Nat.zero_le _⟩ dX2_readForm_73 (fun v12 h12 H locs hR hL gv12 hk => ?_)
          refine tw_zne (tgt := 81) hC hk gv12 dX2_readForm_76 (by decide) (fun _ hk => ?_) (fun _ hk => ?_)
          · refine lv_iconst (v := tw_I 0) hC.1 hC.2.1 dX2_readForm_79 rfl ?_
            cases hk
            exact tw_zret hC hR hL rfl rfl dX2_readForm_80
          · refine lv_aload_n hC.1 hC.2.1 dX2_readForm_81 rfl (lv_at hl 3 rfl) ?_
            refine tw_getR hC hR hk flX2_21 dX2_readForm_82 (fun r13 hk => ?_)
            refine tw_getR hC hR hk flX2_107 dX2_readForm_85 (fun r14 hk => ?_)
            refine lv_iload_n hC.1 hC.2.1 dX2_readForm_88 rfl (lv_at hl 2 rfl) ?_
            refine lv_iload_n hC.1 hC.2.1 dX2_readForm_89 rfl (lv_at hl 0 rfl) ?_
            refine kX7_putBase hC hR hL hk gv2 gv10 mlX2_128 ⟨by decide, by decide⟩ hl.1 (Nat.le_of_ble_eq_true rfl) ⟨Nat.zero_le _, Nat.zero_le _⟩ dX2_readForm_90 (fun h15 H locs hR hL hk => ?_)
            refine lv_aload_n hC.1 hC.2.1 dX2_readForm_93 rfl (lv_at hl 3 rfl) ?_
            refine lv_bipush (v := tw_I 59) hC.1 hC.2.1 dX2_readForm_94 (by decide) ?_
            refine kX2_pass hC hR hL hk ((tw_rgL rfl)) mlX2_83 ⟨by decide, by decide⟩ hl.1 (Nat.le_of_ble_eq_true rfl) ⟨Nat.zero_le _, Nat.zero_le _⟩ dX2_readForm_96 (fun v16 h16 H locs hR hL gv16 hk => ?_)
            obtain ⟨z, hz, hk⟩ := Option.bind_eq_some_iff.mp hk
            cases hk
            exact tw_zret hC hR hL hz rfl dX2_readForm_99
        · refine lv_iconst (v := tw_I 0) hC.1 hC.2.1 dX2_readForm_53 rfl ?_
          cases hk
          exact tw_zret hC hR hL rfl rfl dX2_readForm_54
set_option maxRecDepth 100000 in
theorem kX2_readForm {l : Launch} {p : Program} {e : Env} {R : Room} {s : State} {m : MethodId} {args : Array Value} {below : List Frame} {meth : Method} {c : Code} {H : Heap} {locs : List Loc} {cells slots : Nat} {Q : State → Prop} {cc : ByteArray} {pc nL idx : Nat} {ls : Array Slot} {rest : List Value} {G : tw_G} {h : tm_H} {own : String} {ret : Option FieldType} {α : Type} {x : α} {sz : Nat} {this : Nat} (hC : tw_C G p s m args meth c own cc nL ret) (hR : tw_Rel G sz h H) (hL : tw_L G locs) {F : Int × tm_H → Option α} (hk : (fX2_readForm this h).bind F = some x)  (hl : tw_mL own idx yX2_readForm) (hRm : rmX2_readForm.frames + 1 ≤ R.frames ∧ 8 + (4 + 11) + rmX2_readForm.locals ≤ R.locals) (hsz : ls.size = nL) (hW : (rest.map fun v => v.category).sum ≤ 8) (hf : cells + 0 ≤ R.cells ∧ slots + 0 ≤ R.slots) (hdg : decode cc pc = .ok (.invokevirtual idx, 3)) (kk : ∀ (r : Int) (h1 : tm_H) (H1 : Heap) (locs1 : List Loc), tw_Rel G sz h1 H1 → tw_L G locs1 → tm_rg r → F (r, h1) = some x → W p l e R s m args below meth c H1 locs1 (cells + 0) (slots + 0) Q (F0 m (pc + 3) ls (.int (tw_I r) :: rest))) : W p l e R s m args below meth c H locs cells slots Q (F0 m pc ls (.ref this :: rest)) := by
  obtain ⟨r, hr, hF⟩ := Option.bind_eq_some_iff.mp hk
  have ob : ∀ r, fX2_readForm this h = some r → tm_is h 2 this := fun r hr => by
    unfold fX2_readForm at hr
    exact (tm_th_is hr).1
  exact tw_backi (tw_runV hC hR (cX2_readForm_ok l G sz this  h r hr) (n := 0) (As := []) ⟨tw_in_TB 665 (by decide +kernel) rfl, tw_in_TB 59 (by decide +kernel) rfl, by decide +kernel⟩ (tw_in_TB 664 (by decide +kernel) rfl) (tw_in_TB 14 (by decide +kernel) rfl) hl ⟨rfl, rfl⟩ hRm (ob r hr) (T := TX2) (N := 5) rfl rfl hsz rfl hW hdg hf) hL (fun H1 locs1 a b g => kk r.1 r.2 H1 locs1 a b g hF)
def rmX2_read : Room := { frames := 6, cells := 0, slots := 0, locals := 128 }
set_option maxRecDepth 100000 in
set_option maxHeartbeats 4000000 in
theorem sX2_read_L111 {l : Launch} {p : Program} {e : Env} {s : State} {m : MethodId} {args : Array Value} {below : List Frame} {meth : Method} {c : Code} (G : tw_G) (sz : Nat) (hC : tw_C G p s m args meth c RX2 cX2_read 4 (some .int)) (this : Nat) (a1 : Nat)   (h : tm_H)  (out : Int × tm_H) (hk : fX2_read_L111 this a1 h = some out) (H : Heap) (locs : List Loc) (ls : Array Slot) (hR : tw_Rel G sz h H) (hL : tw_L G locs) (hl : lv_has ls 4 [(0, .ref this), (1, .ref a1)]) : W p l e rmX2_read s m args below meth c H locs 0 0 (MQ below (tw_Qi G sz out.1 out.2) args s 0 0 (tw_F G)) (F0 m 111 ls []) := by
  unfold fX2_read_L111 at hk
  refine lv_sipush (v := tw_I (-1000)) hC.1 hC.2.1 dX2_read_111 (by decide) ?_
  refine lv_aload_n hC.1 hC.2.1 dX2_read_114 rfl (lv_at hl 0 rfl) ?_
  refine tw_getI hC hR hk flX2_31 dX2_read_115 (fun v14 gv14 hk => ?_)
  refine tw_isub hC dX2_read_118 ?_
  cases hk
  exact tw_iret hC hR hL ((tm_wr_rg _)) rfl rfl dX2_read_119
set_option maxRecDepth 100000 in
set_option maxHeartbeats 4000000 in
theorem sX2_read_S1 {l : Launch} {p : Program} {e : Env} {s : State} {m : MethodId} {args : Array Value} {below : List Frame} {meth : Method} {c : Code} (G : tw_G) (sz : Nat) (hC : tw_C G p s m args meth c RX2 cX2_read 4 (some .int)) (this : Nat) (a1 : Nat)  : ∀ (k : Nat) (st : (Int × tm_H) ⊕ (Int × tm_H) ⊕ (Int × Int × tm_H) ⊕ (Int × Int × tm_H)) (out : Int × tm_H), tm_wit (fX2_read_S1 this a1) k st = some out → match st with
    | .inl ((x2, h)) => ∀ (H : Heap) (locs : List Loc) (ls : Array Slot), tm_rg x2 → tw_Rel G sz h H → tw_L G locs → lv_has ls 4 [(0, .ref this), (1, .ref a1), (2, .int (tw_I x2))] → W p l e rmX2_read s m args below meth c H locs 0 0 (MQ below (tw_Qi G sz out.1 out.2) args s 0 0 (tw_F G)) (F0 m 19 ls [])
    | .inr (.inl ((x2, h))) => ∀ (H : Heap) (locs : List Loc) (ls : Array Slot), tm_rg x2 → tw_Rel G sz h H → tw_L G locs → lv_has ls 4 [(0, .ref this), (1, .ref a1), (2, .int (tw_I x2))] → W p l e rmX2_read s m args below meth c H locs 0 0 (MQ below (tw_Qi G sz out.1 out.2) args s 0 0 (tw_F G)) (F0 m 96 ls [])
    | .inr (.inr (.inl ((x2, s0, h)))) => ∀ (H : Heap) (locs : List Loc) (ls : Array Slot), tm_rg x2 → tm_rg s0 → tw_Rel G sz h H → tw_L G locs → lv_has ls 4 [(0, .ref this), (1, .ref a1), (2, .int (tw_I x2))] → W p l e rmX2_read s m args below meth c H locs 0 0 (MQ below (tw_Qi G sz out.1 out.2) args s 0 0 (tw_F G)) (F0 m 97 ls [.int (tw_I s0)])
    | .inr (.inr (.inr ((x2, x3, h)))) => ∀ (H : Heap) (locs : List Loc) (ls : Array Slot), tm_rg x2 → tm_rg x3 → tw_Rel G sz h H → tw_L G locs → lv_has ls 4 [(0, .ref this), (1, .ref a1), (2, .int (tw_I x2)), (3, .int (tw_I x3))] → W p l e rmX2_read s m args below meth c H locs 0 0 (MQ below (tw_Qi G sz out.1 out.2) args s 0 0 (tw_F G)) (F0 m 98 ls []) := by
  intro k
  induction k with
  | zero =>
    intro st out hk
    exact absurd hk (by unfold tm_wit; exact fun z => by cases z)
  | succ k ih =>
    intro st out hk
    obtain ⟨X, hk, hf⟩ := tm_wit_succ hk
    obtain ⟨x2, h⟩ | ⟨x2, h⟩ | ⟨x2, s0, h⟩ | ⟨x2, x3, h⟩ := st
    · intro H locs ls gx2 hR hL hl
      dsimp only [fX2_read_S1] at hk
      refine lv_iload_n hC.1 hC.2.1 dX2_read_19 rfl (lv_at hl 2 rfl) ?_
      refine lv_sipush (v := tw_I 140) hC.1 hC.2.1 dX2_read_20 (by decide) ?_
      refine tw_cgt (tgt := 111) hC hk gx2 ((tw_rgL rfl)) dX2_read_23 (by decide) (fun _ hk => ?_) (fun _ hk => ?_)
      · obtain ⟨r, hk2, hX⟩ := tm_out_some hk
        rw [hX] at hf
        have hr : r = out := Option.some.inj hf
        rw [hr] at hk2
        exact sX2_read_L111 G sz hC this a1 h out hk2 H locs _ hR hL (lv_sub hl [0, 1] rfl)
      · refine lv_aload_n hC.1 hC.2.1 dX2_read_26 rfl (lv_at hl 0 rfl) ?_
        refine tw_getI hC hR hk flX2_31 dX2_read_27 (fun v5 gv5 hk => ?_)
        refine lv_aload_n hC.1 hC.2.1 dX2_read_30 rfl (lv_at hl 0 rfl) ?_
        refine tw_getR hC hR hk flX2_12 dX2_read_31 (fun r6 hk => ?_)
        refine kX6_length hC hR hL hk mlX2_45 ⟨by decide, by decide⟩ hl.1 (Nat.le_of_ble_eq_true rfl) ⟨Nat.zero_le _, Nat.zero_le _⟩ dX2_read_34 (fun v7 H locs hR hL gv7 hk => ?_)
        refine tw_clt (tgt := 42) hC hk gv5 gv7 dX2_read_37 (by decide) (fun _ hk => ?_) (fun _ hk => ?_)
        · refine lv_aload_n hC.1 hC.2.1 dX2_read_42 rfl (lv_at hl 0 rfl) ?_
          refine va_ldcS hC.1 hC.2.1 hC.2.2.2.1 (tw_sR0 hC) dX2_read_43 ?_
          refine kX2_isWord hC hR hL hk mlX2_51 ⟨by decide, by decide⟩ hl.1 (Nat.le_of_ble_eq_true rfl) ⟨Nat.zero_le _, Nat.zero_le _⟩ dX2_read_45 (fun v8 H locs hR hL gv8 hk => ?_)
          refine tw_zeq (tgt := 59) hC hk gv8 dX2_read_48 (by decide) (fun _ hk => ?_) (fun _ hk => ?_)
          · refine lv_aload_n hC.1 hC.2.1 dX2_read_59 rfl (lv_at hl 0 rfl) ?_
            refine va_ldcS hC.1 hC.2.1 hC.2.2.2.1 (tw_sR1 hC) dX2_read_60 ?_
            refine kX2_isWord hC hR hL hk mlX2_51 ⟨by decide, by decide⟩ hl.1 (Nat.le_of_ble_eq_true rfl) ⟨Nat.zero_le _, Nat.zero_le _⟩ dX2_read_62 (fun v9 H locs hR hL gv9 hk => ?_)
            refine tw_zeq (tgt := 76) hC hk gv9 dX2_read_65 (by decide) (fun _ hk => ?_) (fun _ hk => ?_)
            · refine lv_aload_n hC.1 hC.2.1 dX2_read_76 rfl (lv_at hl 0 rfl) ?_
              refine va_ldcS hC.1 hC.2.1 hC.2.2.2.1 (tw_sR2 hC) dX2_read_77 ?_
              refine kX2_isWord hC hR hL hk mlX2_51 ⟨by decide, by decide⟩ hl.1 (Nat.le_of_ble_eq_true rfl) ⟨Nat.zero_le _, Nat.zero_le _⟩ dX2_read_79 (fun v10 H locs hR hL gv10 hk => ?_)
              refine tw_zeq (tgt := 96) hC hk gv10 dX2_read_82 (by decide) (fun _ hk => ?_) (fun _ hk => ?_)
              · cases hk
                exact ih _ out hf H locs _ gx2 hR hL (lv_sub hl [0, 1, 2] rfl)
              · refine lv_aload_n hC.1 hC.2.1 dX2_read_85 rfl (lv_at hl 0 rfl) ?_
                refine kX2_readForm hC hR hL hk mlX2_66 ⟨by decide, by decide⟩ hl.1 (Nat.le_of_ble_eq_true rfl) ⟨Nat.zero_le _, Nat.zero_le _⟩ dX2_read_86 (fun v11 h11 H locs hR hL gv11 hk => ?_)
                refine tw_zeq (tgt := 96) hC hk gv11 dX2_read_89 (by decide) (fun _ hk => ?_) (fun _ hk => ?_)
                · cases hk
                  exact ih _ out hf H locs _ gx2 hR hL (lv_sub hl [0, 1, 2] rfl)
                · refine lv_iconst (v := tw_I 1) hC.1 hC.2.1 dX2_read_92 rfl ?_
                  refine lv_goto (tgt := 97) hC.1 hC.2.1 dX2_read_93 (by decide) ?_
                  cases hk
                  exact ih _ out hf H locs _ gx2 ((tw_rgL rfl)) hR hL (lv_sub hl [0, 1, 2] rfl)
            · refine lv_aload_n hC.1 hC.2.1 dX2_read_68 rfl (lv_at hl 0 rfl) ?_
              refine kX2_readTerm hC hR hL hk mlX2_61 ⟨by decide, by decide⟩ hl.1 (Nat.le_of_ble_eq_true rfl) ⟨Nat.zero_le _, Nat.zero_le _⟩ dX2_read_69 (fun v12 h12 H locs hR hL gv12 hk => ?_)
              refine lv_istore_n (lv' := [(3, .int (tw_I v12)), (0, .ref this), (1, .ref a1), (2, .int (tw_I x2))]) hC.1 hC.2.1 dX2_read_72 rfl hl (by decide) rfl (fun ls hl => ?_)
              refine lv_goto (tgt := 98) hC.1 hC.2.1 dX2_read_73 (by decide) ?_
              cases hk
              exact ih _ out hf H locs _ gx2 gv12 hR hL (lv_sub hl [1, 2, 3, 0] rfl)
          · refine lv_aload_n hC.1 hC.2.1 dX2_read_51 rfl (lv_at hl 0 rfl) ?_
            refine kX2_readChapter hC hR hL hk mlX2_55 ⟨by decide, by decide⟩ hl.1 (Nat.le_of_ble_eq_true rfl) ⟨Nat.zero_le _, Nat.zero_le _⟩ dX2_read_52 (fun v13 h13 H locs hR hL gv13 hk => ?_)
            refine lv_istore_n (lv' := [(3, .int (tw_I v13)), (0, .ref this), (1, .ref a1), (2, .int (tw_I x2))]) hC.1 hC.2.1 dX2_read_55 rfl hl (by decide) rfl (fun ls hl => ?_)
            refine lv_goto (tgt := 98) hC.1 hC.2.1 dX2_read_56 (by decide) ?_
            cases hk
            exact ih _ out hf H locs _ gx2 gv13 hR hL (lv_sub hl [1, 2, 3, 0] rfl)
        · refine lv_iload_n hC.1 hC.2.1 dX2_read_40 rfl (lv_at hl 2 rfl) ?_
          cases hk
          cases hf
          exact tw_iret hC hR hL gx2 rfl rfl dX2_read_41
    · intro H locs ls gx2 hR hL hl
      dsimp only [fX2_read_S1] at hk
      refine lv_iconst (v := tw_I 0) hC.1 hC.2.1 dX2_read_96 rfl ?_
      cases hk
      exact ih _ out hf H locs _ gx2 ((tw_rgL rfl)) hR hL (lv_sub hl [0, 1, 2] rfl)
    · intro H locs ls gx2 gs0 hR hL hl
      dsimp only [fX2_read_S1] at hk
      refine lv_istore_n (lv' := [(3, .int (tw_I s0)), (0, .ref this), (1, .ref a1), (2, .int (tw_I x2))]) hC.1 hC.2.1 dX2_read_97 rfl hl (by decide) rfl (fun ls hl => ?_)
      cases hk
      exact ih _ out hf H locs _ gx2 gs0 hR hL (lv_sub hl [1, 2, 3, 0] rfl)
    · intro H locs ls gx2 gx3 hR hL hl
      dsimp only [fX2_read_S1] at hk
      refine lv_iload_n hC.1 hC.2.1 dX2_read_98 rfl (lv_at hl 3 rfl) ?_
      refine tw_zne (tgt := 105) hC hk gx3 dX2_read_99 (by decide) (fun _ hk => ?_) (fun _ hk => ?_)
      · refine lv_goto (tgt := 111) hC.1 hC.2.1 dX2_read_102 (by decide) ?_
        obtain ⟨r, hk2, hX⟩ := tm_out_some hk
        rw [hX] at hf
        have hr : r = out := Option.some.inj hf
        rw [hr] at hk2
        exact sX2_read_L111 G sz hC this a1 h out hk2 H locs _ hR hL (lv_sub hl [0, 1] rfl)
      · refine tw_iinc (lv' := [(2, .int (tw_I (tm_wr (x2 + 1)))), (0, .ref this), (1, .ref a1), (3, .int (tw_I x3))]) hC dX2_read_105 hl (k := 2) rfl (by decide) rfl (fun ls hl => ?_)
        refine lv_goto (tgt := 19) hC.1 hC.2.1 dX2_read_108 (by decide) ?_
        cases hk
        exact ih _ out hf H locs _ ((tm_wr_rg _)) hR hL (lv_sub hl [1, 2, 0] rfl)
theorem sX2_read_L19 {l : Launch} {p : Program} {e : Env} {s : State} {m : MethodId} {args : Array Value} {below : List Frame} {meth : Method} {c : Code} (G : tw_G) (sz : Nat) (hC : tw_C G p s m args meth c RX2 cX2_read 4 (some .int)) (this : Nat) (a1 : Nat)  (x2 : Int) (h : tm_H) (gx2 : tm_rg x2) (out : Int × tm_H) (hk : fX2_read_L19 this a1 x2 h = some out) (H : Heap) (locs : List Loc) (ls : Array Slot) (hR : tw_Rel G sz h H) (hL : tw_L G locs) (hl : lv_has ls 4 [(0, .ref this), (1, .ref a1), (2, .int (tw_I x2))]) : W p l e rmX2_read s m args below meth c H locs 0 0 (MQ below (tw_Qi G sz out.1 out.2) args s 0 0 (tw_F G)) (F0 m 19 ls []) := by
  obtain ⟨k, hk⟩ := tm_wl_iff.mp hk
  exact sX2_read_S1 G sz hC this a1  k (.inl ((x2, h))) out hk H locs ls gx2 hR hL hl
theorem sX2_read_L96 {l : Launch} {p : Program} {e : Env} {s : State} {m : MethodId} {args : Array Value} {below : List Frame} {meth : Method} {c : Code} (G : tw_G) (sz : Nat) (hC : tw_C G p s m args meth c RX2 cX2_read 4 (some .int)) (this : Nat) (a1 : Nat)  (x2 : Int) (h : tm_H) (gx2 : tm_rg x2) (out : Int × tm_H) (hk : fX2_read_L96 this a1 x2 h = some out) (H : Heap) (locs : List Loc) (ls : Array Slot) (hR : tw_Rel G sz h H) (hL : tw_L G locs) (hl : lv_has ls 4 [(0, .ref this), (1, .ref a1), (2, .int (tw_I x2))]) : W p l e rmX2_read s m args below meth c H locs 0 0 (MQ below (tw_Qi G sz out.1 out.2) args s 0 0 (tw_F G)) (F0 m 96 ls []) := by
  obtain ⟨k, hk⟩ := tm_wl_iff.mp hk
  exact sX2_read_S1 G sz hC this a1  k (.inr (.inl ((x2, h)))) out hk H locs ls gx2 hR hL hl
theorem sX2_read_L97 {l : Launch} {p : Program} {e : Env} {s : State} {m : MethodId} {args : Array Value} {below : List Frame} {meth : Method} {c : Code} (G : tw_G) (sz : Nat) (hC : tw_C G p s m args meth c RX2 cX2_read 4 (some .int)) (this : Nat) (a1 : Nat)  (x2 : Int) (s0 : Int) (h : tm_H) (gx2 : tm_rg x2) (gs0 : tm_rg s0) (out : Int × tm_H) (hk : fX2_read_L97 this a1 x2 s0 h = some out) (H : Heap) (locs : List Loc) (ls : Array Slot) (hR : tw_Rel G sz h H) (hL : tw_L G locs) (hl : lv_has ls 4 [(0, .ref this), (1, .ref a1), (2, .int (tw_I x2))]) : W p l e rmX2_read s m args below meth c H locs 0 0 (MQ below (tw_Qi G sz out.1 out.2) args s 0 0 (tw_F G)) (F0 m 97 ls [.int (tw_I s0)]) := by
  obtain ⟨k, hk⟩ := tm_wl_iff.mp hk
  exact sX2_read_S1 G sz hC this a1  k (.inr (.inr (.inl ((x2, s0, h))))) out hk H locs ls gx2 gs0 hR hL hl
theorem sX2_read_L98 {l : Launch} {p : Program} {e : Env} {s : State} {m : MethodId} {args : Array Value} {below : List Frame} {meth : Method} {c : Code} (G : tw_G) (sz : Nat) (hC : tw_C G p s m args meth c RX2 cX2_read 4 (some .int)) (this : Nat) (a1 : Nat)  (x2 : Int) (x3 : Int) (h : tm_H) (gx2 : tm_rg x2) (gx3 : tm_rg x3) (out : Int × tm_H) (hk : fX2_read_L98 this a1 x2 x3 h = some out) (H : Heap) (locs : List Loc) (ls : Array Slot) (hR : tw_Rel G sz h H) (hL : tw_L G locs) (hl : lv_has ls 4 [(0, .ref this), (1, .ref a1), (2, .int (tw_I x2)), (3, .int (tw_I x3))]) : W p l e rmX2_read s m args below meth c H locs 0 0 (MQ below (tw_Qi G sz out.1 out.2) args s 0 0 (tw_F G)) (F0 m 98 ls []) := by
  obtain ⟨k, hk⟩ := tm_wl_iff.mp hk
  exact sX2_read_S1 G sz hC this a1  k (.inr (.inr (.inr ((x2, x3, h))))) out hk H locs ls gx2 gx3 hR hL hl
set_option maxRecDepth 100000 in
set_option maxHeartbeats 4000000 in
theorem cX2_read_ok (l : Launch) (G : tw_G) (sz : Nat) (this : Nat) (a1 : Nat)  (h : tm_H) (out : Int × tm_H) (hk : fX2_read this a1 h = some out) : Met l yX2_read (tw_WS yX2_read cX2_read 4 (some .int)) rmX2_read (va_Pc [.ref this, .ref a1] (tw_Pre G sz h)) (tw_Qi G sz out.1 out.2) 0 0 (tw_F G) := by
  refine tw_met (by decide +kernel) (Nat.le_of_ble_eq_true rfl) ?_
  intro p e s m args below meth c H ls hC hnm hR hl
  unfold fX2_read at hk
  obtain ⟨hob, hk⟩ := tm_th_is hk
  have hl : lv_has ls 4 [(0, .ref this), (1, .ref a1)] := hl
  have hL : tw_L G [] := fun q z => by cases z
  generalize hlc : ([] : List Loc) = locs at hL ⊢
  refine lv_aload_n hC.1 hC.2.1 dX2_read_0 rfl (lv_at hl 0 rfl) ?_
  refine tw_getR hC hR hk flX2_21 dX2_read_1 (fun r1 hk => ?_)
  refine lv_aload_n hC.1 hC.2.1 dX2_read_4 rfl (lv_at hl 1 rfl) ?_
  refine kX4_copyFrom hC hR hL hk mlX2_38 ⟨by decide, by decide⟩ hl.1 (Nat.le_of_ble_eq_true rfl) ⟨Nat.zero_le _, Nat.zero_le _⟩ dX2_read_5 (fun h2 H locs hR hL hk => ?_)
  refine lv_aload_n hC.1 hC.2.1 dX2_read_8 rfl (lv_at hl 0 rfl) ?_
  refine lv_iconst (v := tw_I 0) hC.1 hC.2.1 dX2_read_9 rfl ?_
  refine tw_putI hC hR hL ((tw_rgL rfl)) hk fpX2_35 dX2_read_10 (fun h3 H locs hR hL hk => ?_)
  refine lv_aload_n hC.1 hC.2.1 dX2_read_13 rfl (lv_at hl 0 rfl) ?_
  refine kX2_step hC hR hL hk mlX2_42 ⟨by decide, by decide⟩ hl.1 (Nat.le_of_ble_eq_true rfl) ⟨Nat.zero_le _, Nat.zero_le _⟩ dX2_read_14 (fun h4 H locs hR hL hk => ?_)
  refine lv_iconst (v := tw_I 0) hC.1 hC.2.1 dX2_read_17 rfl ?_
  refine lv_istore_n (lv' := [(2, .int (tw_I 0)), (0, .ref this), (1, .ref a1)]) hC.1 hC.2.1 dX2_read_18 rfl hl (by decide) rfl (fun ls hl => ?_)
  exact sX2_read_L19 G sz hC this a1 0 h4 ((tw_rgL rfl)) out hk H locs _ hR hL (lv_sub hl [1, 2, 0] rfl)
set_option maxRecDepth 100000 in
theorem kX2_read {l : Launch} {p : Program} {e : Env} {R : Room} {s : State} {m : MethodId} {args : Array Value} {below : List Frame} {meth : Method} {c : Code} {H : Heap} {locs : List Loc} {cells slots : Nat} {Q : State → Prop} {cc : ByteArray} {pc nL idx : Nat} {ls : Array Slot} {rest : List Value} {G : tw_G} {h : tm_H} {own : String} {ret : Option FieldType} {α : Type} {x : α} {sz : Nat} {this : Nat} {a1 : Nat} (hC : tw_C G p s m args meth c own cc nL ret) (hR : tw_Rel G sz h H) (hL : tw_L G locs) {F : Int × tm_H → Option α} (hk : (fX2_read this a1 h).bind F = some x)  (hl : tw_mL own idx yX2_read) (hRm : rmX2_read.frames + 1 ≤ R.frames ∧ 8 + (4 + 11) + rmX2_read.locals ≤ R.locals) (hsz : ls.size = nL) (hW : (rest.map fun v => v.category).sum ≤ 8) (hf : cells + 0 ≤ R.cells ∧ slots + 0 ≤ R.slots) (hdg : decode cc pc = .ok (.invokevirtual idx, 3)) (kk : ∀ (r : Int) (h1 : tm_H) (H1 : Heap) (locs1 : List Loc), tw_Rel G sz h1 H1 → tw_L G locs1 → tm_rg r → F (r, h1) = some x → W p l e R s m args below meth c H1 locs1 (cells + 0) (slots + 0) Q (F0 m (pc + 3) ls (.int (tw_I r) :: rest))) : W p l e R s m args below meth c H locs cells slots Q (F0 m pc ls (.ref a1 :: .ref this :: rest)) := by
  obtain ⟨r, hr, hF⟩ := Option.bind_eq_some_iff.mp hk
  have ob : ∀ r, fX2_read this a1 h = some r → tm_is h 2 this := fun r hr => by
    unfold fX2_read at hr
    exact (tm_th_is hr).1
  exact tw_backi (tw_runV hC hR (cX2_read_ok l G sz this a1  h r hr) (n := 1) (As := [.ref a1]) ⟨tw_in_TB 556 (by decide +kernel) rfl, tw_in_TB 59 (by decide +kernel) rfl, by decide +kernel⟩ (tw_in_TB 554 (by decide +kernel) rfl) (tw_in_TB 555 (by decide +kernel) rfl) hl ⟨rfl, rfl⟩ hRm (ob r hr) (T := TX2) (N := 5) rfl rfl hsz rfl hW hdg hf) hL (fun H1 locs1 a b g => kk r.1 r.2 H1 locs1 a b g hF)
def rmX3_init : Room := { frames := 1, cells := 32, slots := 830, locals := 20 }
set_option maxRecDepth 100000 in
set_option maxHeartbeats 4000000 in
theorem cX3_init_ok (l : Launch) (G : tw_G) (n : Nat) (this : Nat)  (h : tm_H) (out : tm_H × Nat) (hk : fX3_init this h n = some out) : Met l yX3_init (tw_WS yX3_init cX3_init 1 none) rmX3_init (va_Pc [.ref this] (tw_Pre G n h)) (tw_Qv G out.2 out.1) 32 830 (tw_F G) := by
  refine tw_met (by decide +kernel) (Nat.le_of_ble_eq_true rfl) ?_
  intro p e s m args below meth c H ls hC hnm hR hl
  unfold fX3_init at hk
  obtain ⟨hob, hk⟩ := tm_th_is hk
  have hl : lv_has ls 1 [(0, .ref this)] := hl
  have hL : tw_L G [] := fun q z => by cases z
  generalize hlc : ([] : List Loc) = locs at hL ⊢
  refine lv_aload_n hC.1 hC.2.1 dX3_init_0 rfl (lv_at hl 0 rfl) ?_
  refine tw_objInit hC (tw_in_TB 225 (by decide +kernel) rfl) tw_oiI tw_oiC hl.1 dX3_init_1 (by decide) (Nat.le_of_ble_eq_true rfl) ?_
  refine lv_aload_n hC.1 hC.2.1 dX3_init_4 rfl (lv_at hl 0 rfl) ?_
  refine lv_bipush (v := tw_I 6) hC.1 hC.2.1 dX3_init_5 (by decide) ?_
  refine lv_bipush (v := tw_I 40) hC.1 hC.2.1 dX3_init_7 (by decide) ?_
  refine tw_nm hC hR mnX3_13 tw_ari 6 40 (by decide) (by decide) hk ⟨by decide, by decide⟩ dX3_init_9 (fun h1 H hR hk => ?_)
  refine tw_putR hC hR hL hnm rfl rfl hk fpX3_15 dX3_init_13 (fun h2 H locs hR hL hk => ?_)
  refine lv_aload_n hC.1 hC.2.1 dX3_init_16 rfl (lv_at hl 0 rfl) ?_
  refine lv_bipush (v := tw_I 6) hC.1 hC.2.1 dX3_init_17 (by decide) ?_
  refine lv_bipush (v := tw_I 40) hC.1 hC.2.1 dX3_init_19 (by decide) ?_
  refine tw_nm hC hR mnX3_13 tw_ari 6 40 (by decide) (by decide) hk ⟨by decide, by decide⟩ dX3_init_21 (fun h3 H hR hk => ?_)
  refine tw_putR hC hR hL hnm rfl rfl hk fpX3_20 dX3_init_25 (fun h4 H locs hR hL hk => ?_)
  refine lv_aload_n hC.1 hC.2.1 dX3_init_28 rfl (lv_at hl 0 rfl) ?_
  refine lv_bipush (v := tw_I 13) hC.1 hC.2.1 dX3_init_29 (by decide) ?_
  refine lv_bipush (v := tw_I 6) hC.1 hC.2.1 dX3_init_31 (by decide) ?_
  refine tw_nm hC hR mnX3_13 tw_ari 13 6 (by decide) (by decide) hk ⟨by decide, by decide⟩ dX3_init_33 (fun h5 H hR hk => ?_)
  refine tw_putR hC hR hL hnm rfl rfl hk fpX3_23 dX3_init_37 (fun h6 H locs hR hL hk => ?_)
  refine lv_aload_n hC.1 hC.2.1 dX3_init_40 rfl (lv_at hl 0 rfl) ?_
  refine lv_bipush (v := tw_I 13) hC.1 hC.2.1 dX3_init_41 (by decide) ?_
  refine tw_nai hC hR tw_ari 13 (by decide) hk ⟨by decide, by decide⟩ dX3_init_43 (fun h7 H hR hk => ?_)
  refine tw_putR hC hR hL hnm rfl rfl hk fpX3_26 dX3_init_45 (fun h8 H locs hR hL hk => ?_)
  refine lv_aload_n hC.1 hC.2.1 dX3_init_48 rfl (lv_at hl 0 rfl) ?_
  refine lv_bipush (v := tw_I 78) hC.1 hC.2.1 dX3_init_49 (by decide) ?_
  refine tw_nai hC hR tw_ari 78 (by decide) hk ⟨by decide, by decide⟩ dX3_init_51 (fun h9 H hR hk => ?_)
  refine tw_putR hC hR hL hnm rfl rfl hk fpX3_30 dX3_init_53 (fun h10 H locs hR hL hk => ?_)
  refine lv_aload_n hC.1 hC.2.1 dX3_init_56 rfl (lv_at hl 0 rfl) ?_
  refine lv_bipush (v := tw_I 78) hC.1 hC.2.1 dX3_init_57 (by decide) ?_
  refine tw_nai hC hR tw_ari 78 (by decide) hk ⟨by decide, by decide⟩ dX3_init_59 (fun h11 H hR hk => ?_)
  refine tw_putR hC hR hL hnm rfl rfl hk fpX3_33 dX3_init_61 (fun h12 H locs hR hL hk => ?_)
  refine lv_aload_n hC.1 hC.2.1 dX3_init_64 rfl (lv_at hl 0 rfl) ?_
  refine lv_bipush (v := tw_I 78) hC.1 hC.2.1 dX3_init_65 (by decide) ?_
  refine tw_nai hC hR tw_ari 78 (by decide) hk ⟨by decide, by decide⟩ dX3_init_67 (fun h13 H hR hk => ?_)
  refine tw_putR hC hR hL hnm rfl rfl hk fpX3_36 dX3_init_69 (fun h14 H locs hR hL hk => ?_)
  refine lv_aload_n hC.1 hC.2.1 dX3_init_72 rfl (lv_at hl 0 rfl) ?_
  refine lv_iconst (v := tw_I 0) hC.1 hC.2.1 dX3_init_73 rfl ?_
  refine tw_putI hC hR hL ((tw_rgL rfl)) hk fpX3_39 dX3_init_74 (fun h15 H locs hR hL hk => ?_)
  refine lv_aload_n hC.1 hC.2.1 dX3_init_77 rfl (lv_at hl 0 rfl) ?_
  refine lv_iconst (v := tw_I 0) hC.1 hC.2.1 dX3_init_78 rfl ?_
  refine tw_putI hC hR hL ((tw_rgL rfl)) hk fpX3_43 dX3_init_79 (fun h16 H locs hR hL hk => ?_)
  cases hk
  exact tw_vret hC hR hL rfl dX3_init_82
set_option maxRecDepth 100000 in
theorem kX3_init {l : Launch} {p : Program} {e : Env} {R : Room} {s : State} {m : MethodId} {args : Array Value} {below : List Frame} {meth : Method} {c : Code} {H : Heap} {locs : List Loc} {cells slots : Nat} {Q : State → Prop} {cc : ByteArray} {pc nL idx : Nat} {ls : Array Slot} {rest : List Value} {G : tw_G} {h : tm_H} {own : String} {ret : Option FieldType} {α : Type} {x : α} {n : Nat} {this : Nat} (hC : tw_C G p s m args meth c own cc nL ret) (hR : tw_Rel G n h H) (hL : tw_L G locs) {F : tm_H × Nat → Option α} (hk : (fX3_init this h n).bind F = some x)  (hl : tw_mL own idx yX3_init) (hRm : rmX3_init.frames + 1 ≤ R.frames ∧ 8 + (1 + 11) + rmX3_init.locals ≤ R.locals) (hsz : ls.size = nL) (hW : (rest.map fun v => v.category).sum ≤ 8) (hf : cells + 32 ≤ R.cells ∧ slots + 830 ≤ R.slots) (hdg : decode cc pc = .ok (.invokespecial idx, 3)) (kk : ∀ (h1 : tm_H) (n1 : Nat) (H1 : Heap) (locs1 : List Loc), tw_Rel G n1 h1 H1 → tw_L G locs1 → F (h1, n1) = some x → W p l e R s m args below meth c H1 locs1 (cells + 32) (slots + 830) Q (F0 m (pc + 3) ls (rest))) : W p l e R s m args below meth c H locs cells slots Q (F0 m pc ls (.ref this :: rest)) := by
  obtain ⟨r, hr, hF⟩ := Option.bind_eq_some_iff.mp hk
  exact tw_backv (tw_runI hC hR (cX3_init_ok l G n this  h r hr) (n := 0) (As := []) ⟨tw_in_TB 224 (by decide +kernel) rfl, tw_in_TB 61 (by decide +kernel) rfl, by decide +kernel⟩ (tw_in_TB 223 (by decide +kernel) rfl) rfl hl ⟨rfl, rfl⟩ hRm rfl hsz rfl hW hdg hf) hL (fun H1 locs1 a b => kk r.1 r.2 H1 locs1 a b hF)
def rmX3_forget : Room := { frames := 0, cells := 0, slots := 0, locals := 0 }
set_option maxRecDepth 100000 in
set_option maxHeartbeats 4000000 in
theorem sX3_forget_S0 {l : Launch} {p : Program} {e : Env} {s : State} {m : MethodId} {args : Array Value} {below : List Frame} {meth : Method} {c : Code} (G : tw_G) (sz : Nat) (hC : tw_C G p s m args meth c RX3 cX3_forget 3 none) (this : Nat)  : ∀ (k : Nat) (st : (Int × tm_H) ⊕ (Int × Int × tm_H)) (out : tm_H), tm_wit (fX3_forget_S0 this) k st = some out → match st with
    | .inl ((x1, h)) => ∀ (H : Heap) (locs : List Loc) (ls : Array Slot), tm_rg x1 → tw_Rel G sz h H → tw_L G locs → lv_has ls 3 [(0, .ref this), (1, .int (tw_I x1))] → W p l e rmX3_forget s m args below meth c H locs 0 0 (MQ below (tw_Qv G sz out) args s 0 0 (tw_F G)) (F0 m 2 ls [])
    | .inr ((x1, x2, h)) => ∀ (H : Heap) (locs : List Loc) (ls : Array Slot), tm_rg x1 → tm_rg x2 → tw_Rel G sz h H → tw_L G locs → lv_has ls 3 [(0, .ref this), (1, .int (tw_I x1)), (2, .int (tw_I x2))] → W p l e rmX3_forget s m args below meth c H locs 0 0 (MQ below (tw_Qv G sz out) args s 0 0 (tw_F G)) (F0 m 17 ls []) := by
  intro k
  induction k with
  | zero =>
    intro st out hk
    exact absurd hk (by unfold tm_wit; exact fun z => by cases z)
  | succ k ih =>
    intro st out hk
    obtain ⟨X, hk, hf⟩ := tm_wit_succ hk
    obtain ⟨x1, h⟩ | ⟨x1, x2, h⟩ := st
    · intro H locs ls gx1 hR hL hl
      dsimp only [fX3_forget_S0] at hk
      refine lv_iload_n hC.1 hC.2.1 dX3_forget_2 rfl (lv_at hl 1 rfl) ?_
      refine lv_bipush (v := tw_I 13) hC.1 hC.2.1 dX3_forget_3 (by decide) ?_
      refine tw_cge (tgt := 45) hC hk gx1 ((tw_rgL rfl)) dX3_forget_5 (by decide) (fun _ hk => ?_) (fun _ hk => ?_)
      · refine lv_aload_n hC.1 hC.2.1 dX3_forget_8 rfl (lv_at hl 0 rfl) ?_
        refine tw_getR hC hR hk flX3_26 dX3_forget_9 (fun r1 hk => ?_)
        refine lv_iload_n hC.1 hC.2.1 dX3_forget_12 rfl (lv_at hl 1 rfl) ?_
        refine lv_iconst (v := tw_I 0) hC.1 hC.2.1 dX3_forget_13 rfl ?_
        refine tw_iast hC hR hL ((tw_rgL rfl)) hk dX3_forget_14 (fun h2 H locs hR hL hk => ?_)
        refine lv_iconst (v := tw_I 0) hC.1 hC.2.1 dX3_forget_15 rfl ?_
        refine lv_istore_n (lv' := [(2, .int (tw_I 0)), (0, .ref this), (1, .int (tw_I x1))]) hC.1 hC.2.1 dX3_forget_16 rfl hl (by decide) rfl (fun ls hl => ?_)
        cases hk
        exact ih _ out hf H locs _ gx1 ((tw_rgL rfl)) hR hL (lv_sub hl [1, 2, 0] rfl)
      · refine lv_aload_n hC.1 hC.2.1 dX3_forget_45 rfl (lv_at hl 0 rfl) ?_
        refine lv_iconst (v := tw_I 0) hC.1 hC.2.1 dX3_forget_46 rfl ?_
        refine tw_putI hC hR hL ((tw_rgL rfl)) hk fpX3_39 dX3_forget_47 (fun h3 H locs hR hL hk => ?_)
        refine lv_aload_n hC.1 hC.2.1 dX3_forget_50 rfl (lv_at hl 0 rfl) ?_
        refine lv_iconst (v := tw_I 0) hC.1 hC.2.1 dX3_forget_51 rfl ?_
        refine tw_putI hC hR hL ((tw_rgL rfl)) hk fpX3_43 dX3_forget_52 (fun h4 H locs hR hL hk => ?_)
        cases hk
        cases hf
        exact tw_vret hC hR hL rfl dX3_forget_55
    · intro H locs ls gx1 gx2 hR hL hl
      dsimp only [fX3_forget_S0] at hk
      refine lv_iload_n hC.1 hC.2.1 dX3_forget_17 rfl (lv_at hl 2 rfl) ?_
      refine lv_bipush (v := tw_I 6) hC.1 hC.2.1 dX3_forget_18 (by decide) ?_
      refine tw_cge (tgt := 39) hC hk gx2 ((tw_rgL rfl)) dX3_forget_20 (by decide) (fun _ hk => ?_) (fun _ hk => ?_)
      · refine lv_aload_n hC.1 hC.2.1 dX3_forget_23 rfl (lv_at hl 0 rfl) ?_
        refine tw_getR hC hR hk flX3_23 dX3_forget_24 (fun r5 hk => ?_)
        refine lv_iload_n hC.1 hC.2.1 dX3_forget_27 rfl (lv_at hl 1 rfl) ?_
        refine tw_aald hC hR hk dX3_forget_28 (fun r6 hk => ?_)
        refine lv_iload_n hC.1 hC.2.1 dX3_forget_29 rfl (lv_at hl 2 rfl) ?_
        refine lv_bipush (v := tw_I (-99)) hC.1 hC.2.1 dX3_forget_30 (by decide) ?_
        refine tw_iast hC hR hL ((tw_rgL rfl)) hk dX3_forget_32 (fun h7 H locs hR hL hk => ?_)
        refine tw_iinc (lv' := [(2, .int (tw_I (tm_wr (x2 + 1)))), (0, .ref this), (1, .int (tw_I x1))]) hC dX3_forget_33 hl (k := 2) rfl (by decide) rfl (fun ls hl => ?_)
        refine lv_goto (tgt := 17) hC.1 hC.2.1 dX3_forget_36 (by decide) ?_
        cases hk
        exact ih _ out hf H locs _ gx1 ((tm_wr_rg _)) hR hL (lv_sub hl [1, 2, 0] rfl)
      · refine tw_iinc (lv' := [(1, .int (tw_I (tm_wr (x1 + 1)))), (0, .ref this), (2, .int (tw_I x2))]) hC dX3_forget_39 hl (k := 1) rfl (by decide) rfl (fun ls hl => ?_)
        refine lv_goto (tgt := 2) hC.1 hC.2.1 dX3_forget_42 (by decide) ?_
        cases hk
        exact ih _ out hf H locs _ ((tm_wr_rg _)) hR hL (lv_sub hl [1, 0] rfl)
theorem sX3_forget_L2 {l : Launch} {p : Program} {e : Env} {s : State} {m : MethodId} {args : Array Value} {below : List Frame} {meth : Method} {c : Code} (G : tw_G) (sz : Nat) (hC : tw_C G p s m args meth c RX3 cX3_forget 3 none) (this : Nat)  (x1 : Int) (h : tm_H) (gx1 : tm_rg x1) (out : tm_H) (hk : fX3_forget_L2 this x1 h = some out) (H : Heap) (locs : List Loc) (ls : Array Slot) (hR : tw_Rel G sz h H) (hL : tw_L G locs) (hl : lv_has ls 3 [(0, .ref this), (1, .int (tw_I x1))]) : W p l e rmX3_forget s m args below meth c H locs 0 0 (MQ below (tw_Qv G sz out) args s 0 0 (tw_F G)) (F0 m 2 ls []) := by
  obtain ⟨k, hk⟩ := tm_wl_iff.mp hk
  exact sX3_forget_S0 G sz hC this  k (.inl ((x1, h))) out hk H locs ls gx1 hR hL hl
theorem sX3_forget_L17 {l : Launch} {p : Program} {e : Env} {s : State} {m : MethodId} {args : Array Value} {below : List Frame} {meth : Method} {c : Code} (G : tw_G) (sz : Nat) (hC : tw_C G p s m args meth c RX3 cX3_forget 3 none) (this : Nat)  (x1 : Int) (x2 : Int) (h : tm_H) (gx1 : tm_rg x1) (gx2 : tm_rg x2) (out : tm_H) (hk : fX3_forget_L17 this x1 x2 h = some out) (H : Heap) (locs : List Loc) (ls : Array Slot) (hR : tw_Rel G sz h H) (hL : tw_L G locs) (hl : lv_has ls 3 [(0, .ref this), (1, .int (tw_I x1)), (2, .int (tw_I x2))]) : W p l e rmX3_forget s m args below meth c H locs 0 0 (MQ below (tw_Qv G sz out) args s 0 0 (tw_F G)) (F0 m 17 ls []) := by
  obtain ⟨k, hk⟩ := tm_wl_iff.mp hk
  exact sX3_forget_S0 G sz hC this  k (.inr ((x1, x2, h))) out hk H locs ls gx1 gx2 hR hL hl
set_option maxRecDepth 100000 in
set_option maxHeartbeats 4000000 in
theorem cX3_forget_ok (l : Launch) (G : tw_G) (sz : Nat) (this : Nat)  (h : tm_H) (out : tm_H) (hk : fX3_forget this h = some out) : Met l yX3_forget (tw_WS yX3_forget cX3_forget 3 none) rmX3_forget (va_Pc [.ref this] (tw_Pre G sz h)) (tw_Qv G sz out) 0 0 (tw_F G) := by
  refine tw_met (by decide +kernel) (Nat.le_of_ble_eq_true rfl) ?_
  intro p e s m args below meth c H ls hC hnm hR hl
  unfold fX3_forget at hk
  obtain ⟨hob, hk⟩ := tm_th_is hk
  have hl : lv_has ls 3 [(0, .ref this)] := hl
  have hL : tw_L G [] := fun q z => by cases z
  generalize hlc : ([] : List Loc) = locs at hL ⊢
  refine lv_iconst (v := tw_I 0) hC.1 hC.2.1 dX3_forget_0 rfl ?_
  refine lv_istore_n (lv' := [(1, .int (tw_I 0)), (0, .ref this)]) hC.1 hC.2.1 dX3_forget_1 rfl hl (by decide) rfl (fun ls hl => ?_)
  exact sX3_forget_L2 G sz hC this 0 h ((tw_rgL rfl)) out hk H locs _ hR hL (lv_sub hl [1, 0] rfl)
set_option maxRecDepth 100000 in
theorem kX3_forget {l : Launch} {p : Program} {e : Env} {R : Room} {s : State} {m : MethodId} {args : Array Value} {below : List Frame} {meth : Method} {c : Code} {H : Heap} {locs : List Loc} {cells slots : Nat} {Q : State → Prop} {cc : ByteArray} {pc nL idx : Nat} {ls : Array Slot} {rest : List Value} {G : tw_G} {h : tm_H} {own : String} {ret : Option FieldType} {α : Type} {x : α} {sz : Nat} {this : Nat} (hC : tw_C G p s m args meth c own cc nL ret) (hR : tw_Rel G sz h H) (hL : tw_L G locs) {F : tm_H → Option α} (hk : (fX3_forget this h).bind F = some x)  (hl : tw_mL own idx yX3_forget) (hRm : rmX3_forget.frames + 1 ≤ R.frames ∧ 8 + (3 + 11) + rmX3_forget.locals ≤ R.locals) (hsz : ls.size = nL) (hW : (rest.map fun v => v.category).sum ≤ 8) (hf : cells + 0 ≤ R.cells ∧ slots + 0 ≤ R.slots) (hdg : decode cc pc = .ok (.invokevirtual idx, 3)) (kk : ∀ (h1 : tm_H) (H1 : Heap) (locs1 : List Loc), tw_Rel G sz h1 H1 → tw_L G locs1 → F h1 = some x → W p l e R s m args below meth c H1 locs1 (cells + 0) (slots + 0) Q (F0 m (pc + 3) ls (rest))) : W p l e R s m args below meth c H locs cells slots Q (F0 m pc ls (.ref this :: rest)) := by
  obtain ⟨r, hr, hF⟩ := Option.bind_eq_some_iff.mp hk
  have ob : ∀ r, fX3_forget this h = some r → tm_is h 3 this := fun r hr => by
    unfold fX3_forget at hr
    exact (tm_th_is hr).1
  exact tw_backv (tw_runV hC hR (cX3_forget_ok l G sz this  h r hr) (n := 0) (As := []) ⟨tw_in_TB 364 (by decide +kernel) rfl, tw_in_TB 61 (by decide +kernel) rfl, by decide +kernel⟩ (tw_in_TB 363 (by decide +kernel) rfl) (tw_in_TB 2 (by decide +kernel) rfl) hl ⟨rfl, rfl⟩ hRm (ob r hr) (T := TX3) (N := 9) rfl rfl hsz rfl hW hdg hf) hL (fun H1 locs1 a b => kk r H1 locs1 a b hF)
def rmX5_lengthOf : Room := { frames := 0, cells := 0, slots := 0, locals := 0 }
set_option maxRecDepth 100000 in
set_option maxHeartbeats 4000000 in
theorem cX5_lengthOf_ok (l : Launch) (G : tw_G) (sz : Nat) (this : Nat) (a1 : Int) (ga1 : tm_rg a1) (h : tm_H) (out : Int) (hk : fX5_lengthOf this a1 h = some out) : Met l yX5_lengthOf (tw_WS yX5_lengthOf cX5_lengthOf 2 (some .int)) rmX5_lengthOf (va_Pc [.ref this, .int (tw_I a1)] (tw_Pre G sz h)) (tw_Qi G sz out h) 0 0 (tw_F G) := by
  refine tw_met (by decide +kernel) (Nat.le_of_ble_eq_true rfl) ?_
  intro p e s m args below meth c H ls hC hnm hR hl
  unfold fX5_lengthOf at hk
  obtain ⟨hob, hk⟩ := tm_th_is hk
  have hl : lv_has ls 2 [(0, .ref this), (1, .int (tw_I a1))] := hl
  have hL : tw_L G [] := fun q z => by cases z
  generalize hlc : ([] : List Loc) = locs at hL ⊢
  refine lv_iload_n hC.1 hC.2.1 dX5_lengthOf_0 rfl (lv_at hl 1 rfl) ?_
  refine tw_zlt (tgt := 21) hC hk ga1 dX5_lengthOf_1 (by decide) (fun _ hk => ?_) (fun _ hk => ?_)
  · refine lv_iconst (v := tw_I 0) hC.1 hC.2.1 dX5_lengthOf_21 rfl ?_
    cases hk
    exact tw_iret hC hR hL ((tw_rgL rfl)) rfl rfl dX5_lengthOf_22
  · refine lv_iload_n hC.1 hC.2.1 dX5_lengthOf_4 rfl (lv_at hl 1 rfl) ?_
    refine lv_aload_n hC.1 hC.2.1 dX5_lengthOf_5 rfl (lv_at hl 0 rfl) ?_
    refine tw_getI hC hR hk flX5_24 dX5_lengthOf_6 (fun v1 gv1 hk => ?_)
    refine tw_cge (tgt := 21) hC hk ga1 gv1 dX5_lengthOf_9 (by decide) (fun _ hk => ?_) (fun _ hk => ?_)
    · refine lv_aload_n hC.1 hC.2.1 dX5_lengthOf_12 rfl (lv_at hl 0 rfl) ?_
      refine tw_getR hC hR hk flX5_16 dX5_lengthOf_13 (fun r2 hk => ?_)
      refine lv_iload_n hC.1 hC.2.1 dX5_lengthOf_16 rfl (lv_at hl 1 rfl) ?_
      refine tw_iald hC hR hk dX5_lengthOf_17 (fun v3 gv3 hk => ?_)
      refine lv_goto (tgt := 22) hC.1 hC.2.1 dX5_lengthOf_18 (by decide) ?_
      cases hk
      exact tw_iret hC hR hL gv3 rfl rfl dX5_lengthOf_22
    · refine lv_iconst (v := tw_I 0) hC.1 hC.2.1 dX5_lengthOf_21 rfl ?_
      cases hk
      exact tw_iret hC hR hL ((tw_rgL rfl)) rfl rfl dX5_lengthOf_22
set_option maxRecDepth 100000 in
theorem kX5_lengthOf {l : Launch} {p : Program} {e : Env} {R : Room} {s : State} {m : MethodId} {args : Array Value} {below : List Frame} {meth : Method} {c : Code} {H : Heap} {locs : List Loc} {cells slots : Nat} {Q : State → Prop} {cc : ByteArray} {pc nL idx : Nat} {ls : Array Slot} {rest : List Value} {G : tw_G} {h : tm_H} {own : String} {ret : Option FieldType} {α : Type} {x : α} {sz : Nat} {this : Nat} {a1 : Int} (hC : tw_C G p s m args meth c own cc nL ret) (hR : tw_Rel G sz h H) (hL : tw_L G locs) {F : Int → Option α} (hk : (fX5_lengthOf this a1 h).bind F = some x) (ga1 : tm_rg a1) (hl : tw_mL own idx yX5_lengthOf) (hRm : rmX5_lengthOf.frames + 1 ≤ R.frames ∧ 8 + (2 + 11) + rmX5_lengthOf.locals ≤ R.locals) (hsz : ls.size = nL) (hW : (rest.map fun v => v.category).sum ≤ 8) (hf : cells + 0 ≤ R.cells ∧ slots + 0 ≤ R.slots) (hdg : decode cc pc = .ok (.invokevirtual idx, 3)) (kk : ∀ (r : Int) (H1 : Heap) (locs1 : List Loc), tw_Rel G sz h H1 → tw_L G locs1 → tm_rg r → F r = some x → W p l e R s m args below meth c H1 locs1 (cells + 0) (slots + 0) Q (F0 m (pc + 3) ls (.int (tw_I r) :: rest))) : W p l e R s m args below meth c H locs cells slots Q (F0 m pc ls (.int (tw_I a1) :: .ref this :: rest)) := by
  obtain ⟨r, hr, hF⟩ := Option.bind_eq_some_iff.mp hk
  have ob : ∀ r, fX5_lengthOf this a1 h = some r → tm_is h 5 this := fun r hr => by
    unfold fX5_lengthOf at hr
    exact (tm_th_is hr).1
  exact tw_backi (tw_runV hC hR (cX5_lengthOf_ok l G sz this a1 ga1 h r hr) (n := 1) (As := [.int (tw_I a1)]) ⟨tw_in_TB 381 (by decide +kernel) rfl, tw_in_TB 57 (by decide +kernel) rfl, by decide +kernel⟩ (tw_in_TB 379 (by decide +kernel) rfl) (tw_in_TB 380 (by decide +kernel) rfl) hl ⟨rfl, rfl⟩ hRm (ob r hr) (T := TX5) (N := 4) rfl rfl hsz rfl hW hdg hf) hL (fun H1 locs1 a b g => kk r H1 locs1 a b g hF)
def rmX5_wordAt : Room := { frames := 0, cells := 0, slots := 0, locals := 0 }
set_option maxRecDepth 100000 in
set_option maxHeartbeats 4000000 in
theorem cX5_wordAt_ok (l : Launch) (G : tw_G) (sz : Nat) (this : Nat) (a1 : Int) (a2 : Int) (ga1 : tm_rg a1) (ga2 : tm_rg a2) (h : tm_H) (out : Int) (hk : fX5_wordAt this a1 a2 h = some out) : Met l yX5_wordAt (tw_WS yX5_wordAt cX5_wordAt 3 (some .int)) rmX5_wordAt (va_Pc [.ref this, .int (tw_I a1), .int (tw_I a2)] (tw_Pre G sz h)) (tw_Qi G sz out h) 0 0 (tw_F G) := by
  refine tw_met (by decide +kernel) (Nat.le_of_ble_eq_true rfl) ?_
  intro p e s m args below meth c H ls hC hnm hR hl
  unfold fX5_wordAt at hk
  obtain ⟨hob, hk⟩ := tm_th_is hk
  have hl : lv_has ls 3 [(0, .ref this), (1, .int (tw_I a1)), (2, .int (tw_I a2))] := hl
  have hL : tw_L G [] := fun q z => by cases z
  generalize hlc : ([] : List Loc) = locs at hL ⊢
  refine lv_iload_n hC.1 hC.2.1 dX5_wordAt_0 rfl (lv_at hl 1 rfl) ?_
  refine tw_zlt (tgt := 26) hC hk ga1 dX5_wordAt_1 (by decide) (fun _ hk => ?_) (fun _ hk => ?_)
  · refine lv_bipush (v := tw_I (-99)) hC.1 hC.2.1 dX5_wordAt_26 (by decide) ?_
    cases hk
    exact tw_iret hC hR hL ((tw_rgL rfl)) rfl rfl dX5_wordAt_28
  · refine lv_iload_n hC.1 hC.2.1 dX5_wordAt_4 rfl (lv_at hl 1 rfl) ?_
    refine lv_aload_n hC.1 hC.2.1 dX5_wordAt_5 rfl (lv_at hl 0 rfl) ?_
    refine tw_getI hC hR hk flX5_24 dX5_wordAt_6 (fun v1 gv1 hk => ?_)
    refine tw_cge (tgt := 26) hC hk ga1 gv1 dX5_wordAt_9 (by decide) (fun _ hk => ?_) (fun _ hk => ?_)
    · refine lv_iload_n hC.1 hC.2.1 dX5_wordAt_12 rfl (lv_at hl 2 rfl) ?_
      refine tw_zlt (tgt := 26) hC hk ga2 dX5_wordAt_13 (by decide) (fun _ hk => ?_) (fun _ hk => ?_)
      · refine lv_bipush (v := tw_I (-99)) hC.1 hC.2.1 dX5_wordAt_26 (by decide) ?_
        cases hk
        exact tw_iret hC hR hL ((tw_rgL rfl)) rfl rfl dX5_wordAt_28
      · refine lv_iload_n hC.1 hC.2.1 dX5_wordAt_16 rfl (lv_at hl 2 rfl) ?_
        refine lv_aload_n hC.1 hC.2.1 dX5_wordAt_17 rfl (lv_at hl 0 rfl) ?_
        refine tw_getR hC hR hk flX5_16 dX5_wordAt_18 (fun r2 hk => ?_)
        refine lv_iload_n hC.1 hC.2.1 dX5_wordAt_21 rfl (lv_at hl 1 rfl) ?_
        refine tw_iald hC hR hk dX5_wordAt_22 (fun v3 gv3 hk => ?_)
        refine tw_clt (tgt := 29) hC hk ga2 gv3 dX5_wordAt_23 (by decide) (fun _ hk => ?_) (fun _ hk => ?_)
        · refine lv_aload_n hC.1 hC.2.1 dX5_wordAt_29 rfl (lv_at hl 0 rfl) ?_
          refine tw_getR hC hR hk flX5_13 dX5_wordAt_30 (fun r4 hk => ?_)
          refine lv_iload_n hC.1 hC.2.1 dX5_wordAt_33 rfl (lv_at hl 1 rfl) ?_
          refine tw_aald hC hR hk dX5_wordAt_34 (fun r5 hk => ?_)
          refine lv_iload_n hC.1 hC.2.1 dX5_wordAt_35 rfl (lv_at hl 2 rfl) ?_
          refine tw_iald hC hR hk dX5_wordAt_36 (fun v6 gv6 hk => ?_)
          cases hk
          exact tw_iret hC hR hL gv6 rfl rfl dX5_wordAt_37
        · refine lv_bipush (v := tw_I (-99)) hC.1 hC.2.1 dX5_wordAt_26 (by decide) ?_
          cases hk
          exact tw_iret hC hR hL ((tw_rgL rfl)) rfl rfl dX5_wordAt_28
    · refine lv_bipush (v := tw_I (-99)) hC.1 hC.2.1 dX5_wordAt_26 (by decide) ?_
      cases hk
      exact tw_iret hC hR hL ((tw_rgL rfl)) rfl rfl dX5_wordAt_28
set_option maxRecDepth 100000 in
theorem kX5_wordAt {l : Launch} {p : Program} {e : Env} {R : Room} {s : State} {m : MethodId} {args : Array Value} {below : List Frame} {meth : Method} {c : Code} {H : Heap} {locs : List Loc} {cells slots : Nat} {Q : State → Prop} {cc : ByteArray} {pc nL idx : Nat} {ls : Array Slot} {rest : List Value} {G : tw_G} {h : tm_H} {own : String} {ret : Option FieldType} {α : Type} {x : α} {sz : Nat} {this : Nat} {a1 : Int} {a2 : Int} (hC : tw_C G p s m args meth c own cc nL ret) (hR : tw_Rel G sz h H) (hL : tw_L G locs) {F : Int → Option α} (hk : (fX5_wordAt this a1 a2 h).bind F = some x) (ga1 : tm_rg a1) (ga2 : tm_rg a2) (hl : tw_mL own idx yX5_wordAt) (hRm : rmX5_wordAt.frames + 1 ≤ R.frames ∧ 8 + (3 + 11) + rmX5_wordAt.locals ≤ R.locals) (hsz : ls.size = nL) (hW : (rest.map fun v => v.category).sum ≤ 8) (hf : cells + 0 ≤ R.cells ∧ slots + 0 ≤ R.slots) (hdg : decode cc pc = .ok (.invokevirtual idx, 3)) (kk : ∀ (r : Int) (H1 : Heap) (locs1 : List Loc), tw_Rel G sz h H1 → tw_L G locs1 → tm_rg r → F r = some x → W p l e R s m args below meth c H1 locs1 (cells + 0) (slots + 0) Q (F0 m (pc + 3) ls (.int (tw_I r) :: rest))) : W p l e R s m args below meth c H locs cells slots Q (F0 m pc ls (.int (tw_I a2) :: .int (tw_I a1) :: .ref this :: rest)) := by
  obtain ⟨r, hr, hF⟩ := Option.bind_eq_some_iff.mp hk
  have ob : ∀ r, fX5_wordAt this a1 a2 h = some r → tm_is h 5 this := fun r hr => by
    unfold fX5_wordAt at hr
    exact (tm_th_is hr).1
  exact tw_backi (tw_runV hC hR (cX5_wordAt_ok l G sz this a1 a2 ga1 ga2 h r hr) (n := 2) (As := [.int (tw_I a1), .int (tw_I a2)]) ⟨tw_in_TB 390 (by decide +kernel) rfl, tw_in_TB 57 (by decide +kernel) rfl, by decide +kernel⟩ (tw_in_TB 388 (by decide +kernel) rfl) (tw_in_TB 389 (by decide +kernel) rfl) hl ⟨rfl, rfl⟩ hRm (ob r hr) (T := TX5) (N := 4) rfl rfl hsz rfl hW hdg hf) hL (fun H1 locs1 a b g => kk r H1 locs1 a b g hF)
def rmX4_occursAt : Room := { frames := 1, cells := 0, slots := 0, locals := 22 }
set_option maxRecDepth 100000 in
set_option maxHeartbeats 4000000 in
theorem sX4_occursAt_S0 {l : Launch} {p : Program} {e : Env} {s : State} {m : MethodId} {args : Array Value} {below : List Frame} {meth : Method} {c : Code} (G : tw_G) (sz : Nat) (hC : tw_C G p s m args meth c RX4 cX4_occursAt 6 (some .boolean)) (this : Nat) (a1 : Int) (a2 : Int) (a3 : Int) (ga1 : tm_rg a1) (ga2 : tm_rg a2) (ga3 : tm_rg a3) (h : tm_H) : ∀ (k : Nat) (st : (Int × Int)) (out : Int), tm_wit (fX4_occursAt_S0 this a1 a2 a3 h) k st = some out → match st with
    | (x4, x5) => ∀ (H : Heap) (locs : List Loc) (ls : Array Slot), tm_rg x4 → tm_rg x5 → tw_Rel G sz h H → tw_L G locs → lv_has ls 6 [(0, .ref this), (1, .int (tw_I a1)), (2, .int (tw_I a2)), (3, .int (tw_I a3)), (4, .int (tw_I x4)), (5, .int (tw_I x5))] → W p l e rmX4_occursAt s m args below meth c H locs 0 0 (MQ below (tw_Qi G sz out h) args s 0 0 (tw_F G)) (F0 m 39 ls []) := by
  intro k
  induction k with
  | zero =>
    intro st out hk
    exact absurd hk (by unfold tm_wit; exact fun z => by cases z)
  | succ k ih =>
    intro st out hk
    obtain ⟨X, hk, hf⟩ := tm_wit_succ hk
    obtain ⟨x4, x5⟩ := st
    intro H locs ls gx4 gx5 hR hL hl
    dsimp only [fX4_occursAt_S0] at hk
    refine lv_iload hC.1 hC.2.1 dX4_occursAt_39 (lv_at hl 5 rfl) ?_
    refine lv_iload hC.1 hC.2.1 dX4_occursAt_41 (lv_at hl 4 rfl) ?_
    refine tw_cge (tgt := 93) hC hk gx5 gx4 dX4_occursAt_43 (by decide) (fun _ hk => ?_) (fun _ hk => ?_)
    · refine lv_aload_n hC.1 hC.2.1 dX4_occursAt_46 rfl (lv_at hl 0 rfl) ?_
      refine tw_getR hC hR hk flX4_12 dX4_occursAt_47 (fun r5 hk => ?_)
      refine lv_aload_n hC.1 hC.2.1 dX4_occursAt_50 rfl (lv_at hl 0 rfl) ?_
      refine tw_getR hC hR hk flX4_28 dX4_occursAt_51 (fun r6 hk => ?_)
      refine lv_iload_n hC.1 hC.2.1 dX4_occursAt_54 rfl (lv_at hl 1 rfl) ?_
      refine lv_iload hC.1 hC.2.1 dX4_occursAt_55 (lv_at hl 5 rfl) ?_
      refine kX5_wordAt hC hR hL hk ga1 gx5 mlX4_73 ⟨by decide, by decide⟩ hl.1 (Nat.le_of_ble_eq_true rfl) ⟨Nat.zero_le _, Nat.zero_le _⟩ dX4_occursAt_57 (fun v7 H locs hR hL gv7 hk => ?_)
      refine kX7_baseOf hC hR hL hk gv7 mlX4_57 ⟨by decide, by decide⟩ hl.1 (Nat.le_of_ble_eq_true rfl) ⟨Nat.zero_le _, Nat.zero_le _⟩ dX4_occursAt_60 (fun v8 H locs hR hL gv8 hk => ?_)
      refine lv_aload_n hC.1 hC.2.1 dX4_occursAt_63 rfl (lv_at hl 0 rfl) ?_
      refine tw_getR hC hR hk flX4_12 dX4_occursAt_64 (fun r9 hk => ?_)
      refine lv_aload_n hC.1 hC.2.1 dX4_occursAt_67 rfl (lv_at hl 0 rfl) ?_
      refine tw_getR hC hR hk flX4_21 dX4_occursAt_68 (fun r10 hk => ?_)
      refine lv_iload_n hC.1 hC.2.1 dX4_occursAt_71 rfl (lv_at hl 2 rfl) ?_
      refine lv_iload_n hC.1 hC.2.1 dX4_occursAt_72 rfl (lv_at hl 3 rfl) ?_
      refine lv_iload hC.1 hC.2.1 dX4_occursAt_73 (lv_at hl 5 rfl) ?_
      refine tw_iadd hC dX4_occursAt_75 ?_
      refine kX0_wordAt hC hR hL hk ga2 ((tm_wr_rg _)) mlX4_77 ⟨by decide, by decide⟩ hl.1 (Nat.le_of_ble_eq_true rfl) ⟨Nat.zero_le _, Nat.zero_le _⟩ dX4_occursAt_76 (fun v11 H locs hR hL gv11 hk => ?_)
      refine kX7_baseOf hC hR hL hk gv11 mlX4_57 ⟨by decide, by decide⟩ hl.1 (Nat.le_of_ble_eq_true rfl) ⟨Nat.zero_le _, Nat.zero_le _⟩ dX4_occursAt_79 (fun v12 H locs hR hL gv12 hk => ?_)
      refine tw_ceq (tgt := 87) hC hk gv8 gv12 dX4_occursAt_82 (by decide) (fun _ hk => ?_) (fun _ hk => ?_)
      · refine tw_iinc (lv' := [(5, .int (tw_I (tm_wr (x5 + 1)))), (0, .ref this), (1, .int (tw_I a1)), (2, .int (tw_I a2)), (3, .int (tw_I a3)), (4, .int (tw_I x4))]) hC dX4_occursAt_87 hl (k := 5) rfl (by decide) rfl (fun ls hl => ?_)
        refine lv_goto (tgt := 39) hC.1 hC.2.1 dX4_occursAt_90 (by decide) ?_
        cases hk
        exact ih _ out hf H locs _ gx4 ((tm_wr_rg _)) hR hL (lv_sub hl [1, 2, 3, 4, 5, 0] rfl)
      · refine lv_iconst (v := tw_I 0) hC.1 hC.2.1 dX4_occursAt_85 rfl ?_
        cases hk
        cases hf
        exact tw_zret hC hR hL rfl rfl dX4_occursAt_86
    · refine lv_iconst (v := tw_I 1) hC.1 hC.2.1 dX4_occursAt_93 rfl ?_
      cases hk
      cases hf
      exact tw_zret hC hR hL rfl rfl dX4_occursAt_94
theorem sX4_occursAt_L39 {l : Launch} {p : Program} {e : Env} {s : State} {m : MethodId} {args : Array Value} {below : List Frame} {meth : Method} {c : Code} (G : tw_G) (sz : Nat) (hC : tw_C G p s m args meth c RX4 cX4_occursAt 6 (some .boolean)) (this : Nat) (a1 : Int) (a2 : Int) (a3 : Int) (ga1 : tm_rg a1) (ga2 : tm_rg a2) (ga3 : tm_rg a3) (h : tm_H) (x4 : Int) (x5 : Int) (gx4 : tm_rg x4) (gx5 : tm_rg x5) (out : Int) (hk : fX4_occursAt_L39 this a1 a2 a3 h x4 x5 = some out) (H : Heap) (locs : List Loc) (ls : Array Slot) (hR : tw_Rel G sz h H) (hL : tw_L G locs) (hl : lv_has ls 6 [(0, .ref this), (1, .int (tw_I a1)), (2, .int (tw_I a2)), (3, .int (tw_I a3)), (4, .int (tw_I x4)), (5, .int (tw_I x5))]) : W p l e rmX4_occursAt s m args below meth c H locs 0 0 (MQ below (tw_Qi G sz out h) args s 0 0 (tw_F G)) (F0 m 39 ls []) := by
  obtain ⟨k, hk⟩ := tm_wl_iff.mp hk
  exact sX4_occursAt_S0 G sz hC this a1 a2 a3 ga1 ga2 ga3 h k ((x4, x5)) out hk H locs ls gx4 gx5 hR hL hl
set_option maxRecDepth 100000 in
set_option maxHeartbeats 4000000 in
theorem cX4_occursAt_ok (l : Launch) (G : tw_G) (sz : Nat) (this : Nat) (a1 : Int) (a2 : Int) (a3 : Int) (ga1 : tm_rg a1) (ga2 : tm_rg a2) (ga3 : tm_rg a3) (h : tm_H) (out : Int) (hk : fX4_occursAt this a1 a2 a3 h = some out) : Met l yX4_occursAt (tw_WS yX4_occursAt cX4_occursAt 6 (some .boolean)) rmX4_occursAt (va_Pc [.ref this, .int (tw_I a1), .int (tw_I a2), .int (tw_I a3)] (tw_Pre G sz h)) (tw_Qi G sz out h) 0 0 (tw_F G) := by
  refine tw_met (by decide +kernel) (Nat.le_of_ble_eq_true rfl) ?_
  intro p e s m args below meth c H ls hC hnm hR hl
  unfold fX4_occursAt at hk
  obtain ⟨hob, hk⟩ := tm_th_is hk
  have hl : lv_has ls 6 [(0, .ref this), (1, .int (tw_I a1)), (2, .int (tw_I a2)), (3, .int (tw_I a3))] := hl
  have hL : tw_L G [] := fun q z => by cases z
  generalize hlc : ([] : List Loc) = locs at hL ⊢
  refine lv_aload_n hC.1 hC.2.1 dX4_occursAt_0 rfl (lv_at hl 0 rfl) ?_
  refine tw_getR hC hR hk flX4_28 dX4_occursAt_1 (fun r1 hk => ?_)
  refine lv_iload_n hC.1 hC.2.1 dX4_occursAt_4 rfl (lv_at hl 1 rfl) ?_
  refine kX5_lengthOf hC hR hL hk ga1 mlX4_69 ⟨by decide, by decide⟩ hl.1 (Nat.le_of_ble_eq_true rfl) ⟨Nat.zero_le _, Nat.zero_le _⟩ dX4_occursAt_5 (fun v2 H locs hR hL gv2 hk => ?_)
  refine lv_istore (lv' := [(4, .int (tw_I v2)), (0, .ref this), (1, .int (tw_I a1)), (2, .int (tw_I a2)), (3, .int (tw_I a3))]) hC.1 hC.2.1 dX4_occursAt_8 hl (by decide) rfl (fun ls hl => ?_)
  refine lv_iload hC.1 hC.2.1 dX4_occursAt_10 (lv_at hl 0 rfl) ?_
  refine tw_zeq (tgt := 34) hC hk gv2 dX4_occursAt_12 (by decide) (fun _ hk => ?_) (fun _ hk => ?_)
  · refine lv_iconst (v := tw_I 0) hC.1 hC.2.1 dX4_occursAt_34 rfl ?_
    cases hk
    exact tw_zret hC hR hL rfl rfl dX4_occursAt_35
  · refine lv_iload_n hC.1 hC.2.1 dX4_occursAt_15 rfl (lv_at hl 4 rfl) ?_
    refine tw_zlt (tgt := 34) hC hk ga3 dX4_occursAt_16 (by decide) (fun _ hk => ?_) (fun _ hk => ?_)
    · refine lv_iconst (v := tw_I 0) hC.1 hC.2.1 dX4_occursAt_34 rfl ?_
      cases hk
      exact tw_zret hC hR hL rfl rfl dX4_occursAt_35
    · refine lv_iload_n hC.1 hC.2.1 dX4_occursAt_19 rfl (lv_at hl 4 rfl) ?_
      refine lv_aload_n hC.1 hC.2.1 dX4_occursAt_20 rfl (lv_at hl 1 rfl) ?_
      refine tw_getR hC hR hk flX4_21 dX4_occursAt_21 (fun r3 hk => ?_)
      refine lv_iload_n hC.1 hC.2.1 dX4_occursAt_24 rfl (lv_at hl 3 rfl) ?_
      refine kX0_lengthOf hC hR hL hk ga2 mlX4_72 ⟨by decide, by decide⟩ hl.1 (Nat.le_of_ble_eq_true rfl) ⟨Nat.zero_le _, Nat.zero_le _⟩ dX4_occursAt_25 (fun v4 H locs hR hL gv4 hk => ?_)
      refine lv_iload hC.1 hC.2.1 dX4_occursAt_28 (lv_at hl 0 rfl) ?_
      refine tw_isub hC dX4_occursAt_30 ?_
      refine tw_cle (tgt := 36) hC hk ga3 ((tm_wr_rg _)) dX4_occursAt_31 (by decide) (fun _ hk => ?_) (fun _ hk => ?_)
      · refine lv_iconst (v := tw_I 0) hC.1 hC.2.1 dX4_occursAt_34 rfl ?_
        cases hk
        exact tw_zret hC hR hL rfl rfl dX4_occursAt_35
      · refine lv_iconst (v := tw_I 0) hC.1 hC.2.1 dX4_occursAt_36 rfl ?_
        refine lv_istore (lv' := [(5, .int (tw_I 0)), (4, .int (tw_I v2)), (0, .ref this), (1, .int (tw_I a1)), (2, .int (tw_I a2)), (3, .int (tw_I a3))]) hC.1 hC.2.1 dX4_occursAt_37 hl (by decide) rfl (fun ls hl => ?_)
        exact sX4_occursAt_L39 G sz hC this a1 a2 a3 ga1 ga2 ga3 h v2 0 gv2 ((tw_rgL rfl)) out hk H locs _ hR hL (lv_sub hl [2, 3, 4, 5, 1, 0] rfl)
set_option maxRecDepth 100000 in
theorem kX4_occursAt {l : Launch} {p : Program} {e : Env} {R : Room} {s : State} {m : MethodId} {args : Array Value} {below : List Frame} {meth : Method} {c : Code} {H : Heap} {locs : List Loc} {cells slots : Nat} {Q : State → Prop} {cc : ByteArray} {pc nL idx : Nat} {ls : Array Slot} {rest : List Value} {G : tw_G} {h : tm_H} {own : String} {ret : Option FieldType} {α : Type} {x : α} {sz : Nat} {this : Nat} {a1 : Int} {a2 : Int} {a3 : Int} (hC : tw_C G p s m args meth c own cc nL ret) (hR : tw_Rel G sz h H) (hL : tw_L G locs) {F : Int → Option α} (hk : (fX4_occursAt this a1 a2 a3 h).bind F = some x) (ga1 : tm_rg a1) (ga2 : tm_rg a2) (ga3 : tm_rg a3) (hl : tw_mL own idx yX4_occursAt) (hRm : rmX4_occursAt.frames + 1 ≤ R.frames ∧ 8 + (6 + 11) + rmX4_occursAt.locals ≤ R.locals) (hsz : ls.size = nL) (hW : (rest.map fun v => v.category).sum ≤ 8) (hf : cells + 0 ≤ R.cells ∧ slots + 0 ≤ R.slots) (hdg : decode cc pc = .ok (.invokevirtual idx, 3)) (kk : ∀ (r : Int) (H1 : Heap) (locs1 : List Loc), tw_Rel G sz h H1 → tw_L G locs1 → tm_rg r → F r = some x → W p l e R s m args below meth c H1 locs1 (cells + 0) (slots + 0) Q (F0 m (pc + 3) ls (.int (tw_I r) :: rest))) : W p l e R s m args below meth c H locs cells slots Q (F0 m pc ls (.int (tw_I a3) :: .int (tw_I a2) :: .int (tw_I a1) :: .ref this :: rest)) := by
  obtain ⟨r, hr, hF⟩ := Option.bind_eq_some_iff.mp hk
  have ob : ∀ r, fX4_occursAt this a1 a2 a3 h = some r → tm_is h 4 this := fun r hr => by
    unfold fX4_occursAt at hr
    exact (tm_th_is hr).1
  exact tw_backi (tw_runV hC hR (cX4_occursAt_ok l G sz this a1 a2 a3 ga1 ga2 ga3 h r hr) (n := 3) (As := [.int (tw_I a1), .int (tw_I a2), .int (tw_I a3)]) ⟨tw_in_TB 385 (by decide +kernel) rfl, tw_in_TB 54 (by decide +kernel) rfl, by decide +kernel⟩ (tw_in_TB 383 (by decide +kernel) rfl) (tw_in_TB 384 (by decide +kernel) rfl) hl ⟨rfl, rfl⟩ hRm (ob r hr) (T := TX4) (N := 5) rfl rfl hsz rfl hW hdg hf) hL (fun H1 locs1 a b g => kk r H1 locs1 a b g hF)
def rmX4_longestAt : Room := { frames := 2, cells := 0, slots := 0, locals := 47 }
set_option maxRecDepth 100000 in
set_option maxHeartbeats 4000000 in
theorem sX4_longestAt_S0 {l : Launch} {p : Program} {e : Env} {s : State} {m : MethodId} {args : Array Value} {below : List Frame} {meth : Method} {c : Code} (G : tw_G) (sz : Nat) (hC : tw_C G p s m args meth c RX4 cX4_longestAt 5 (some .int)) (this : Nat) (a1 : Int) (a2 : Int) (ga1 : tm_rg a1) (ga2 : tm_rg a2) (h : tm_H) : ∀ (k : Nat) (st : (Int × Int) ⊕ (Int × Int)) (out : Int), tm_wit (fX4_longestAt_S0 this a1 a2 h) k st = some out → match st with
    | .inl ((x3, x4)) => ∀ (H : Heap) (locs : List Loc) (ls : Array Slot), tm_rg x3 → tm_rg x4 → tw_Rel G sz h H → tw_L G locs → lv_has ls 5 [(0, .ref this), (1, .int (tw_I a1)), (2, .int (tw_I a2)), (3, .int (tw_I x3)), (4, .int (tw_I x4))] → W p l e rmX4_longestAt s m args below meth c H locs 0 0 (MQ below (tw_Qi G sz out h) args s 0 0 (tw_F G)) (F0 m 6 ls [])
    | .inr ((x3, x4)) => ∀ (H : Heap) (locs : List Loc) (ls : Array Slot), tm_rg x3 → tm_rg x4 → tw_Rel G sz h H → tw_L G locs → lv_has ls 5 [(0, .ref this), (1, .int (tw_I a1)), (2, .int (tw_I a2)), (3, .int (tw_I x3)), (4, .int (tw_I x4))] → W p l e rmX4_longestAt s m args below meth c H locs 0 0 (MQ below (tw_Qi G sz out h) args s 0 0 (tw_F G)) (F0 m 52 ls []) := by
  intro k
  induction k with
  | zero =>
    intro st out hk
    exact absurd hk (by unfold tm_wit; exact fun z => by cases z)
  | succ k ih =>
    intro st out hk
    obtain ⟨X, hk, hf⟩ := tm_wit_succ hk
    obtain ⟨x3, x4⟩ | ⟨x3, x4⟩ := st
    · intro H locs ls gx3 gx4 hR hL hl
      dsimp only [fX4_longestAt_S0] at hk
      refine lv_iload hC.1 hC.2.1 dX4_longestAt_6 (lv_at hl 4 rfl) ?_
      refine lv_aload_n hC.1 hC.2.1 dX4_longestAt_8 rfl (lv_at hl 0 rfl) ?_
      refine tw_getR hC hR hk flX4_28 dX4_longestAt_9 (fun r1 hk => ?_)
      refine kX5_size hC hR hL hk mlX4_82 ⟨by decide, by decide⟩ hl.1 (Nat.le_of_ble_eq_true rfl) ⟨Nat.zero_le _, Nat.zero_le _⟩ dX4_longestAt_12 (fun v2 H locs hR hL gv2 hk => ?_)
      refine tw_cge (tgt := 58) hC hk gx4 gv2 dX4_longestAt_15 (by decide) (fun _ hk => ?_) (fun _ hk => ?_)
      · refine lv_aload_n hC.1 hC.2.1 dX4_longestAt_18 rfl (lv_at hl 0 rfl) ?_
        refine tw_getR hC hR hk flX4_28 dX4_longestAt_19 (fun r3 hk => ?_)
        refine lv_iload hC.1 hC.2.1 dX4_longestAt_22 (lv_at hl 4 rfl) ?_
        refine kX5_lengthOf hC hR hL hk gx4 mlX4_69 ⟨by decide, by decide⟩ hl.1 (Nat.le_of_ble_eq_true rfl) ⟨Nat.zero_le _, Nat.zero_le _⟩ dX4_longestAt_24 (fun v4 H locs hR hL gv4 hk => ?_)
        refine lv_aload_n hC.1 hC.2.1 dX4_longestAt_27 rfl (lv_at hl 0 rfl) ?_
        refine tw_getR hC hR hk flX4_28 dX4_longestAt_28 (fun r5 hk => ?_)
        refine lv_iload_n hC.1 hC.2.1 dX4_longestAt_31 rfl (lv_at hl 3 rfl) ?_
        refine kX5_lengthOf hC hR hL hk gx3 mlX4_69 ⟨by decide, by decide⟩ hl.1 (Nat.le_of_ble_eq_true rfl) ⟨Nat.zero_le _, Nat.zero_le _⟩ dX4_longestAt_32 (fun v6 H locs hR hL gv6 hk => ?_)
        refine tw_cle (tgt := 52) hC hk gv4 gv6 dX4_longestAt_35 (by decide) (fun _ hk => ?_) (fun _ hk => ?_)
        · refine lv_aload_n hC.1 hC.2.1 dX4_longestAt_38 rfl (lv_at hl 0 rfl) ?_
          refine lv_iload hC.1 hC.2.1 dX4_longestAt_39 (lv_at hl 4 rfl) ?_
          refine lv_iload_n hC.1 hC.2.1 dX4_longestAt_41 rfl (lv_at hl 1 rfl) ?_
          refine lv_iload_n hC.1 hC.2.1 dX4_longestAt_42 rfl (lv_at hl 2 rfl) ?_
          refine kX4_occursAt hC hR hL hk gx4 ga1 ga2 mlX4_78 ⟨by decide, by decide⟩ hl.1 (Nat.le_of_ble_eq_true rfl) ⟨Nat.zero_le _, Nat.zero_le _⟩ dX4_longestAt_43 (fun v7 H locs hR hL gv7 hk => ?_)
          refine tw_zeq (tgt := 52) hC hk gv7 dX4_longestAt_46 (by decide) (fun _ hk => ?_) (fun _ hk => ?_)
          · cases hk
            exact ih _ out hf H locs _ gx3 gx4 hR hL (lv_sub hl [0, 1, 2, 3, 4] rfl)
          · refine lv_iload hC.1 hC.2.1 dX4_longestAt_49 (lv_at hl 4 rfl) ?_
            refine lv_istore_n (lv' := [(3, .int (tw_I x4)), (0, .ref this), (1, .int (tw_I a1)), (2, .int (tw_I a2)), (4, .int (tw_I x4))]) hC.1 hC.2.1 dX4_longestAt_51 rfl hl (by decide) rfl (fun ls hl => ?_)
            cases hk
            exact ih _ out hf H locs _ gx4 gx4 hR hL (lv_sub hl [1, 2, 3, 0, 4] rfl)
        · cases hk
          exact ih _ out hf H locs _ gx3 gx4 hR hL (lv_sub hl [0, 1, 2, 3, 4] rfl)
      · refine lv_iload_n hC.1 hC.2.1 dX4_longestAt_58 rfl (lv_at hl 3 rfl) ?_
        cases hk
        cases hf
        exact tw_iret hC hR hL gx3 rfl rfl dX4_longestAt_59
    · intro H locs ls gx3 gx4 hR hL hl
      dsimp only [fX4_longestAt_S0] at hk
      refine tw_iinc (lv' := [(4, .int (tw_I (tm_wr (x4 + 1)))), (0, .ref this), (1, .int (tw_I a1)), (2, .int (tw_I a2)), (3, .int (tw_I x3))]) hC dX4_longestAt_52 hl (k := 4) rfl (by decide) rfl (fun ls hl => ?_)
      refine lv_goto (tgt := 6) hC.1 hC.2.1 dX4_longestAt_55 (by decide) ?_
      cases hk
      exact ih _ out hf H locs _ gx3 ((tm_wr_rg _)) hR hL (lv_sub hl [1, 2, 3, 4, 0] rfl)
theorem sX4_longestAt_L6 {l : Launch} {p : Program} {e : Env} {s : State} {m : MethodId} {args : Array Value} {below : List Frame} {meth : Method} {c : Code} (G : tw_G) (sz : Nat) (hC : tw_C G p s m args meth c RX4 cX4_longestAt 5 (some .int)) (this : Nat) (a1 : Int) (a2 : Int) (ga1 : tm_rg a1) (ga2 : tm_rg a2) (h : tm_H) (x3 : Int) (x4 : Int) (gx3 : tm_rg x3) (gx4 : tm_rg x4) (out : Int) (hk : fX4_longestAt_L6 this a1 a2 h x3 x4 = some out) (H : Heap) (locs : List Loc) (ls : Array Slot) (hR : tw_Rel G sz h H) (hL : tw_L G locs) (hl : lv_has ls 5 [(0, .ref this), (1, .int (tw_I a1)), (2, .int (tw_I a2)), (3, .int (tw_I x3)), (4, .int (tw_I x4))]) : W p l e rmX4_longestAt s m args below meth c H locs 0 0 (MQ below (tw_Qi G sz out h) args s 0 0 (tw_F G)) (F0 m 6 ls []) := by
  obtain ⟨k, hk⟩ := tm_wl_iff.mp hk
  exact sX4_longestAt_S0 G sz hC this a1 a2 ga1 ga2 h k (.inl ((x3, x4))) out hk H locs ls gx3 gx4 hR hL hl
theorem sX4_longestAt_L52 {l : Launch} {p : Program} {e : Env} {s : State} {m : MethodId} {args : Array Value} {below : List Frame} {meth : Method} {c : Code} (G : tw_G) (sz : Nat) (hC : tw_C G p s m args meth c RX4 cX4_longestAt 5 (some .int)) (this : Nat) (a1 : Int) (a2 : Int) (ga1 : tm_rg a1) (ga2 : tm_rg a2) (h : tm_H) (x3 : Int) (x4 : Int) (gx3 : tm_rg x3) (gx4 : tm_rg x4) (out : Int) (hk : fX4_longestAt_L52 this a1 a2 h x3 x4 = some out) (H : Heap) (locs : List Loc) (ls : Array Slot) (hR : tw_Rel G sz h H) (hL : tw_L G locs) (hl : lv_has ls 5 [(0, .ref this), (1, .int (tw_I a1)), (2, .int (tw_I a2)), (3, .int (tw_I x3)), (4, .int (tw_I x4))]) : W p l e rmX4_longestAt s m args below meth c H locs 0 0 (MQ below (tw_Qi G sz out h) args s 0 0 (tw_F G)) (F0 m 52 ls []) := by
  obtain ⟨k, hk⟩ := tm_wl_iff.mp hk
  exact sX4_longestAt_S0 G sz hC this a1 a2 ga1 ga2 h k (.inr ((x3, x4))) out hk H locs ls gx3 gx4 hR hL hl
set_option maxRecDepth 100000 in
set_option maxHeartbeats 4000000 in
theorem cX4_longestAt_ok (l : Launch) (G : tw_G) (sz : Nat) (this : Nat) (a1 : Int) (a2 : Int) (ga1 : tm_rg a1) (ga2 : tm_rg a2) (h : tm_H) (out : Int) (hk : fX4_longestAt this a1 a2 h = some out) : Met l yX4_longestAt (tw_WS yX4_longestAt cX4_longestAt 5 (some .int)) rmX4_longestAt (va_Pc [.ref this, .int (tw_I a1), .int (tw_I a2)] (tw_Pre G sz h)) (tw_Qi G sz out h) 0 0 (tw_F G) := by
  refine tw_met (by decide +kernel) (Nat.le_of_ble_eq_true rfl) ?_
  intro p e s m args below meth c H ls hC hnm hR hl
  unfold fX4_longestAt at hk
  obtain ⟨hob, hk⟩ := tm_th_is hk
  have hl : lv_has ls 5 [(0, .ref this), (1, .int (tw_I a1)), (2, .int (tw_I a2))] := hl
  have hL : tw_L G [] := fun q z => by cases z
  generalize hlc : ([] : List Loc) = locs at hL ⊢
  refine lv_bipush (v := tw_I (-99)) hC.1 hC.2.1 dX4_longestAt_0 (by decide) ?_
  refine lv_istore_n (lv' := [(3, .int (tw_I ((-99)))), (0, .ref this), (1, .int (tw_I a1)), (2, .int (tw_I a2))]) hC.1 hC.2.1 dX4_longestAt_2 rfl hl (by decide) rfl (fun ls hl => ?_)
  refine lv_iconst (v := tw_I 0) hC.1 hC.2.1 dX4_longestAt_3 rfl ?_
  refine lv_istore (lv' := [(4, .int (tw_I 0)), (3, .int (tw_I ((-99)))), (0, .ref this), (1, .int (tw_I a1)), (2, .int (tw_I a2))]) hC.1 hC.2.1 dX4_longestAt_4 hl (by decide) rfl (fun ls hl => ?_)
  exact sX4_longestAt_L6 G sz hC this a1 a2 ga1 ga2 h ((-99)) 0 ((tw_rgL rfl)) ((tw_rgL rfl)) out hk H locs _ hR hL (lv_sub hl [2, 3, 4, 1, 0] rfl)
set_option maxRecDepth 100000 in
theorem kX4_longestAt {l : Launch} {p : Program} {e : Env} {R : Room} {s : State} {m : MethodId} {args : Array Value} {below : List Frame} {meth : Method} {c : Code} {H : Heap} {locs : List Loc} {cells slots : Nat} {Q : State → Prop} {cc : ByteArray} {pc nL idx : Nat} {ls : Array Slot} {rest : List Value} {G : tw_G} {h : tm_H} {own : String} {ret : Option FieldType} {α : Type} {x : α} {sz : Nat} {this : Nat} {a1 : Int} {a2 : Int} (hC : tw_C G p s m args meth c own cc nL ret) (hR : tw_Rel G sz h H) (hL : tw_L G locs) {F : Int → Option α} (hk : (fX4_longestAt this a1 a2 h).bind F = some x) (ga1 : tm_rg a1) (ga2 : tm_rg a2) (hl : tw_mL own idx yX4_longestAt) (hRm : rmX4_longestAt.frames + 1 ≤ R.frames ∧ 8 + (5 + 11) + rmX4_longestAt.locals ≤ R.locals) (hsz : ls.size = nL) (hW : (rest.map fun v => v.category).sum ≤ 8) (hf : cells + 0 ≤ R.cells ∧ slots + 0 ≤ R.slots) (hdg : decode cc pc = .ok (.invokevirtual idx, 3)) (kk : ∀ (r : Int) (H1 : Heap) (locs1 : List Loc), tw_Rel G sz h H1 → tw_L G locs1 → tm_rg r → F r = some x → W p l e R s m args below meth c H1 locs1 (cells + 0) (slots + 0) Q (F0 m (pc + 3) ls (.int (tw_I r) :: rest))) : W p l e R s m args below meth c H locs cells slots Q (F0 m pc ls (.int (tw_I a2) :: .int (tw_I a1) :: .ref this :: rest)) := by
  obtain ⟨r, hr, hF⟩ := Option.bind_eq_some_iff.mp hk
  have ob : ∀ r, fX4_longestAt this a1 a2 h = some r → tm_is h 4 this := fun r hr => by
    unfold fX4_longestAt at hr
    exact (tm_th_is hr).1
  exact tw_backi (tw_runV hC hR (cX4_longestAt_ok l G sz this a1 a2 ga1 ga2 h r hr) (n := 2) (As := [.int (tw_I a1), .int (tw_I a2)]) ⟨tw_in_TB 373 (by decide +kernel) rfl, tw_in_TB 54 (by decide +kernel) rfl, by decide +kernel⟩ (tw_in_TB 371 (by decide +kernel) rfl) (tw_in_TB 372 (by decide +kernel) rfl) hl ⟨rfl, rfl⟩ hRm (ob r hr) (T := TX4) (N := 5) rfl rfl hsz rfl hW hdg hf) hL (fun H1 locs1 a b g => kk r H1 locs1 a b g hF)
def rmX5_has : Room := { frames := 0, cells := 0, slots := 0, locals := 0 }
set_option maxRecDepth 100000 in
set_option maxHeartbeats 4000000 in
theorem cX5_has_ok (l : Launch) (G : tw_G) (sz : Nat) (this : Nat) (a1 : Int) (ga1 : tm_rg a1) (h : tm_H) (out : Int) (hk : fX5_has this a1 h = some out) : Met l yX5_has (tw_WS yX5_has cX5_has 2 (some .boolean)) rmX5_has (va_Pc [.ref this, .int (tw_I a1)] (tw_Pre G sz h)) (tw_Qi G sz out h) 0 0 (tw_F G) := by
  refine tw_met (by decide +kernel) (Nat.le_of_ble_eq_true rfl) ?_
  intro p e s m args below meth c H ls hC hnm hR hl
  unfold fX5_has at hk
  obtain ⟨hob, hk⟩ := tm_th_is hk
  have hl : lv_has ls 2 [(0, .ref this), (1, .int (tw_I a1))] := hl
  have hL : tw_L G [] := fun q z => by cases z
  generalize hlc : ([] : List Loc) = locs at hL ⊢
  refine lv_iload_n hC.1 hC.2.1 dX5_has_0 rfl (lv_at hl 1 rfl) ?_
  refine tw_zlt (tgt := 16) hC hk ga1 dX5_has_1 (by decide) (fun _ hk => ?_) (fun _ hk => ?_)
  · refine lv_iconst (v := tw_I 0) hC.1 hC.2.1 dX5_has_16 rfl ?_
    cases hk
    exact tw_zret hC hR hL rfl rfl dX5_has_17
  · refine lv_iload_n hC.1 hC.2.1 dX5_has_4 rfl (lv_at hl 1 rfl) ?_
    refine lv_aload_n hC.1 hC.2.1 dX5_has_5 rfl (lv_at hl 0 rfl) ?_
    refine tw_getI hC hR hk flX5_24 dX5_has_6 (fun v1 gv1 hk => ?_)
    refine tw_cge (tgt := 16) hC hk ga1 gv1 dX5_has_9 (by decide) (fun _ hk => ?_) (fun _ hk => ?_)
    · refine lv_iconst (v := tw_I 1) hC.1 hC.2.1 dX5_has_12 rfl ?_
      refine lv_goto (tgt := 17) hC.1 hC.2.1 dX5_has_13 (by decide) ?_
      cases hk
      exact tw_zret hC hR hL rfl rfl dX5_has_17
    · refine lv_iconst (v := tw_I 0) hC.1 hC.2.1 dX5_has_16 rfl ?_
      cases hk
      exact tw_zret hC hR hL rfl rfl dX5_has_17
set_option maxRecDepth 100000 in
theorem kX5_has {l : Launch} {p : Program} {e : Env} {R : Room} {s : State} {m : MethodId} {args : Array Value} {below : List Frame} {meth : Method} {c : Code} {H : Heap} {locs : List Loc} {cells slots : Nat} {Q : State → Prop} {cc : ByteArray} {pc nL idx : Nat} {ls : Array Slot} {rest : List Value} {G : tw_G} {h : tm_H} {own : String} {ret : Option FieldType} {α : Type} {x : α} {sz : Nat} {this : Nat} {a1 : Int} (hC : tw_C G p s m args meth c own cc nL ret) (hR : tw_Rel G sz h H) (hL : tw_L G locs) {F : Int → Option α} (hk : (fX5_has this a1 h).bind F = some x) (ga1 : tm_rg a1) (hl : tw_mL own idx yX5_has) (hRm : rmX5_has.frames + 1 ≤ R.frames ∧ 8 + (2 + 11) + rmX5_has.locals ≤ R.locals) (hsz : ls.size = nL) (hW : (rest.map fun v => v.category).sum ≤ 8) (hf : cells + 0 ≤ R.cells ∧ slots + 0 ≤ R.slots) (hdg : decode cc pc = .ok (.invokevirtual idx, 3)) (kk : ∀ (r : Int) (H1 : Heap) (locs1 : List Loc), tw_Rel G sz h H1 → tw_L G locs1 → tm_rg r → F r = some x → W p l e R s m args below meth c H1 locs1 (cells + 0) (slots + 0) Q (F0 m (pc + 3) ls (.int (tw_I r) :: rest))) : W p l e R s m args below meth c H locs cells slots Q (F0 m pc ls (.int (tw_I a1) :: .ref this :: rest)) := by
  obtain ⟨r, hr, hF⟩ := Option.bind_eq_some_iff.mp hk
  have ob : ∀ r, fX5_has this a1 h = some r → tm_is h 5 this := fun r hr => by
    unfold fX5_has at hr
    exact (tm_th_is hr).1
  exact tw_backi (tw_runV hC hR (cX5_has_ok l G sz this a1 ga1 h r hr) (n := 1) (As := [.int (tw_I a1)]) ⟨tw_in_TB 407 (by decide +kernel) rfl, tw_in_TB 57 (by decide +kernel) rfl, by decide +kernel⟩ (tw_in_TB 405 (by decide +kernel) rfl) (tw_in_TB 406 (by decide +kernel) rfl) hl ⟨rfl, rfl⟩ hRm (ob r hr) (T := TX5) (N := 4) rfl rfl hsz rfl hW hdg hf) hL (fun H1 locs1 a b g => kk r H1 locs1 a b g hF)
def rmX5_isQuiet : Room := { frames := 1, cells := 0, slots := 0, locals := 21 }
set_option maxRecDepth 100000 in
set_option maxHeartbeats 4000000 in
theorem cX5_isQuiet_ok (l : Launch) (G : tw_G) (sz : Nat) (this : Nat) (a1 : Int) (ga1 : tm_rg a1) (h : tm_H) (out : Int) (hk : fX5_isQuiet this a1 h = some out) : Met l yX5_isQuiet (tw_WS yX5_isQuiet cX5_isQuiet 2 (some .boolean)) rmX5_isQuiet (va_Pc [.ref this, .int (tw_I a1)] (tw_Pre G sz h)) (tw_Qi G sz out h) 0 0 (tw_F G) := by
  refine tw_met (by decide +kernel) (Nat.le_of_ble_eq_true rfl) ?_
  intro p e s m args below meth c H ls hC hnm hR hl
  unfold fX5_isQuiet at hk
  obtain ⟨hob, hk⟩ := tm_th_is hk
  have hl : lv_has ls 2 [(0, .ref this), (1, .int (tw_I a1))] := hl
  have hL : tw_L G [] := fun q z => by cases z
  generalize hlc : ([] : List Loc) = locs at hL ⊢
  refine lv_aload_n hC.1 hC.2.1 dX5_isQuiet_0 rfl (lv_at hl 0 rfl) ?_
  refine lv_iload_n hC.1 hC.2.1 dX5_isQuiet_1 rfl (lv_at hl 1 rfl) ?_
  refine kX5_has hC hR hL hk ga1 mlX5_28 ⟨by decide, by decide⟩ hl.1 (Nat.le_of_ble_eq_true rfl) ⟨Nat.zero_le _, Nat.zero_le _⟩ dX5_isQuiet_2 (fun v1 H locs hR hL gv1 hk => ?_)
  refine tw_zeq (tgt := 21) hC hk gv1 dX5_isQuiet_5 (by decide) (fun _ hk => ?_) (fun _ hk => ?_)
  · refine lv_iconst (v := tw_I 0) hC.1 hC.2.1 dX5_isQuiet_21 rfl ?_
    cases hk
    exact tw_zret hC hR hL rfl rfl dX5_isQuiet_22
  · refine lv_aload_n hC.1 hC.2.1 dX5_isQuiet_8 rfl (lv_at hl 0 rfl) ?_
    refine tw_getR hC hR hk flX5_20 dX5_isQuiet_9 (fun r2 hk => ?_)
    refine lv_iload_n hC.1 hC.2.1 dX5_isQuiet_12 rfl (lv_at hl 1 rfl) ?_
    refine tw_zald hC hR hk dX5_isQuiet_13 (fun v3 gv3 hk => ?_)
    refine tw_zeq (tgt := 21) hC hk gv3 dX5_isQuiet_14 (by decide) (fun _ hk => ?_) (fun _ hk => ?_)
    · refine lv_iconst (v := tw_I 0) hC.1 hC.2.1 dX5_isQuiet_21 rfl ?_
      cases hk
      exact tw_zret hC hR hL rfl rfl dX5_isQuiet_22
    · refine lv_iconst (v := tw_I 1) hC.1 hC.2.1 dX5_isQuiet_17 rfl ?_
      refine lv_goto (tgt := 22) hC.1 hC.2.1 dX5_isQuiet_18 (by decide) ?_
      cases hk
      exact tw_zret hC hR hL rfl rfl dX5_isQuiet_22
set_option maxRecDepth 100000 in
theorem kX5_isQuiet {l : Launch} {p : Program} {e : Env} {R : Room} {s : State} {m : MethodId} {args : Array Value} {below : List Frame} {meth : Method} {c : Code} {H : Heap} {locs : List Loc} {cells slots : Nat} {Q : State → Prop} {cc : ByteArray} {pc nL idx : Nat} {ls : Array Slot} {rest : List Value} {G : tw_G} {h : tm_H} {own : String} {ret : Option FieldType} {α : Type} {x : α} {sz : Nat} {this : Nat} {a1 : Int} (hC : tw_C G p s m args meth c own cc nL ret) (hR : tw_Rel G sz h H) (hL : tw_L G locs) {F : Int → Option α} (hk : (fX5_isQuiet this a1 h).bind F = some x) (ga1 : tm_rg a1) (hl : tw_mL own idx yX5_isQuiet) (hRm : rmX5_isQuiet.frames + 1 ≤ R.frames ∧ 8 + (2 + 11) + rmX5_isQuiet.locals ≤ R.locals) (hsz : ls.size = nL) (hW : (rest.map fun v => v.category).sum ≤ 8) (hf : cells + 0 ≤ R.cells ∧ slots + 0 ≤ R.slots) (hdg : decode cc pc = .ok (.invokevirtual idx, 3)) (kk : ∀ (r : Int) (H1 : Heap) (locs1 : List Loc), tw_Rel G sz h H1 → tw_L G locs1 → tm_rg r → F r = some x → W p l e R s m args below meth c H1 locs1 (cells + 0) (slots + 0) Q (F0 m (pc + 3) ls (.int (tw_I r) :: rest))) : W p l e R s m args below meth c H locs cells slots Q (F0 m pc ls (.int (tw_I a1) :: .ref this :: rest)) := by
  obtain ⟨r, hr, hF⟩ := Option.bind_eq_some_iff.mp hk
  have ob : ∀ r, fX5_isQuiet this a1 h = some r → tm_is h 5 this := fun r hr => by
    unfold fX5_isQuiet at hr
    exact (tm_th_is hr).1
  exact tw_backi (tw_runV hC hR (cX5_isQuiet_ok l G sz this a1 ga1 h r hr) (n := 1) (As := [.int (tw_I a1)]) ⟨tw_in_TB 411 (by decide +kernel) rfl, tw_in_TB 57 (by decide +kernel) rfl, by decide +kernel⟩ (tw_in_TB 409 (by decide +kernel) rfl) (tw_in_TB 410 (by decide +kernel) rfl) hl ⟨rfl, rfl⟩ hRm (ob r hr) (T := TX5) (N := 4) rfl rfl hsz rfl hW hdg hf) hL (fun H1 locs1 a b g => kk r H1 locs1 a b g hF)
def rmX3_note : Room := { frames := 2, cells := 0, slots := 0, locals := 42 }
set_option maxRecDepth 100000 in
set_option maxHeartbeats 4000000 in
theorem cX3_note_ok (l : Launch) (G : tw_G) (sz : Nat) (this : Nat) (a1 : Nat) (a2 : Int) (a3 : Int) (a4 : Int) (ga2 : tm_rg a2) (ga3 : tm_rg a3) (ga4 : tm_rg a4) (h : tm_H) (out : tm_H) (hk : fX3_note this a1 a2 a3 a4 h = some out) : Met l yX3_note (tw_WS yX3_note cX3_note 5 none) rmX3_note (va_Pc [.ref this, .ref a1, .int (tw_I a2), .int (tw_I a3), .int (tw_I a4)] (tw_Pre G sz h)) (tw_Qv G sz out) 0 0 (tw_F G) := by
  refine tw_met (by decide +kernel) (Nat.le_of_ble_eq_true rfl) ?_
  intro p e s m args below meth c H ls hC hnm hR hl
  unfold fX3_note at hk
  obtain ⟨hob, hk⟩ := tm_th_is hk
  have hl : lv_has ls 5 [(0, .ref this), (1, .ref a1), (2, .int (tw_I a2)), (3, .int (tw_I a3)), (4, .int (tw_I a4))] := hl
  have hL : tw_L G [] := fun q z => by cases z
  generalize hlc : ([] : List Loc) = locs at hL ⊢
  refine lv_aload_n hC.1 hC.2.1 dX3_note_0 rfl (lv_at hl 1 rfl) ?_
  refine tw_getR hC hR hk flX3_67 dX3_note_1 (fun r1 hk => ?_)
  refine lv_iload_n hC.1 hC.2.1 dX3_note_4 rfl (lv_at hl 2 rfl) ?_
  refine kX5_has hC hR hL hk ga2 mlX3_75 ⟨by decide, by decide⟩ hl.1 (Nat.le_of_ble_eq_true rfl) ⟨Nat.zero_le _, Nat.zero_le _⟩ dX3_note_5 (fun v2 H locs hR hL gv2 hk => ?_)
  refine tw_zne (tgt := 12) hC hk gv2 dX3_note_8 (by decide) (fun _ hk => ?_) (fun _ hk => ?_)
  · cases hk
    exact tw_vret hC hR hL rfl dX3_note_11
  · refine lv_aload_n hC.1 hC.2.1 dX3_note_12 rfl (lv_at hl 0 rfl) ?_
    refine tw_getR hC hR hk flX3_26 dX3_note_13 (fun r3 hk => ?_)
    refine lv_iload_n hC.1 hC.2.1 dX3_note_16 rfl (lv_at hl 2 rfl) ?_
    refine lv_dup2_11 hC.1 hC.2.1 dX3_note_17 rfl rfl ?_
    refine tw_iald hC hR hk dX3_note_18 (fun v4 gv4 hk => ?_)
    refine lv_iconst (v := tw_I 1) hC.1 hC.2.1 dX3_note_19 rfl ?_
    refine tw_iadd hC dX3_note_20 ?_
    refine tw_iast hC hR hL ((tm_wr_rg _)) hk dX3_note_21 (fun h5 H locs hR hL hk => ?_)
    refine lv_aload_n hC.1 hC.2.1 dX3_note_22 rfl (lv_at hl 0 rfl) ?_
    refine lv_dup hC.1 hC.2.1 dX3_note_23 rfl ?_
    refine tw_getI hC hR hk flX3_43 dX3_note_24 (fun v6 gv6 hk => ?_)
    refine lv_iconst (v := tw_I 1) hC.1 hC.2.1 dX3_note_27 rfl ?_
    refine tw_iadd hC dX3_note_28 ?_
    refine tw_putI hC hR hL ((tm_wr_rg _)) hk fpX3_43 dX3_note_29 (fun h7 H locs hR hL hk => ?_)
    refine lv_aload_n hC.1 hC.2.1 dX3_note_32 rfl (lv_at hl 0 rfl) ?_
    refine tw_getR hC hR hk flX3_23 dX3_note_33 (fun r8 hk => ?_)
    refine lv_iload_n hC.1 hC.2.1 dX3_note_36 rfl (lv_at hl 2 rfl) ?_
    refine tw_aald hC hR hk dX3_note_37 (fun r9 hk => ?_)
    refine lv_iload_n hC.1 hC.2.1 dX3_note_38 rfl (lv_at hl 3 rfl) ?_
    refine tw_iald hC hR hk dX3_note_39 (fun v10 gv10 hk => ?_)
    refine lv_bipush (v := tw_I (-99)) hC.1 hC.2.1 dX3_note_40 (by decide) ?_
    refine tw_ceq (tgt := 46) hC hk gv10 ((tw_rgL rfl)) dX3_note_42 (by decide) (fun _ hk => ?_) (fun _ hk => ?_)
    · refine lv_aload_n hC.1 hC.2.1 dX3_note_46 rfl (lv_at hl 0 rfl) ?_
      refine tw_getR hC hR hk flX3_23 dX3_note_47 (fun r11 hk => ?_)
      refine lv_iload_n hC.1 hC.2.1 dX3_note_50 rfl (lv_at hl 2 rfl) ?_
      refine tw_aald hC hR hk dX3_note_51 (fun r12 hk => ?_)
      refine lv_iload_n hC.1 hC.2.1 dX3_note_52 rfl (lv_at hl 3 rfl) ?_
      refine lv_iload hC.1 hC.2.1 dX3_note_53 (lv_at hl 4 rfl) ?_
      refine tw_iast hC hR hL ga4 hk dX3_note_55 (fun h13 H locs hR hL hk => ?_)
      refine lv_aload_n hC.1 hC.2.1 dX3_note_56 rfl (lv_at hl 1 rfl) ?_
      refine tw_getR hC hR hk flX3_67 dX3_note_57 (fun r14 hk => ?_)
      refine lv_iload_n hC.1 hC.2.1 dX3_note_60 rfl (lv_at hl 2 rfl) ?_
      refine kX5_isQuiet hC hR hL hk ga2 mlX3_79 ⟨by decide, by decide⟩ hl.1 (Nat.le_of_ble_eq_true rfl) ⟨Nat.zero_le _, Nat.zero_le _⟩ dX3_note_61 (fun v15 H locs hR hL gv15 hk => ?_)
      refine tw_zne (tgt := 117) hC hk gv15 dX3_note_64 (by decide) (fun _ hk => ?_) (fun _ hk => ?_)
      · refine lv_aload_n hC.1 hC.2.1 dX3_note_67 rfl (lv_at hl 0 rfl) ?_
        refine tw_getI hC hR hk flX3_39 dX3_note_68 (fun v16 gv16 hk => ?_)
        refine lv_bipush (v := tw_I 78) hC.1 hC.2.1 dX3_note_71 (by decide) ?_
        refine tw_cge (tgt := 117) hC hk gv16 ((tw_rgL rfl)) dX3_note_73 (by decide) (fun _ hk => ?_) (fun _ hk => ?_)
        · refine lv_aload_n hC.1 hC.2.1 dX3_note_76 rfl (lv_at hl 0 rfl) ?_
          refine tw_getR hC hR hk flX3_30 dX3_note_77 (fun r17 hk => ?_)
          refine lv_aload_n hC.1 hC.2.1 dX3_note_80 rfl (lv_at hl 0 rfl) ?_
          refine tw_getI hC hR hk flX3_39 dX3_note_81 (fun v18 gv18 hk => ?_)
          refine lv_iload_n hC.1 hC.2.1 dX3_note_84 rfl (lv_at hl 3 rfl) ?_
          refine tw_iast hC hR hL ga3 hk dX3_note_85 (fun h19 H locs hR hL hk => ?_)
          refine lv_aload_n hC.1 hC.2.1 dX3_note_86 rfl (lv_at hl 0 rfl) ?_
          refine tw_getR hC hR hk flX3_33 dX3_note_87 (fun r20 hk => ?_)
          refine lv_aload_n hC.1 hC.2.1 dX3_note_90 rfl (lv_at hl 0 rfl) ?_
          refine tw_getI hC hR hk flX3_39 dX3_note_91 (fun v21 gv21 hk => ?_)
          refine lv_iload hC.1 hC.2.1 dX3_note_94 (lv_at hl 4 rfl) ?_
          refine tw_iast hC hR hL ga4 hk dX3_note_96 (fun h22 H locs hR hL hk => ?_)
          refine lv_aload_n hC.1 hC.2.1 dX3_note_97 rfl (lv_at hl 0 rfl) ?_
          refine tw_getR hC hR hk flX3_36 dX3_note_98 (fun r23 hk => ?_)
          refine lv_aload_n hC.1 hC.2.1 dX3_note_101 rfl (lv_at hl 0 rfl) ?_
          refine tw_getI hC hR hk flX3_39 dX3_note_102 (fun v24 gv24 hk => ?_)
          refine lv_iload_n hC.1 hC.2.1 dX3_note_105 rfl (lv_at hl 2 rfl) ?_
          refine tw_iast hC hR hL ga2 hk dX3_note_106 (fun h25 H locs hR hL hk => ?_)
          refine lv_aload_n hC.1 hC.2.1 dX3_note_107 rfl (lv_at hl 0 rfl) ?_
          refine lv_dup hC.1 hC.2.1 dX3_note_108 rfl ?_
          refine tw_getI hC hR hk flX3_39 dX3_note_109 (fun v26 gv26 hk => ?_)
          refine lv_iconst (v := tw_I 1) hC.1 hC.2.1 dX3_note_112 rfl ?_
          refine tw_iadd hC dX3_note_113 ?_
          refine tw_putI hC hR hL ((tm_wr_rg _)) hk fpX3_39 dX3_note_114 (fun h27 H locs hR hL hk => ?_)
          cases hk
          exact tw_vret hC hR hL rfl dX3_note_117
        · cases hk
          exact tw_vret hC hR hL rfl dX3_note_117
      · cases hk
        exact tw_vret hC hR hL rfl dX3_note_117
    · cases hk
      exact tw_vret hC hR hL rfl dX3_note_45
set_option maxRecDepth 100000 in
theorem kX3_note {l : Launch} {p : Program} {e : Env} {R : Room} {s : State} {m : MethodId} {args : Array Value} {below : List Frame} {meth : Method} {c : Code} {H : Heap} {locs : List Loc} {cells slots : Nat} {Q : State → Prop} {cc : ByteArray} {pc nL idx : Nat} {ls : Array Slot} {rest : List Value} {G : tw_G} {h : tm_H} {own : String} {ret : Option FieldType} {α : Type} {x : α} {sz : Nat} {this : Nat} {a1 : Nat} {a2 : Int} {a3 : Int} {a4 : Int} (hC : tw_C G p s m args meth c own cc nL ret) (hR : tw_Rel G sz h H) (hL : tw_L G locs) {F : tm_H → Option α} (hk : (fX3_note this a1 a2 a3 a4 h).bind F = some x) (ga2 : tm_rg a2) (ga3 : tm_rg a3) (ga4 : tm_rg a4) (hl : tw_mL own idx yX3_note) (hRm : rmX3_note.frames + 1 ≤ R.frames ∧ 8 + (5 + 11) + rmX3_note.locals ≤ R.locals) (hsz : ls.size = nL) (hW : (rest.map fun v => v.category).sum ≤ 8) (hf : cells + 0 ≤ R.cells ∧ slots + 0 ≤ R.slots) (hdg : decode cc pc = .ok (.invokevirtual idx, 3)) (kk : ∀ (h1 : tm_H) (H1 : Heap) (locs1 : List Loc), tw_Rel G sz h1 H1 → tw_L G locs1 → F h1 = some x → W p l e R s m args below meth c H1 locs1 (cells + 0) (slots + 0) Q (F0 m (pc + 3) ls (rest))) : W p l e R s m args below meth c H locs cells slots Q (F0 m pc ls (.int (tw_I a4) :: .int (tw_I a3) :: .int (tw_I a2) :: .ref a1 :: .ref this :: rest)) := by
  obtain ⟨r, hr, hF⟩ := Option.bind_eq_some_iff.mp hk
  have ob : ∀ r, fX3_note this a1 a2 a3 a4 h = some r → tm_is h 3 this := fun r hr => by
    unfold fX3_note at hr
    exact (tm_th_is hr).1
  exact tw_backv (tw_runV hC hR (cX3_note_ok l G sz this a1 a2 a3 a4 ga2 ga3 ga4 h r hr) (n := 4) (As := [.ref a1, .int (tw_I a2), .int (tw_I a3), .int (tw_I a4)]) ⟨tw_in_TB 403 (by decide +kernel) rfl, tw_in_TB 61 (by decide +kernel) rfl, by decide +kernel⟩ (tw_in_TB 402 (by decide +kernel) rfl) (tw_in_TB 4 (by decide +kernel) rfl) hl ⟨rfl, rfl⟩ hRm (ob r hr) (T := TX3) (N := 9) rfl rfl hsz rfl hW hdg hf) hL (fun H1 locs1 a b => kk r H1 locs1 a b hF)
def rmX3_readChapter : Room := { frames := 3, cells := 0, slots := 0, locals := 71 }
set_option maxRecDepth 100000 in
set_option maxHeartbeats 4000000 in
theorem sX3_readChapter_S0 {l : Launch} {p : Program} {e : Env} {s : State} {m : MethodId} {args : Array Value} {below : List Frame} {meth : Method} {c : Code} (G : tw_G) (sz : Nat) (hC : tw_C G p s m args meth c RX3 cX3_readChapter 7 none) (this : Nat) (a1 : Nat) (a2 : Int) (ga2 : tm_rg a2) : ∀ (k : Nat) (st : (Int × Int × Int × Int × tm_H) ⊕ (Int × Int × Int × Int × tm_H) ⊕ (Int × Int × Int × Int × Nat × Int × Int × tm_H)) (out : tm_H), tm_wit (fX3_readChapter_S0 this a1 a2) k st = some out → match st with
    | .inl ((x3, x4, x5, x6, h)) => ∀ (H : Heap) (locs : List Loc) (ls : Array Slot), tm_rg x3 → tm_rg x4 → tm_rg x5 → tm_rg x6 → tw_Rel G sz h H → tw_L G locs → lv_has ls 7 [(0, .ref this), (1, .ref a1), (2, .int (tw_I a2)), (3, .int (tw_I x3)), (4, .int (tw_I x4)), (5, .int (tw_I x5)), (6, .int (tw_I x6))] → W p l e rmX3_readChapter s m args below meth c H locs 0 0 (MQ below (tw_Qv G sz out) args s 0 0 (tw_F G)) (F0 m 12 ls [])
    | .inr (.inl ((x3, x4, x5, x6, h))) => ∀ (H : Heap) (locs : List Loc) (ls : Array Slot), tm_rg x3 → tm_rg x4 → tm_rg x5 → tm_rg x6 → tw_Rel G sz h H → tw_L G locs → lv_has ls 7 [(0, .ref this), (1, .ref a1), (2, .int (tw_I a2)), (3, .int (tw_I x3)), (4, .int (tw_I x4)), (5, .int (tw_I x5)), (6, .int (tw_I x6))] → W p l e rmX3_readChapter s m args below meth c H locs 0 0 (MQ below (tw_Qv G sz out) args s 0 0 (tw_F G)) (F0 m 66 ls [])
    | .inr (.inr ((x3, x4, x5, x6, s0, s1, s2, h))) => ∀ (H : Heap) (locs : List Loc) (ls : Array Slot), tm_rg x3 → tm_rg x4 → tm_rg x5 → tm_rg x6 → tm_rg s1 → tm_rg s2 → tw_Rel G sz h H → tw_L G locs → lv_has ls 7 [(0, .ref this), (1, .ref a1), (2, .int (tw_I a2)), (3, .int (tw_I x3)), (4, .int (tw_I x4)), (5, .int (tw_I x5)), (6, .int (tw_I x6))] → W p l e rmX3_readChapter s m args below meth c H locs 0 0 (MQ below (tw_Qv G sz out) args s 0 0 (tw_F G)) (F0 m 100 ls [.int (tw_I s2), .int (tw_I s1), .ref s0]) := by
  intro k
  induction k with
  | zero =>
    intro st out hk
    exact absurd hk (by unfold tm_wit; exact fun z => by cases z)
  | succ k ih =>
    intro st out hk
    obtain ⟨X, hk, hf⟩ := tm_wit_succ hk
    obtain ⟨x3, x4, x5, x6, h⟩ | ⟨x3, x4, x5, x6, h⟩ | ⟨x3, x4, x5, x6, s0, s1, s2, h⟩ := st
    · intro H locs ls gx3 gx4 gx5 gx6 hR hL hl
      dsimp only [fX3_readChapter_S0] at hk
      refine lv_iload hC.1 hC.2.1 dX3_readChapter_12 (lv_at hl 6 rfl) ?_
      refine lv_aload_n hC.1 hC.2.1 dX3_readChapter_14 rfl (lv_at hl 1 rfl) ?_
      refine tw_getR hC hR hk flX3_53 dX3_readChapter_15 (fun r1 hk => ?_)
      refine lv_iload_n hC.1 hC.2.1 dX3_readChapter_18 rfl (lv_at hl 2 rfl) ?_
      refine kX0_lengthOf hC hR hL hk ga2 mlX3_59 ⟨by decide, by decide⟩ hl.1 (Nat.le_of_ble_eq_true rfl) ⟨Nat.zero_le _, Nat.zero_le _⟩ dX3_readChapter_19 (fun v2 H locs hR hL gv2 hk => ?_)
      refine tw_cge (tgt := 107) hC hk gx6 gv2 dX3_readChapter_22 (by decide) (fun _ hk => ?_) (fun _ hk => ?_)
      · refine lv_iload hC.1 hC.2.1 dX3_readChapter_25 (lv_at hl 6 rfl) ?_
        refine lv_iload hC.1 hC.2.1 dX3_readChapter_27 (lv_at hl 5 rfl) ?_
        refine tw_clt (tgt := 66) hC hk gx6 gx5 dX3_readChapter_29 (by decide) (fun _ hk => ?_) (fun _ hk => ?_)
        · cases hk
          exact ih _ out hf H locs _ gx3 gx4 gx5 gx6 hR hL (lv_sub hl [0, 1, 2, 3, 4, 5, 6] rfl)
        · refine lv_aload_n hC.1 hC.2.1 dX3_readChapter_32 rfl (lv_at hl 1 rfl) ?_
          refine lv_iload_n hC.1 hC.2.1 dX3_readChapter_33 rfl (lv_at hl 2 rfl) ?_
          refine lv_iload hC.1 hC.2.1 dX3_readChapter_34 (lv_at hl 6 rfl) ?_
          refine kX4_longestAt hC hR hL hk ga2 gx6 mlX3_63 ⟨by decide, by decide⟩ hl.1 (Nat.le_of_ble_eq_true rfl) ⟨Nat.zero_le _, Nat.zero_le _⟩ dX3_readChapter_36 (fun v3 H locs hR hL gv3 hk => ?_)
          refine lv_istore_n (lv' := [(3, .int (tw_I v3)), (0, .ref this), (1, .ref a1), (2, .int (tw_I a2)), (4, .int (tw_I x4)), (5, .int (tw_I x5)), (6, .int (tw_I x6))]) hC.1 hC.2.1 dX3_readChapter_39 rfl hl (by decide) rfl (fun ls hl => ?_)
          refine lv_iload hC.1 hC.2.1 dX3_readChapter_40 (lv_at hl 6 rfl) ?_
          refine lv_istore (lv' := [(4, .int (tw_I x6)), (3, .int (tw_I v3)), (0, .ref this), (1, .ref a1), (2, .int (tw_I a2)), (5, .int (tw_I x5)), (6, .int (tw_I x6))]) hC.1 hC.2.1 dX3_readChapter_42 hl (by decide) rfl (fun ls hl => ?_)
          refine lv_iload hC.1 hC.2.1 dX3_readChapter_44 (lv_at hl 6 rfl) ?_
          refine lv_aload_n hC.1 hC.2.1 dX3_readChapter_46 rfl (lv_at hl 3 rfl) ?_
          refine tw_getR hC hR hk flX3_67 dX3_readChapter_47 (fun r4 hk => ?_)
          refine lv_iload_n hC.1 hC.2.1 dX3_readChapter_50 rfl (lv_at hl 1 rfl) ?_
          refine kX5_lengthOf hC hR hL hk gv3 mlX3_70 ⟨by decide, by decide⟩ hl.1 (Nat.le_of_ble_eq_true rfl) ⟨Nat.zero_le _, Nat.zero_le _⟩ dX3_readChapter_51 (fun v5 H locs hR hL gv5 hk => ?_)
          refine tw_iadd hC dX3_readChapter_54 ?_
          refine lv_istore (lv' := [(5, .int (tw_I (tm_wr (x6 + v5)))), (4, .int (tw_I x6)), (3, .int (tw_I v3)), (0, .ref this), (1, .ref a1), (2, .int (tw_I a2)), (6, .int (tw_I x6))]) hC.1 hC.2.1 dX3_readChapter_55 hl (by decide) rfl (fun ls hl => ?_)
          refine lv_aload_n hC.1 hC.2.1 dX3_readChapter_57 rfl (lv_at hl 3 rfl) ?_
          refine lv_aload_n hC.1 hC.2.1 dX3_readChapter_58 rfl (lv_at hl 4 rfl) ?_
          refine lv_iload_n hC.1 hC.2.1 dX3_readChapter_59 rfl (lv_at hl 2 rfl) ?_
          refine lv_iload_n hC.1 hC.2.1 dX3_readChapter_60 rfl (lv_at hl 5 rfl) ?_
          refine lv_iload hC.1 hC.2.1 dX3_readChapter_61 (lv_at hl 6 rfl) ?_
          refine kX3_note hC hR hL hk gv3 ga2 gx6 mlX3_71 ⟨by decide, by decide⟩ hl.1 (Nat.le_of_ble_eq_true rfl) ⟨Nat.zero_le _, Nat.zero_le _⟩ dX3_readChapter_63 (fun h6 H locs hR hL hk => ?_)
          cases hk
          exact ih _ out hf H locs _ gv3 gx6 ((tm_wr_rg _)) gx6 hR hL (lv_sub hl [3, 4, 5, 2, 1, 0, 6] rfl)
      · cases hk
        cases hf
        exact tw_vret hC hR hL rfl dX3_readChapter_107
    · intro H locs ls gx3 gx4 gx5 gx6 hR hL hl
      dsimp only [fX3_readChapter_S0] at hk
      refine lv_aload_n hC.1 hC.2.1 dX3_readChapter_66 rfl (lv_at hl 0 rfl) ?_
      refine tw_getR hC hR hk flX3_15 dX3_readChapter_67 (fun r7 hk => ?_)
      refine lv_iload_n hC.1 hC.2.1 dX3_readChapter_70 rfl (lv_at hl 2 rfl) ?_
      refine tw_aald hC hR hk dX3_readChapter_71 (fun r8 hk => ?_)
      refine lv_iload hC.1 hC.2.1 dX3_readChapter_72 (lv_at hl 6 rfl) ?_
      refine lv_iload_n hC.1 hC.2.1 dX3_readChapter_74 rfl (lv_at hl 3 rfl) ?_
      refine tw_iast hC hR hL gx3 hk dX3_readChapter_75 (fun h9 H locs hR hL hk => ?_)
      refine lv_aload_n hC.1 hC.2.1 dX3_readChapter_76 rfl (lv_at hl 0 rfl) ?_
      refine tw_getR hC hR hk flX3_20 dX3_readChapter_77 (fun r10 hk => ?_)
      refine lv_iload_n hC.1 hC.2.1 dX3_readChapter_80 rfl (lv_at hl 2 rfl) ?_
      refine tw_aald hC hR hk dX3_readChapter_81 (fun r11 hk => ?_)
      refine lv_iload hC.1 hC.2.1 dX3_readChapter_82 (lv_at hl 6 rfl) ?_
      refine lv_iload_n hC.1 hC.2.1 dX3_readChapter_84 rfl (lv_at hl 3 rfl) ?_
      refine lv_bipush (v := tw_I (-99)) hC.1 hC.2.1 dX3_readChapter_85 (by decide) ?_
      refine tw_cne (tgt := 95) hC hk gx3 ((tw_rgL rfl)) dX3_readChapter_87 (by decide) (fun _ hk => ?_) (fun _ hk => ?_)
      · refine lv_bipush (v := tw_I (-99)) hC.1 hC.2.1 dX3_readChapter_90 (by decide) ?_
        refine lv_goto (tgt := 100) hC.1 hC.2.1 dX3_readChapter_92 (by decide) ?_
        cases hk
        exact ih _ out hf H locs _ gx3 gx4 gx5 gx6 gx6 ((tw_rgL rfl)) hR hL (lv_sub hl [0, 1, 2, 3, 4, 5, 6] rfl)
      · refine lv_iload hC.1 hC.2.1 dX3_readChapter_95 (lv_at hl 6 rfl) ?_
        refine lv_iload hC.1 hC.2.1 dX3_readChapter_97 (lv_at hl 4 rfl) ?_
        refine tw_isub hC dX3_readChapter_99 ?_
        cases hk
        exact ih _ out hf H locs _ gx3 gx4 gx5 gx6 gx6 ((tm_wr_rg _)) hR hL (lv_sub hl [0, 1, 2, 3, 4, 5, 6] rfl)
    · intro H locs ls gx3 gx4 gx5 gx6 gs1 gs2 hR hL hl
      dsimp only [fX3_readChapter_S0] at hk
      refine tw_iast hC hR hL gs2 hk dX3_readChapter_100 (fun h12 H locs hR hL hk => ?_)
      refine tw_iinc (lv' := [(6, .int (tw_I (tm_wr (x6 + 1)))), (0, .ref this), (1, .ref a1), (2, .int (tw_I a2)), (3, .int (tw_I x3)), (4, .int (tw_I x4)), (5, .int (tw_I x5))]) hC dX3_readChapter_101 hl (k := 6) rfl (by decide) rfl (fun ls hl => ?_)
      refine lv_goto (tgt := 12) hC.1 hC.2.1 dX3_readChapter_104 (by decide) ?_
      cases hk
      exact ih _ out hf H locs _ gx3 gx4 gx5 ((tm_wr_rg _)) hR hL (lv_sub hl [1, 2, 3, 4, 5, 6, 0] rfl)
theorem sX3_readChapter_L12 {l : Launch} {p : Program} {e : Env} {s : State} {m : MethodId} {args : Array Value} {below : List Frame} {meth : Method} {c : Code} (G : tw_G) (sz : Nat) (hC : tw_C G p s m args meth c RX3 cX3_readChapter 7 none) (this : Nat) (a1 : Nat) (a2 : Int) (ga2 : tm_rg a2) (x3 : Int) (x4 : Int) (x5 : Int) (x6 : Int) (h : tm_H) (gx3 : tm_rg x3) (gx4 : tm_rg x4) (gx5 : tm_rg x5) (gx6 : tm_rg x6) (out : tm_H) (hk : fX3_readChapter_L12 this a1 a2 x3 x4 x5 x6 h = some out) (H : Heap) (locs : List Loc) (ls : Array Slot) (hR : tw_Rel G sz h H) (hL : tw_L G locs) (hl : lv_has ls 7 [(0, .ref this), (1, .ref a1), (2, .int (tw_I a2)), (3, .int (tw_I x3)), (4, .int (tw_I x4)), (5, .int (tw_I x5)), (6, .int (tw_I x6))]) : W p l e rmX3_readChapter s m args below meth c H locs 0 0 (MQ below (tw_Qv G sz out) args s 0 0 (tw_F G)) (F0 m 12 ls []) := by
  obtain ⟨k, hk⟩ := tm_wl_iff.mp hk
  exact sX3_readChapter_S0 G sz hC this a1 a2 ga2 k (.inl ((x3, x4, x5, x6, h))) out hk H locs ls gx3 gx4 gx5 gx6 hR hL hl
theorem sX3_readChapter_L66 {l : Launch} {p : Program} {e : Env} {s : State} {m : MethodId} {args : Array Value} {below : List Frame} {meth : Method} {c : Code} (G : tw_G) (sz : Nat) (hC : tw_C G p s m args meth c RX3 cX3_readChapter 7 none) (this : Nat) (a1 : Nat) (a2 : Int) (ga2 : tm_rg a2) (x3 : Int) (x4 : Int) (x5 : Int) (x6 : Int) (h : tm_H) (gx3 : tm_rg x3) (gx4 : tm_rg x4) (gx5 : tm_rg x5) (gx6 : tm_rg x6) (out : tm_H) (hk : fX3_readChapter_L66 this a1 a2 x3 x4 x5 x6 h = some out) (H : Heap) (locs : List Loc) (ls : Array Slot) (hR : tw_Rel G sz h H) (hL : tw_L G locs) (hl : lv_has ls 7 [(0, .ref this), (1, .ref a1), (2, .int (tw_I a2)), (3, .int (tw_I x3)), (4, .int (tw_I x4)), (5, .int (tw_I x5)), (6, .int (tw_I x6))]) : W p l e rmX3_readChapter s m args below meth c H locs 0 0 (MQ below (tw_Qv G sz out) args s 0 0 (tw_F G)) (F0 m 66 ls []) := by
  obtain ⟨k, hk⟩ := tm_wl_iff.mp hk
  exact sX3_readChapter_S0 G sz hC this a1 a2 ga2 k (.inr (.inl ((x3, x4, x5, x6, h)))) out hk H locs ls gx3 gx4 gx5 gx6 hR hL hl
theorem sX3_readChapter_L100 {l : Launch} {p : Program} {e : Env} {s : State} {m : MethodId} {args : Array Value} {below : List Frame} {meth : Method} {c : Code} (G : tw_G) (sz : Nat) (hC : tw_C G p s m args meth c RX3 cX3_readChapter 7 none) (this : Nat) (a1 : Nat) (a2 : Int) (ga2 : tm_rg a2) (x3 : Int) (x4 : Int) (x5 : Int) (x6 : Int) (s0 : Nat) (s1 : Int) (s2 : Int) (h : tm_H) (gx3 : tm_rg x3) (gx4 : tm_rg x4) (gx5 : tm_rg x5) (gx6 : tm_rg x6) (gs1 : tm_rg s1) (gs2 : tm_rg s2) (out : tm_H) (hk : fX3_readChapter_L100 this a1 a2 x3 x4 x5 x6 s0 s1 s2 h = some out) (H : Heap) (locs : List Loc) (ls : Array Slot) (hR : tw_Rel G sz h H) (hL : tw_L G locs) (hl : lv_has ls 7 [(0, .ref this), (1, .ref a1), (2, .int (tw_I a2)), (3, .int (tw_I x3)), (4, .int (tw_I x4)), (5, .int (tw_I x5)), (6, .int (tw_I x6))]) : W p l e rmX3_readChapter s m args below meth c H locs 0 0 (MQ below (tw_Qv G sz out) args s 0 0 (tw_F G)) (F0 m 100 ls [.int (tw_I s2), .int (tw_I s1), .ref s0]) := by
  obtain ⟨k, hk⟩ := tm_wl_iff.mp hk
  exact sX3_readChapter_S0 G sz hC this a1 a2 ga2 k (.inr (.inr ((x3, x4, x5, x6, s0, s1, s2, h)))) out hk H locs ls gx3 gx4 gx5 gx6 gs1 gs2 hR hL hl
set_option maxRecDepth 100000 in
set_option maxHeartbeats 4000000 in
theorem cX3_readChapter_ok (l : Launch) (G : tw_G) (sz : Nat) (this : Nat) (a1 : Nat) (a2 : Int) (ga2 : tm_rg a2) (h : tm_H) (out : tm_H) (hk : fX3_readChapter this a1 a2 h = some out) : Met l yX3_readChapter (tw_WS yX3_readChapter cX3_readChapter 7 none) rmX3_readChapter (va_Pc [.ref this, .ref a1, .int (tw_I a2)] (tw_Pre G sz h)) (tw_Qv G sz out) 0 0 (tw_F G) := by
  refine tw_met (by decide +kernel) (Nat.le_of_ble_eq_true rfl) ?_
  intro p e s m args below meth c H ls hC hnm hR hl
  unfold fX3_readChapter at hk
  obtain ⟨hob, hk⟩ := tm_th_is hk
  have hl : lv_has ls 7 [(0, .ref this), (1, .ref a1), (2, .int (tw_I a2))] := hl
  have hL : tw_L G [] := fun q z => by cases z
  generalize hlc : ([] : List Loc) = locs at hL ⊢
  refine lv_bipush (v := tw_I (-99)) hC.1 hC.2.1 dX3_readChapter_0 (by decide) ?_
  refine lv_istore_n (lv' := [(3, .int (tw_I ((-99)))), (0, .ref this), (1, .ref a1), (2, .int (tw_I a2))]) hC.1 hC.2.1 dX3_readChapter_2 rfl hl (by decide) rfl (fun ls hl => ?_)
  refine lv_iconst (v := tw_I 0) hC.1 hC.2.1 dX3_readChapter_3 rfl ?_
  refine lv_istore (lv' := [(4, .int (tw_I 0)), (3, .int (tw_I ((-99)))), (0, .ref this), (1, .ref a1), (2, .int (tw_I a2))]) hC.1 hC.2.1 dX3_readChapter_4 hl (by decide) rfl (fun ls hl => ?_)
  refine lv_iconst (v := tw_I 0) hC.1 hC.2.1 dX3_readChapter_6 rfl ?_
  refine lv_istore (lv' := [(5, .int (tw_I 0)), (4, .int (tw_I 0)), (3, .int (tw_I ((-99)))), (0, .ref this), (1, .ref a1), (2, .int (tw_I a2))]) hC.1 hC.2.1 dX3_readChapter_7 hl (by decide) rfl (fun ls hl => ?_)
  refine lv_iconst (v := tw_I 0) hC.1 hC.2.1 dX3_readChapter_9 rfl ?_
  refine lv_istore (lv' := [(6, .int (tw_I 0)), (5, .int (tw_I 0)), (4, .int (tw_I 0)), (3, .int (tw_I ((-99)))), (0, .ref this), (1, .ref a1), (2, .int (tw_I a2))]) hC.1 hC.2.1 dX3_readChapter_10 hl (by decide) rfl (fun ls hl => ?_)
  exact sX3_readChapter_L12 G sz hC this a1 a2 ga2 ((-99)) 0 0 0 h ((tw_rgL rfl)) ((tw_rgL rfl)) ((tw_rgL rfl)) ((tw_rgL rfl)) out hk H locs _ hR hL (lv_sub hl [4, 5, 6, 3, 2, 1, 0] rfl)
set_option maxRecDepth 100000 in
theorem kX3_readChapter {l : Launch} {p : Program} {e : Env} {R : Room} {s : State} {m : MethodId} {args : Array Value} {below : List Frame} {meth : Method} {c : Code} {H : Heap} {locs : List Loc} {cells slots : Nat} {Q : State → Prop} {cc : ByteArray} {pc nL idx : Nat} {ls : Array Slot} {rest : List Value} {G : tw_G} {h : tm_H} {own : String} {ret : Option FieldType} {α : Type} {x : α} {sz : Nat} {this : Nat} {a1 : Nat} {a2 : Int} (hC : tw_C G p s m args meth c own cc nL ret) (hR : tw_Rel G sz h H) (hL : tw_L G locs) {F : tm_H → Option α} (hk : (fX3_readChapter this a1 a2 h).bind F = some x) (ga2 : tm_rg a2) (hl : tw_mL own idx yX3_readChapter) (hRm : rmX3_readChapter.frames + 1 ≤ R.frames ∧ 8 + (7 + 11) + rmX3_readChapter.locals ≤ R.locals) (hsz : ls.size = nL) (hW : (rest.map fun v => v.category).sum ≤ 8) (hf : cells + 0 ≤ R.cells ∧ slots + 0 ≤ R.slots) (hdg : decode cc pc = .ok (.invokevirtual idx, 3)) (kk : ∀ (h1 : tm_H) (H1 : Heap) (locs1 : List Loc), tw_Rel G sz h1 H1 → tw_L G locs1 → F h1 = some x → W p l e R s m args below meth c H1 locs1 (cells + 0) (slots + 0) Q (F0 m (pc + 3) ls (rest))) : W p l e R s m args below meth c H locs cells slots Q (F0 m pc ls (.int (tw_I a2) :: .ref a1 :: .ref this :: rest)) := by
  obtain ⟨r, hr, hF⟩ := Option.bind_eq_some_iff.mp hk
  have ob : ∀ r, fX3_readChapter this a1 a2 h = some r → tm_is h 3 this := fun r hr => by
    unfold fX3_readChapter at hr
    exact (tm_th_is hr).1
  exact tw_backv (tw_runV hC hR (cX3_readChapter_ok l G sz this a1 a2 ga2 h r hr) (n := 2) (As := [.ref a1, .int (tw_I a2)]) ⟨tw_in_TB 368 (by decide +kernel) rfl, tw_in_TB 61 (by decide +kernel) rfl, by decide +kernel⟩ (tw_in_TB 367 (by decide +kernel) rfl) (tw_in_TB 3 (by decide +kernel) rfl) hl ⟨rfl, rfl⟩ hRm (ob r hr) (T := TX3) (N := 9) rfl rfl hsz rfl hW hdg hf) hL (fun H1 locs1 a b => kk r H1 locs1 a b hF)
def rmX3_read : Room := { frames := 4, cells := 0, slots := 0, locals := 97 }
set_option maxRecDepth 100000 in
set_option maxHeartbeats 4000000 in
theorem sX3_read_S0 {l : Launch} {p : Program} {e : Env} {s : State} {m : MethodId} {args : Array Value} {below : List Frame} {meth : Method} {c : Code} (G : tw_G) (sz : Nat) (hC : tw_C G p s m args meth c RX3 cX3_read 3 none) (this : Nat) (a1 : Nat)  : ∀ (k : Nat) (st : (Int × tm_H)) (out : tm_H), tm_wit (fX3_read_S0 this a1) k st = some out → match st with
    | (x2, h) => ∀ (H : Heap) (locs : List Loc) (ls : Array Slot), tm_rg x2 → tw_Rel G sz h H → tw_L G locs → lv_has ls 3 [(0, .ref this), (1, .ref a1), (2, .int (tw_I x2))] → W p l e rmX3_read s m args below meth c H locs 0 0 (MQ below (tw_Qv G sz out) args s 0 0 (tw_F G)) (F0 m 6 ls []) := by
  intro k
  induction k with
  | zero =>
    intro st out hk
    exact absurd hk (by unfold tm_wit; exact fun z => by cases z)
  | succ k ih =>
    intro st out hk
    obtain ⟨X, hk, hf⟩ := tm_wit_succ hk
    obtain ⟨x2, h⟩ := st
    intro H locs ls gx2 hR hL hl
    dsimp only [fX3_read_S0] at hk
    refine lv_iload_n hC.1 hC.2.1 dX3_read_6 rfl (lv_at hl 2 rfl) ?_
    refine lv_bipush (v := tw_I 6) hC.1 hC.2.1 dX3_read_7 (by decide) ?_
    refine tw_cge (tgt := 24) hC hk gx2 ((tw_rgL rfl)) dX3_read_9 (by decide) (fun _ hk => ?_) (fun _ hk => ?_)
    · refine lv_aload_n hC.1 hC.2.1 dX3_read_12 rfl (lv_at hl 0 rfl) ?_
      refine lv_aload_n hC.1 hC.2.1 dX3_read_13 rfl (lv_at hl 1 rfl) ?_
      refine lv_iload_n hC.1 hC.2.1 dX3_read_14 rfl (lv_at hl 2 rfl) ?_
      refine kX3_readChapter hC hR hL hk gx2 mlX3_49 ⟨by decide, by decide⟩ hl.1 (Nat.le_of_ble_eq_true rfl) ⟨Nat.zero_le _, Nat.zero_le _⟩ dX3_read_15 (fun h2 H locs hR hL hk => ?_)
      refine tw_iinc (lv' := [(2, .int (tw_I (tm_wr (x2 + 1)))), (0, .ref this), (1, .ref a1)]) hC dX3_read_18 hl (k := 2) rfl (by decide) rfl (fun ls hl => ?_)
      refine lv_goto (tgt := 6) hC.1 hC.2.1 dX3_read_21 (by decide) ?_
      cases hk
      exact ih _ out hf H locs _ ((tm_wr_rg _)) hR hL (lv_sub hl [1, 2, 0] rfl)
    · cases hk
      cases hf
      exact tw_vret hC hR hL rfl dX3_read_24
theorem sX3_read_L6 {l : Launch} {p : Program} {e : Env} {s : State} {m : MethodId} {args : Array Value} {below : List Frame} {meth : Method} {c : Code} (G : tw_G) (sz : Nat) (hC : tw_C G p s m args meth c RX3 cX3_read 3 none) (this : Nat) (a1 : Nat)  (x2 : Int) (h : tm_H) (gx2 : tm_rg x2) (out : tm_H) (hk : fX3_read_L6 this a1 x2 h = some out) (H : Heap) (locs : List Loc) (ls : Array Slot) (hR : tw_Rel G sz h H) (hL : tw_L G locs) (hl : lv_has ls 3 [(0, .ref this), (1, .ref a1), (2, .int (tw_I x2))]) : W p l e rmX3_read s m args below meth c H locs 0 0 (MQ below (tw_Qv G sz out) args s 0 0 (tw_F G)) (F0 m 6 ls []) := by
  obtain ⟨k, hk⟩ := tm_wl_iff.mp hk
  exact sX3_read_S0 G sz hC this a1  k ((x2, h)) out hk H locs ls gx2 hR hL hl
set_option maxRecDepth 100000 in
set_option maxHeartbeats 4000000 in
theorem cX3_read_ok (l : Launch) (G : tw_G) (sz : Nat) (this : Nat) (a1 : Nat)  (h : tm_H) (out : tm_H) (hk : fX3_read this a1 h = some out) : Met l yX3_read (tw_WS yX3_read cX3_read 3 none) rmX3_read (va_Pc [.ref this, .ref a1] (tw_Pre G sz h)) (tw_Qv G sz out) 0 0 (tw_F G) := by
  refine tw_met (by decide +kernel) (Nat.le_of_ble_eq_true rfl) ?_
  intro p e s m args below meth c H ls hC hnm hR hl
  unfold fX3_read at hk
  obtain ⟨hob, hk⟩ := tm_th_is hk
  have hl : lv_has ls 3 [(0, .ref this), (1, .ref a1)] := hl
  have hL : tw_L G [] := fun q z => by cases z
  generalize hlc : ([] : List Loc) = locs at hL ⊢
  refine lv_aload_n hC.1 hC.2.1 dX3_read_0 rfl (lv_at hl 0 rfl) ?_
  refine kX3_forget hC hR hL hk mlX3_46 ⟨by decide, by decide⟩ hl.1 (Nat.le_of_ble_eq_true rfl) ⟨Nat.zero_le _, Nat.zero_le _⟩ dX3_read_1 (fun h1 H locs hR hL hk => ?_)
  refine lv_iconst (v := tw_I 0) hC.1 hC.2.1 dX3_read_4 rfl ?_
  refine lv_istore_n (lv' := [(2, .int (tw_I 0)), (0, .ref this), (1, .ref a1)]) hC.1 hC.2.1 dX3_read_5 rfl hl (by decide) rfl (fun ls hl => ?_)
  exact sX3_read_L6 G sz hC this a1 0 h1 ((tw_rgL rfl)) out hk H locs _ hR hL (lv_sub hl [1, 2, 0] rfl)
set_option maxRecDepth 100000 in
theorem kX3_read {l : Launch} {p : Program} {e : Env} {R : Room} {s : State} {m : MethodId} {args : Array Value} {below : List Frame} {meth : Method} {c : Code} {H : Heap} {locs : List Loc} {cells slots : Nat} {Q : State → Prop} {cc : ByteArray} {pc nL idx : Nat} {ls : Array Slot} {rest : List Value} {G : tw_G} {h : tm_H} {own : String} {ret : Option FieldType} {α : Type} {x : α} {sz : Nat} {this : Nat} {a1 : Nat} (hC : tw_C G p s m args meth c own cc nL ret) (hR : tw_Rel G sz h H) (hL : tw_L G locs) {F : tm_H → Option α} (hk : (fX3_read this a1 h).bind F = some x)  (hl : tw_mL own idx yX3_read) (hRm : rmX3_read.frames + 1 ≤ R.frames ∧ 8 + (3 + 11) + rmX3_read.locals ≤ R.locals) (hsz : ls.size = nL) (hW : (rest.map fun v => v.category).sum ≤ 8) (hf : cells + 0 ≤ R.cells ∧ slots + 0 ≤ R.slots) (hdg : decode cc pc = .ok (.invokevirtual idx, 3)) (kk : ∀ (h1 : tm_H) (H1 : Heap) (locs1 : List Loc), tw_Rel G sz h1 H1 → tw_L G locs1 → F h1 = some x → W p l e R s m args below meth c H1 locs1 (cells + 0) (slots + 0) Q (F0 m (pc + 3) ls (rest))) : W p l e R s m args below meth c H locs cells slots Q (F0 m pc ls (.ref a1 :: .ref this :: rest)) := by
  obtain ⟨r, hr, hF⟩ := Option.bind_eq_some_iff.mp hk
  have ob : ∀ r, fX3_read this a1 h = some r → tm_is h 3 this := fun r hr => by
    unfold fX3_read at hr
    exact (tm_th_is hr).1
  exact tw_backv (tw_runV hC hR (cX3_read_ok l G sz this a1  h r hr) (n := 1) (As := [.ref a1]) ⟨tw_in_TB 360 (by decide +kernel) rfl, tw_in_TB 61 (by decide +kernel) rfl, by decide +kernel⟩ (tw_in_TB 358 (by decide +kernel) rfl) (tw_in_TB 359 (by decide +kernel) rfl) hl ⟨rfl, rfl⟩ hRm (ob r hr) (T := TX3) (N := 9) rfl rfl hsz rfl hW hdg hf) hL (fun H1 locs1 a b => kk r H1 locs1 a b hF)
def rmX3_markCount : Room := { frames := 0, cells := 0, slots := 0, locals := 0 }
set_option maxRecDepth 100000 in
set_option maxHeartbeats 4000000 in
theorem cX3_markCount_ok (l : Launch) (G : tw_G) (sz : Nat) (this : Nat)  (h : tm_H) (out : Int) (hk : fX3_markCount this h = some out) : Met l yX3_markCount (tw_WS yX3_markCount cX3_markCount 1 (some .int)) rmX3_markCount (va_Pc [.ref this] (tw_Pre G sz h)) (tw_Qi G sz out h) 0 0 (tw_F G) := by
  refine tw_met (by decide +kernel) (Nat.le_of_ble_eq_true rfl) ?_
  intro p e s m args below meth c H ls hC hnm hR hl
  unfold fX3_markCount at hk
  obtain ⟨hob, hk⟩ := tm_th_is hk
  have hl : lv_has ls 1 [(0, .ref this)] := hl
  have hL : tw_L G [] := fun q z => by cases z
  generalize hlc : ([] : List Loc) = locs at hL ⊢
  refine lv_aload_n hC.1 hC.2.1 dX3_markCount_0 rfl (lv_at hl 0 rfl) ?_
  refine tw_getI hC hR hk flX3_39 dX3_markCount_1 (fun v1 gv1 hk => ?_)
  cases hk
  exact tw_iret hC hR hL gv1 rfl rfl dX3_markCount_4
set_option maxRecDepth 100000 in
theorem kX3_markCount {l : Launch} {p : Program} {e : Env} {R : Room} {s : State} {m : MethodId} {args : Array Value} {below : List Frame} {meth : Method} {c : Code} {H : Heap} {locs : List Loc} {cells slots : Nat} {Q : State → Prop} {cc : ByteArray} {pc nL idx : Nat} {ls : Array Slot} {rest : List Value} {G : tw_G} {h : tm_H} {own : String} {ret : Option FieldType} {α : Type} {x : α} {sz : Nat} {this : Nat} (hC : tw_C G p s m args meth c own cc nL ret) (hR : tw_Rel G sz h H) (hL : tw_L G locs) {F : Int → Option α} (hk : (fX3_markCount this h).bind F = some x)  (hl : tw_mL own idx yX3_markCount) (hRm : rmX3_markCount.frames + 1 ≤ R.frames ∧ 8 + (1 + 11) + rmX3_markCount.locals ≤ R.locals) (hsz : ls.size = nL) (hW : (rest.map fun v => v.category).sum ≤ 8) (hf : cells + 0 ≤ R.cells ∧ slots + 0 ≤ R.slots) (hdg : decode cc pc = .ok (.invokevirtual idx, 3)) (kk : ∀ (r : Int) (H1 : Heap) (locs1 : List Loc), tw_Rel G sz h H1 → tw_L G locs1 → tm_rg r → F r = some x → W p l e R s m args below meth c H1 locs1 (cells + 0) (slots + 0) Q (F0 m (pc + 3) ls (.int (tw_I r) :: rest))) : W p l e R s m args below meth c H locs cells slots Q (F0 m pc ls (.ref this :: rest)) := by
  obtain ⟨r, hr, hF⟩ := Option.bind_eq_some_iff.mp hk
  have ob : ∀ r, fX3_markCount this h = some r → tm_is h 3 this := fun r hr => by
    unfold fX3_markCount at hr
    exact (tm_th_is hr).1
  exact tw_backi (tw_runV hC hR (cX3_markCount_ok l G sz this  h r hr) (n := 0) (As := []) ⟨tw_in_TB 416 (by decide +kernel) rfl, tw_in_TB 61 (by decide +kernel) rfl, by decide +kernel⟩ (tw_in_TB 414 (by decide +kernel) rfl) (tw_in_TB 415 (by decide +kernel) rfl) hl ⟨rfl, rfl⟩ hRm (ob r hr) (T := TX3) (N := 9) rfl rfl hsz rfl hW hdg hf) hL (fun H1 locs1 a b g => kk r H1 locs1 a b g hF)
def rmX3_readingCount : Room := { frames := 0, cells := 0, slots := 0, locals := 0 }
set_option maxRecDepth 100000 in
set_option maxHeartbeats 4000000 in
theorem cX3_readingCount_ok (l : Launch) (G : tw_G) (sz : Nat) (this : Nat)  (h : tm_H) (out : Int) (hk : fX3_readingCount this h = some out) : Met l yX3_readingCount (tw_WS yX3_readingCount cX3_readingCount 1 (some .int)) rmX3_readingCount (va_Pc [.ref this] (tw_Pre G sz h)) (tw_Qi G sz out h) 0 0 (tw_F G) := by
  refine tw_met (by decide +kernel) (Nat.le_of_ble_eq_true rfl) ?_
  intro p e s m args below meth c H ls hC hnm hR hl
  unfold fX3_readingCount at hk
  obtain ⟨hob, hk⟩ := tm_th_is hk
  have hl : lv_has ls 1 [(0, .ref this)] := hl
  have hL : tw_L G [] := fun q z => by cases z
  generalize hlc : ([] : List Loc) = locs at hL ⊢
  refine lv_aload_n hC.1 hC.2.1 dX3_readingCount_0 rfl (lv_at hl 0 rfl) ?_
  refine tw_getI hC hR hk flX3_43 dX3_readingCount_1 (fun v1 gv1 hk => ?_)
  cases hk
  exact tw_iret hC hR hL gv1 rfl rfl dX3_readingCount_4
set_option maxRecDepth 100000 in
theorem kX3_readingCount {l : Launch} {p : Program} {e : Env} {R : Room} {s : State} {m : MethodId} {args : Array Value} {below : List Frame} {meth : Method} {c : Code} {H : Heap} {locs : List Loc} {cells slots : Nat} {Q : State → Prop} {cc : ByteArray} {pc nL idx : Nat} {ls : Array Slot} {rest : List Value} {G : tw_G} {h : tm_H} {own : String} {ret : Option FieldType} {α : Type} {x : α} {sz : Nat} {this : Nat} (hC : tw_C G p s m args meth c own cc nL ret) (hR : tw_Rel G sz h H) (hL : tw_L G locs) {F : Int → Option α} (hk : (fX3_readingCount this h).bind F = some x)  (hl : tw_mL own idx yX3_readingCount) (hRm : rmX3_readingCount.frames + 1 ≤ R.frames ∧ 8 + (1 + 11) + rmX3_readingCount.locals ≤ R.locals) (hsz : ls.size = nL) (hW : (rest.map fun v => v.category).sum ≤ 8) (hf : cells + 0 ≤ R.cells ∧ slots + 0 ≤ R.slots) (hdg : decode cc pc = .ok (.invokevirtual idx, 3)) (kk : ∀ (r : Int) (H1 : Heap) (locs1 : List Loc), tw_Rel G sz h H1 → tw_L G locs1 → tm_rg r → F r = some x → W p l e R s m args below meth c H1 locs1 (cells + 0) (slots + 0) Q (F0 m (pc + 3) ls (.int (tw_I r) :: rest))) : W p l e R s m args below meth c H locs cells slots Q (F0 m pc ls (.ref this :: rest)) := by
  obtain ⟨r, hr, hF⟩ := Option.bind_eq_some_iff.mp hk
  have ob : ∀ r, fX3_readingCount this h = some r → tm_is h 3 this := fun r hr => by
    unfold fX3_readingCount at hr
    exact (tm_th_is hr).1
  exact tw_backi (tw_runV hC hR (cX3_readingCount_ok l G sz this  h r hr) (n := 0) (As := []) ⟨tw_in_TB 686 (by decide +kernel) rfl, tw_in_TB 61 (by decide +kernel) rfl, by decide +kernel⟩ (tw_in_TB 684 (by decide +kernel) rfl) (tw_in_TB 685 (by decide +kernel) rfl) hl ⟨rfl, rfl⟩ hRm (ob r hr) (T := TX3) (N := 9) rfl rfl hsz rfl hW hdg hf) hL (fun H1 locs1 a b g => kk r H1 locs1 a b g hF)
def rmX3_isInside : Room := { frames := 0, cells := 0, slots := 0, locals := 0 }
set_option maxRecDepth 100000 in
set_option maxHeartbeats 4000000 in
theorem cX3_isInside_ok (l : Launch) (G : tw_G) (sz : Nat) (a1 : Int) (a2 : Int) (ga1 : tm_rg a1) (ga2 : tm_rg a2) (h : tm_H) (out : Int) (hk : fX3_isInside a1 a2 h = some out) : Met l yX3_isInside (tw_WS yX3_isInside cX3_isInside 2 (some .boolean)) rmX3_isInside (va_Pc [.int (tw_I a1), .int (tw_I a2)] (tw_Pre G sz h)) (tw_Qi G sz out h) 0 0 (tw_F G) := by
  refine tw_met (by decide +kernel) (Nat.le_of_ble_eq_true rfl) ?_
  intro p e s m args below meth c H ls hC hnm hR hl
  unfold fX3_isInside at hk
  have hl : lv_has ls 2 [(0, .int (tw_I a1)), (1, .int (tw_I a2))] := hl
  have hL : tw_L G [] := fun q z => by cases z
  generalize hlc : ([] : List Loc) = locs at hL ⊢
  refine lv_iload_n hC.1 hC.2.1 dX3_isInside_0 rfl (lv_at hl 0 rfl) ?_
  refine tw_zlt (tgt := 24) hC hk ga1 dX3_isInside_1 (by decide) (fun _ hk => ?_) (fun _ hk => ?_)
  · refine lv_iconst (v := tw_I 0) hC.1 hC.2.1 dX3_isInside_24 rfl ?_
    cases hk
    exact tw_zret hC hR hL rfl rfl dX3_isInside_25
  · refine lv_iload_n hC.1 hC.2.1 dX3_isInside_4 rfl (lv_at hl 0 rfl) ?_
    refine lv_bipush (v := tw_I 6) hC.1 hC.2.1 dX3_isInside_5 (by decide) ?_
    refine tw_cge (tgt := 24) hC hk ga1 ((tw_rgL rfl)) dX3_isInside_7 (by decide) (fun _ hk => ?_) (fun _ hk => ?_)
    · refine lv_iload_n hC.1 hC.2.1 dX3_isInside_10 rfl (lv_at hl 1 rfl) ?_
      refine tw_zlt (tgt := 24) hC hk ga2 dX3_isInside_11 (by decide) (fun _ hk => ?_) (fun _ hk => ?_)
      · refine lv_iconst (v := tw_I 0) hC.1 hC.2.1 dX3_isInside_24 rfl ?_
        cases hk
        exact tw_zret hC hR hL rfl rfl dX3_isInside_25
      · refine lv_iload_n hC.1 hC.2.1 dX3_isInside_14 rfl (lv_at hl 1 rfl) ?_
        refine lv_bipush (v := tw_I 40) hC.1 hC.2.1 dX3_isInside_15 (by decide) ?_
        refine tw_cge (tgt := 24) hC hk ga2 ((tw_rgL rfl)) dX3_isInside_17 (by decide) (fun _ hk => ?_) (fun _ hk => ?_)
        · refine lv_iconst (v := tw_I 1) hC.1 hC.2.1 dX3_isInside_20 rfl ?_
          refine lv_goto (tgt := 25) hC.1 hC.2.1 dX3_isInside_21 (by decide) ?_
          cases hk
          exact tw_zret hC hR hL rfl rfl dX3_isInside_25
        · refine lv_iconst (v := tw_I 0) hC.1 hC.2.1 dX3_isInside_24 rfl ?_
          cases hk
          exact tw_zret hC hR hL rfl rfl dX3_isInside_25
    · refine lv_iconst (v := tw_I 0) hC.1 hC.2.1 dX3_isInside_24 rfl ?_
      cases hk
      exact tw_zret hC hR hL rfl rfl dX3_isInside_25
set_option maxRecDepth 100000 in
theorem kX3_isInside {l : Launch} {p : Program} {e : Env} {R : Room} {s : State} {m : MethodId} {args : Array Value} {below : List Frame} {meth : Method} {c : Code} {H : Heap} {locs : List Loc} {cells slots : Nat} {Q : State → Prop} {cc : ByteArray} {pc nL idx : Nat} {ls : Array Slot} {rest : List Value} {G : tw_G} {h : tm_H} {own : String} {ret : Option FieldType} {α : Type} {x : α} {sz : Nat} {a1 : Int} {a2 : Int} (hC : tw_C G p s m args meth c own cc nL ret) (hR : tw_Rel G sz h H) (hL : tw_L G locs) {F : Int → Option α} (hk : (fX3_isInside a1 a2 h).bind F = some x) (ga1 : tm_rg a1) (ga2 : tm_rg a2) (hl : tw_mL own idx yX3_isInside) (hRm : rmX3_isInside.frames + 1 ≤ R.frames ∧ 8 + (2 + 11) + rmX3_isInside.locals ≤ R.locals) (hsz : ls.size = nL) (hW : (rest.map fun v => v.category).sum ≤ 8) (hf : cells + 0 ≤ R.cells ∧ slots + 0 ≤ R.slots) (hdg : decode cc pc = .ok (.invokestatic idx, 3)) (kk : ∀ (r : Int) (H1 : Heap) (locs1 : List Loc), tw_Rel G sz h H1 → tw_L G locs1 → tm_rg r → F r = some x → W p l e R s m args below meth c H1 locs1 (cells + 0) (slots + 0) Q (F0 m (pc + 3) ls (.int (tw_I r) :: rest))) : W p l e R s m args below meth c H locs cells slots Q (F0 m pc ls (.int (tw_I a2) :: .int (tw_I a1) :: rest)) := by
  obtain ⟨r, hr, hF⟩ := Option.bind_eq_some_iff.mp hk
  exact tw_backi (tw_runS hC hR (cX3_isInside_ok l G sz a1 a2 ga1 ga2 h r hr) (n := 2) ⟨tw_in_TB 718 (by decide +kernel) rfl, tw_in_TB 61 (by decide +kernel) rfl, by decide +kernel⟩ (tw_in_TB 717 (by decide +kernel) rfl) hl ⟨rfl, rfl⟩ hRm rfl hsz rfl hW hdg hf) hL (fun H1 locs1 a b g => kk r H1 locs1 a b g hF)
def rmX3_termOver : Room := { frames := 1, cells := 0, slots := 0, locals := 21 }
set_option maxRecDepth 100000 in
set_option maxHeartbeats 4000000 in
theorem cX3_termOver_ok (l : Launch) (G : tw_G) (sz : Nat) (this : Nat) (a1 : Int) (a2 : Int) (ga1 : tm_rg a1) (ga2 : tm_rg a2) (h : tm_H) (out : Int) (hk : fX3_termOver this a1 a2 h = some out) : Met l yX3_termOver (tw_WS yX3_termOver cX3_termOver 3 (some .int)) rmX3_termOver (va_Pc [.ref this, .int (tw_I a1), .int (tw_I a2)] (tw_Pre G sz h)) (tw_Qi G sz out h) 0 0 (tw_F G) := by
  refine tw_met (by decide +kernel) (Nat.le_of_ble_eq_true rfl) ?_
  intro p e s m args below meth c H ls hC hnm hR hl
  unfold fX3_termOver at hk
  obtain ⟨hob, hk⟩ := tm_th_is hk
  have hl : lv_has ls 3 [(0, .ref this), (1, .int (tw_I a1)), (2, .int (tw_I a2))] := hl
  have hL : tw_L G [] := fun q z => by cases z
  generalize hlc : ([] : List Loc) = locs at hL ⊢
  refine lv_iload_n hC.1 hC.2.1 dX3_termOver_0 rfl (lv_at hl 1 rfl) ?_
  refine lv_iload_n hC.1 hC.2.1 dX3_termOver_1 rfl (lv_at hl 2 rfl) ?_
  refine kX3_isInside hC hR hL hk ga1 ga2 mlX3_82 ⟨by decide, by decide⟩ hl.1 (Nat.le_of_ble_eq_true rfl) ⟨Nat.zero_le _, Nat.zero_le _⟩ dX3_termOver_2 (fun v1 H locs hR hL gv1 hk => ?_)
  refine tw_zeq (tgt := 19) hC hk gv1 dX3_termOver_5 (by decide) (fun _ hk => ?_) (fun _ hk => ?_)
  · refine lv_bipush (v := tw_I (-99)) hC.1 hC.2.1 dX3_termOver_19 (by decide) ?_
    cases hk
    exact tw_iret hC hR hL ((tw_rgL rfl)) rfl rfl dX3_termOver_21
  · refine lv_aload_n hC.1 hC.2.1 dX3_termOver_8 rfl (lv_at hl 0 rfl) ?_
    refine tw_getR hC hR hk flX3_15 dX3_termOver_9 (fun r2 hk => ?_)
    refine lv_iload_n hC.1 hC.2.1 dX3_termOver_12 rfl (lv_at hl 1 rfl) ?_
    refine tw_aald hC hR hk dX3_termOver_13 (fun r3 hk => ?_)
    refine lv_iload_n hC.1 hC.2.1 dX3_termOver_14 rfl (lv_at hl 2 rfl) ?_
    refine tw_iald hC hR hk dX3_termOver_15 (fun v4 gv4 hk => ?_)
    refine lv_goto (tgt := 21) hC.1 hC.2.1 dX3_termOver_16 (by decide) ?_
    cases hk
    exact tw_iret hC hR hL gv4 rfl rfl dX3_termOver_21
set_option maxRecDepth 100000 in
theorem kX3_termOver {l : Launch} {p : Program} {e : Env} {R : Room} {s : State} {m : MethodId} {args : Array Value} {below : List Frame} {meth : Method} {c : Code} {H : Heap} {locs : List Loc} {cells slots : Nat} {Q : State → Prop} {cc : ByteArray} {pc nL idx : Nat} {ls : Array Slot} {rest : List Value} {G : tw_G} {h : tm_H} {own : String} {ret : Option FieldType} {α : Type} {x : α} {sz : Nat} {this : Nat} {a1 : Int} {a2 : Int} (hC : tw_C G p s m args meth c own cc nL ret) (hR : tw_Rel G sz h H) (hL : tw_L G locs) {F : Int → Option α} (hk : (fX3_termOver this a1 a2 h).bind F = some x) (ga1 : tm_rg a1) (ga2 : tm_rg a2) (hl : tw_mL own idx yX3_termOver) (hRm : rmX3_termOver.frames + 1 ≤ R.frames ∧ 8 + (3 + 11) + rmX3_termOver.locals ≤ R.locals) (hsz : ls.size = nL) (hW : (rest.map fun v => v.category).sum ≤ 8) (hf : cells + 0 ≤ R.cells ∧ slots + 0 ≤ R.slots) (hdg : decode cc pc = .ok (.invokevirtual idx, 3)) (kk : ∀ (r : Int) (H1 : Heap) (locs1 : List Loc), tw_Rel G sz h H1 → tw_L G locs1 → tm_rg r → F r = some x → W p l e R s m args below meth c H1 locs1 (cells + 0) (slots + 0) Q (F0 m (pc + 3) ls (.int (tw_I r) :: rest))) : W p l e R s m args below meth c H locs cells slots Q (F0 m pc ls (.int (tw_I a2) :: .int (tw_I a1) :: .ref this :: rest)) := by
  obtain ⟨r, hr, hF⟩ := Option.bind_eq_some_iff.mp hk
  have ob : ∀ r, fX3_termOver this a1 a2 h = some r → tm_is h 3 this := fun r hr => by
    unfold fX3_termOver at hr
    exact (tm_th_is hr).1
  exact tw_backi (tw_runV hC hR (cX3_termOver_ok l G sz this a1 a2 ga1 ga2 h r hr) (n := 2) (As := [.int (tw_I a1), .int (tw_I a2)]) ⟨tw_in_TB 715 (by decide +kernel) rfl, tw_in_TB 61 (by decide +kernel) rfl, by decide +kernel⟩ (tw_in_TB 713 (by decide +kernel) rfl) (tw_in_TB 714 (by decide +kernel) rfl) hl ⟨rfl, rfl⟩ hRm (ob r hr) (T := TX3) (N := 9) rfl rfl hsz rfl hW hdg hf) hL (fun H1 locs1 a b g => kk r H1 locs1 a b g hF)
def rmX3_stepOver : Room := { frames := 1, cells := 0, slots := 0, locals := 21 }
set_option maxRecDepth 100000 in
set_option maxHeartbeats 4000000 in
theorem cX3_stepOver_ok (l : Launch) (G : tw_G) (sz : Nat) (this : Nat) (a1 : Int) (a2 : Int) (ga1 : tm_rg a1) (ga2 : tm_rg a2) (h : tm_H) (out : Int) (hk : fX3_stepOver this a1 a2 h = some out) : Met l yX3_stepOver (tw_WS yX3_stepOver cX3_stepOver 3 (some .int)) rmX3_stepOver (va_Pc [.ref this, .int (tw_I a1), .int (tw_I a2)] (tw_Pre G sz h)) (tw_Qi G sz out h) 0 0 (tw_F G) := by
  refine tw_met (by decide +kernel) (Nat.le_of_ble_eq_true rfl) ?_
  intro p e s m args below meth c H ls hC hnm hR hl
  unfold fX3_stepOver at hk
  obtain ⟨hob, hk⟩ := tm_th_is hk
  have hl : lv_has ls 3 [(0, .ref this), (1, .int (tw_I a1)), (2, .int (tw_I a2))] := hl
  have hL : tw_L G [] := fun q z => by cases z
  generalize hlc : ([] : List Loc) = locs at hL ⊢
  refine lv_iload_n hC.1 hC.2.1 dX3_stepOver_0 rfl (lv_at hl 1 rfl) ?_
  refine lv_iload_n hC.1 hC.2.1 dX3_stepOver_1 rfl (lv_at hl 2 rfl) ?_
  refine kX3_isInside hC hR hL hk ga1 ga2 mlX3_82 ⟨by decide, by decide⟩ hl.1 (Nat.le_of_ble_eq_true rfl) ⟨Nat.zero_le _, Nat.zero_le _⟩ dX3_stepOver_2 (fun v1 H locs hR hL gv1 hk => ?_)
  refine tw_zeq (tgt := 19) hC hk gv1 dX3_stepOver_5 (by decide) (fun _ hk => ?_) (fun _ hk => ?_)
  · refine lv_bipush (v := tw_I (-99)) hC.1 hC.2.1 dX3_stepOver_19 (by decide) ?_
    cases hk
    exact tw_iret hC hR hL ((tw_rgL rfl)) rfl rfl dX3_stepOver_21
  · refine lv_aload_n hC.1 hC.2.1 dX3_stepOver_8 rfl (lv_at hl 0 rfl) ?_
    refine tw_getR hC hR hk flX3_20 dX3_stepOver_9 (fun r2 hk => ?_)
    refine lv_iload_n hC.1 hC.2.1 dX3_stepOver_12 rfl (lv_at hl 1 rfl) ?_
    refine tw_aald hC hR hk dX3_stepOver_13 (fun r3 hk => ?_)
    refine lv_iload_n hC.1 hC.2.1 dX3_stepOver_14 rfl (lv_at hl 2 rfl) ?_
    refine tw_iald hC hR hk dX3_stepOver_15 (fun v4 gv4 hk => ?_)
    refine lv_goto (tgt := 21) hC.1 hC.2.1 dX3_stepOver_16 (by decide) ?_
    cases hk
    exact tw_iret hC hR hL gv4 rfl rfl dX3_stepOver_21
set_option maxRecDepth 100000 in
theorem kX3_stepOver {l : Launch} {p : Program} {e : Env} {R : Room} {s : State} {m : MethodId} {args : Array Value} {below : List Frame} {meth : Method} {c : Code} {H : Heap} {locs : List Loc} {cells slots : Nat} {Q : State → Prop} {cc : ByteArray} {pc nL idx : Nat} {ls : Array Slot} {rest : List Value} {G : tw_G} {h : tm_H} {own : String} {ret : Option FieldType} {α : Type} {x : α} {sz : Nat} {this : Nat} {a1 : Int} {a2 : Int} (hC : tw_C G p s m args meth c own cc nL ret) (hR : tw_Rel G sz h H) (hL : tw_L G locs) {F : Int → Option α} (hk : (fX3_stepOver this a1 a2 h).bind F = some x) (ga1 : tm_rg a1) (ga2 : tm_rg a2) (hl : tw_mL own idx yX3_stepOver) (hRm : rmX3_stepOver.frames + 1 ≤ R.frames ∧ 8 + (3 + 11) + rmX3_stepOver.locals ≤ R.locals) (hsz : ls.size = nL) (hW : (rest.map fun v => v.category).sum ≤ 8) (hf : cells + 0 ≤ R.cells ∧ slots + 0 ≤ R.slots) (hdg : decode cc pc = .ok (.invokevirtual idx, 3)) (kk : ∀ (r : Int) (H1 : Heap) (locs1 : List Loc), tw_Rel G sz h H1 → tw_L G locs1 → tm_rg r → F r = some x → W p l e R s m args below meth c H1 locs1 (cells + 0) (slots + 0) Q (F0 m (pc + 3) ls (.int (tw_I r) :: rest))) : W p l e R s m args below meth c H locs cells slots Q (F0 m pc ls (.int (tw_I a2) :: .int (tw_I a1) :: .ref this :: rest)) := by
  obtain ⟨r, hr, hF⟩ := Option.bind_eq_some_iff.mp hk
  have ob : ∀ r, fX3_stepOver this a1 a2 h = some r → tm_is h 3 this := fun r hr => by
    unfold fX3_stepOver at hr
    exact (tm_th_is hr).1
  exact tw_backi (tw_runV hC hR (cX3_stepOver_ok l G sz this a1 a2 ga1 ga2 h r hr) (n := 2) (As := [.int (tw_I a1), .int (tw_I a2)]) ⟨tw_in_TB 722 (by decide +kernel) rfl, tw_in_TB 61 (by decide +kernel) rfl, by decide +kernel⟩ (tw_in_TB 720 (by decide +kernel) rfl) (tw_in_TB 721 (by decide +kernel) rfl) hl ⟨rfl, rfl⟩ hRm (ob r hr) (T := TX3) (N := 9) rfl rfl hsz rfl hW hdg hf) hL (fun H1 locs1 a b g => kk r H1 locs1 a b g hF)
def rmX3_hasMark : Room := { frames := 0, cells := 0, slots := 0, locals := 0 }
set_option maxRecDepth 100000 in
set_option maxHeartbeats 4000000 in
theorem sX3_hasMark_S0 {l : Launch} {p : Program} {e : Env} {s : State} {m : MethodId} {args : Array Value} {below : List Frame} {meth : Method} {c : Code} (G : tw_G) (sz : Nat) (hC : tw_C G p s m args meth c RX3 cX3_hasMark 4 (some .boolean)) (this : Nat) (a1 : Int) (a2 : Int) (ga1 : tm_rg a1) (ga2 : tm_rg a2) (h : tm_H) : ∀ (k : Nat) (st : (Int) ⊕ (Int)) (out : Int), tm_wit (fX3_hasMark_S0 this a1 a2 h) k st = some out → match st with
    | .inl ((x3)) => ∀ (H : Heap) (locs : List Loc) (ls : Array Slot), tm_rg x3 → tw_Rel G sz h H → tw_L G locs → lv_has ls 4 [(0, .ref this), (1, .int (tw_I a1)), (2, .int (tw_I a2)), (3, .int (tw_I x3))] → W p l e rmX3_hasMark s m args below meth c H locs 0 0 (MQ below (tw_Qi G sz out h) args s 0 0 (tw_F G)) (F0 m 2 ls [])
    | .inr ((x3)) => ∀ (H : Heap) (locs : List Loc) (ls : Array Slot), tm_rg x3 → tw_Rel G sz h H → tw_L G locs → lv_has ls 4 [(0, .ref this), (1, .int (tw_I a1)), (2, .int (tw_I a2)), (3, .int (tw_I x3))] → W p l e rmX3_hasMark s m args below meth c H locs 0 0 (MQ below (tw_Qi G sz out h) args s 0 0 (tw_F G)) (F0 m 32 ls []) := by
  intro k
  induction k with
  | zero =>
    intro st out hk
    exact absurd hk (by unfold tm_wit; exact fun z => by cases z)
  | succ k ih =>
    intro st out hk
    obtain ⟨X, hk, hf⟩ := tm_wit_succ hk
    obtain x3 | x3 := st
    · intro H locs ls gx3 hR hL hl
      dsimp only [fX3_hasMark_S0] at hk
      refine lv_iload_n hC.1 hC.2.1 dX3_hasMark_2 rfl (lv_at hl 3 rfl) ?_
      refine lv_aload_n hC.1 hC.2.1 dX3_hasMark_3 rfl (lv_at hl 0 rfl) ?_
      refine tw_getI hC hR hk flX3_39 dX3_hasMark_4 (fun v1 gv1 hk => ?_)
      refine tw_cge (tgt := 38) hC hk gx3 gv1 dX3_hasMark_7 (by decide) (fun _ hk => ?_) (fun _ hk => ?_)
      · refine lv_aload_n hC.1 hC.2.1 dX3_hasMark_10 rfl (lv_at hl 0 rfl) ?_
        refine tw_getR hC hR hk flX3_30 dX3_hasMark_11 (fun r2 hk => ?_)
        refine lv_iload_n hC.1 hC.2.1 dX3_hasMark_14 rfl (lv_at hl 3 rfl) ?_
        refine tw_iald hC hR hk dX3_hasMark_15 (fun v3 gv3 hk => ?_)
        refine lv_iload_n hC.1 hC.2.1 dX3_hasMark_16 rfl (lv_at hl 1 rfl) ?_
        refine tw_cne (tgt := 32) hC hk gv3 ga1 dX3_hasMark_17 (by decide) (fun _ hk => ?_) (fun _ hk => ?_)
        · refine lv_aload_n hC.1 hC.2.1 dX3_hasMark_20 rfl (lv_at hl 0 rfl) ?_
          refine tw_getR hC hR hk flX3_33 dX3_hasMark_21 (fun r4 hk => ?_)
          refine lv_iload_n hC.1 hC.2.1 dX3_hasMark_24 rfl (lv_at hl 3 rfl) ?_
          refine tw_iald hC hR hk dX3_hasMark_25 (fun v5 gv5 hk => ?_)
          refine lv_iload_n hC.1 hC.2.1 dX3_hasMark_26 rfl (lv_at hl 2 rfl) ?_
          refine tw_cne (tgt := 32) hC hk gv5 ga2 dX3_hasMark_27 (by decide) (fun _ hk => ?_) (fun _ hk => ?_)
          · refine lv_iconst (v := tw_I 1) hC.1 hC.2.1 dX3_hasMark_30 rfl ?_
            cases hk
            cases hf
            exact tw_zret hC hR hL rfl rfl dX3_hasMark_31
          · cases hk
            exact ih _ out hf H locs _ gx3 hR hL (lv_sub hl [0, 1, 2, 3] rfl)
        · cases hk
          exact ih _ out hf H locs _ gx3 hR hL (lv_sub hl [0, 1, 2, 3] rfl)
      · refine lv_iconst (v := tw_I 0) hC.1 hC.2.1 dX3_hasMark_38 rfl ?_
        cases hk
        cases hf
        exact tw_zret hC hR hL rfl rfl dX3_hasMark_39
    · intro H locs ls gx3 hR hL hl
      dsimp only [fX3_hasMark_S0] at hk
      refine tw_iinc (lv' := [(3, .int (tw_I (tm_wr (x3 + 1)))), (0, .ref this), (1, .int (tw_I a1)), (2, .int (tw_I a2))]) hC dX3_hasMark_32 hl (k := 3) rfl (by decide) rfl (fun ls hl => ?_)
      refine lv_goto (tgt := 2) hC.1 hC.2.1 dX3_hasMark_35 (by decide) ?_
      cases hk
      exact ih _ out hf H locs _ ((tm_wr_rg _)) hR hL (lv_sub hl [1, 2, 3, 0] rfl)
theorem sX3_hasMark_L2 {l : Launch} {p : Program} {e : Env} {s : State} {m : MethodId} {args : Array Value} {below : List Frame} {meth : Method} {c : Code} (G : tw_G) (sz : Nat) (hC : tw_C G p s m args meth c RX3 cX3_hasMark 4 (some .boolean)) (this : Nat) (a1 : Int) (a2 : Int) (ga1 : tm_rg a1) (ga2 : tm_rg a2) (h : tm_H) (x3 : Int) (gx3 : tm_rg x3) (out : Int) (hk : fX3_hasMark_L2 this a1 a2 h x3 = some out) (H : Heap) (locs : List Loc) (ls : Array Slot) (hR : tw_Rel G sz h H) (hL : tw_L G locs) (hl : lv_has ls 4 [(0, .ref this), (1, .int (tw_I a1)), (2, .int (tw_I a2)), (3, .int (tw_I x3))]) : W p l e rmX3_hasMark s m args below meth c H locs 0 0 (MQ below (tw_Qi G sz out h) args s 0 0 (tw_F G)) (F0 m 2 ls []) := by
  obtain ⟨k, hk⟩ := tm_wl_iff.mp hk
  exact sX3_hasMark_S0 G sz hC this a1 a2 ga1 ga2 h k (.inl ((x3))) out hk H locs ls gx3 hR hL hl
theorem sX3_hasMark_L32 {l : Launch} {p : Program} {e : Env} {s : State} {m : MethodId} {args : Array Value} {below : List Frame} {meth : Method} {c : Code} (G : tw_G) (sz : Nat) (hC : tw_C G p s m args meth c RX3 cX3_hasMark 4 (some .boolean)) (this : Nat) (a1 : Int) (a2 : Int) (ga1 : tm_rg a1) (ga2 : tm_rg a2) (h : tm_H) (x3 : Int) (gx3 : tm_rg x3) (out : Int) (hk : fX3_hasMark_L32 this a1 a2 h x3 = some out) (H : Heap) (locs : List Loc) (ls : Array Slot) (hR : tw_Rel G sz h H) (hL : tw_L G locs) (hl : lv_has ls 4 [(0, .ref this), (1, .int (tw_I a1)), (2, .int (tw_I a2)), (3, .int (tw_I x3))]) : W p l e rmX3_hasMark s m args below meth c H locs 0 0 (MQ below (tw_Qi G sz out h) args s 0 0 (tw_F G)) (F0 m 32 ls []) := by
  obtain ⟨k, hk⟩ := tm_wl_iff.mp hk
  exact sX3_hasMark_S0 G sz hC this a1 a2 ga1 ga2 h k (.inr ((x3))) out hk H locs ls gx3 hR hL hl
set_option maxRecDepth 100000 in
set_option maxHeartbeats 4000000 in
theorem cX3_hasMark_ok (l : Launch) (G : tw_G) (sz : Nat) (this : Nat) (a1 : Int) (a2 : Int) (ga1 : tm_rg a1) (ga2 : tm_rg a2) (h : tm_H) (out : Int) (hk : fX3_hasMark this a1 a2 h = some out) : Met l yX3_hasMark (tw_WS yX3_hasMark cX3_hasMark 4 (some .boolean)) rmX3_hasMark (va_Pc [.ref this, .int (tw_I a1), .int (tw_I a2)] (tw_Pre G sz h)) (tw_Qi G sz out h) 0 0 (tw_F G) := by
  refine tw_met (by decide +kernel) (Nat.le_of_ble_eq_true rfl) ?_
  intro p e s m args below meth c H ls hC hnm hR hl
  unfold fX3_hasMark at hk
  obtain ⟨hob, hk⟩ := tm_th_is hk
  have hl : lv_has ls 4 [(0, .ref this), (1, .int (tw_I a1)), (2, .int (tw_I a2))] := hl
  have hL : tw_L G [] := fun q z => by cases z
  generalize hlc : ([] : List Loc) = locs at hL ⊢
  refine lv_iconst (v := tw_I 0) hC.1 hC.2.1 dX3_hasMark_0 rfl ?_
  refine lv_istore_n (lv' := [(3, .int (tw_I 0)), (0, .ref this), (1, .int (tw_I a1)), (2, .int (tw_I a2))]) hC.1 hC.2.1 dX3_hasMark_1 rfl hl (by decide) rfl (fun ls hl => ?_)
  exact sX3_hasMark_L2 G sz hC this a1 a2 ga1 ga2 h 0 ((tw_rgL rfl)) out hk H locs _ hR hL (lv_sub hl [1, 2, 3, 0] rfl)
set_option maxRecDepth 100000 in
theorem kX3_hasMark {l : Launch} {p : Program} {e : Env} {R : Room} {s : State} {m : MethodId} {args : Array Value} {below : List Frame} {meth : Method} {c : Code} {H : Heap} {locs : List Loc} {cells slots : Nat} {Q : State → Prop} {cc : ByteArray} {pc nL idx : Nat} {ls : Array Slot} {rest : List Value} {G : tw_G} {h : tm_H} {own : String} {ret : Option FieldType} {α : Type} {x : α} {sz : Nat} {this : Nat} {a1 : Int} {a2 : Int} (hC : tw_C G p s m args meth c own cc nL ret) (hR : tw_Rel G sz h H) (hL : tw_L G locs) {F : Int → Option α} (hk : (fX3_hasMark this a1 a2 h).bind F = some x) (ga1 : tm_rg a1) (ga2 : tm_rg a2) (hl : tw_mL own idx yX3_hasMark) (hRm : rmX3_hasMark.frames + 1 ≤ R.frames ∧ 8 + (4 + 11) + rmX3_hasMark.locals ≤ R.locals) (hsz : ls.size = nL) (hW : (rest.map fun v => v.category).sum ≤ 8) (hf : cells + 0 ≤ R.cells ∧ slots + 0 ≤ R.slots) (hdg : decode cc pc = .ok (.invokevirtual idx, 3)) (kk : ∀ (r : Int) (H1 : Heap) (locs1 : List Loc), tw_Rel G sz h H1 → tw_L G locs1 → tm_rg r → F r = some x → W p l e R s m args below meth c H1 locs1 (cells + 0) (slots + 0) Q (F0 m (pc + 3) ls (.int (tw_I r) :: rest))) : W p l e R s m args below meth c H locs cells slots Q (F0 m pc ls (.int (tw_I a2) :: .int (tw_I a1) :: .ref this :: rest)) := by
  obtain ⟨r, hr, hF⟩ := Option.bind_eq_some_iff.mp hk
  have ob : ∀ r, fX3_hasMark this a1 a2 h = some r → tm_is h 3 this := fun r hr => by
    unfold fX3_hasMark at hr
    exact (tm_th_is hr).1
  exact tw_backi (tw_runV hC hR (cX3_hasMark_ok l G sz this a1 a2 ga1 ga2 h r hr) (n := 2) (As := [.int (tw_I a1), .int (tw_I a2)]) ⟨tw_in_TB 726 (by decide +kernel) rfl, tw_in_TB 61 (by decide +kernel) rfl, by decide +kernel⟩ (tw_in_TB 724 (by decide +kernel) rfl) (tw_in_TB 725 (by decide +kernel) rfl) hl ⟨rfl, rfl⟩ hRm (ob r hr) (T := TX3) (N := 9) rfl rfl hsz rfl hW hdg hf) hL (fun H1 locs1 a b g => kk r H1 locs1 a b g hF)
