def rmX9_takesTerm : Room := { frames := 5, cells := 0, slots := 0, locals := 107 }
set_option maxRecDepth 100000 in
set_option maxHeartbeats 4000000 in
theorem sX9_takesTerm_S0 {l : Launch} {p : Program} {e : Env} {s : State} {m : MethodId} {args : Array Value} {below : List Frame} {meth : Method} {c : Code} (G : tw_G) (sz : Nat) (hC : tw_C G p s m args meth c RX9 cX9_takesTerm 2 (some .boolean)) (this : Nat)  : ∀ (k : Nat) (st : (Int × tm_H) ⊕ (Int × Nat × Int × Int × tm_H)) (out : Int × tm_H), tm_wit (fX9_takesTerm_S0 this) k st = some out → match st with
    | .inl ((x1, h)) => ∀ (H : Heap) (locs : List Loc) (ls : Array Slot), tm_rg x1 → tw_Rel G sz h H → tw_L G locs → lv_has ls 2 [(0, .ref this), (1, .int (tw_I x1))] → W p l e rmX9_takesTerm s m args below meth c H locs 0 0 (MQ below (tw_Qi G sz out.1 out.2) args s 0 0 (tw_F G)) (F0 m 38 ls [])
    | .inr ((x1, s0, s1, s2, h)) => ∀ (H : Heap) (locs : List Loc) (ls : Array Slot), tm_rg x1 → tm_rg s1 → tm_rg s2 → tw_Rel G sz h H → tw_L G locs → lv_has ls 2 [(0, .ref this), (1, .int (tw_I x1))] → W p l e rmX9_takesTerm s m args below meth c H locs 0 0 (MQ below (tw_Qi G sz out.1 out.2) args s 0 0 (tw_F G)) (F0 m 68 ls [.int (tw_I s2), .int (tw_I s1), .ref s0]) := by
  intro k
  induction k with
  | zero =>
    intro st out hk
    exact absurd hk (by unfold tm_wit; exact fun z => by cases z)
  | succ k ih =>
    intro st out hk
    obtain ⟨X, hk, hf⟩ := tm_wit_succ hk
    obtain ⟨x1, h⟩ | ⟨x1, s0, s1, s2, h⟩ := st
    · intro H locs ls gx1 hR hL hl
      dsimp only [fX9_takesTerm_S0] at hk
      refine lv_iload_n hC.1 hC.2.1 dX9_takesTerm_38 rfl (lv_at hl 1 rfl) ?_
      refine lv_iconst (v := tw_I 4) hC.1 hC.2.1 dX9_takesTerm_39 rfl ?_
      refine tw_cge (tgt := 75) hC hk gx1 ((tw_rgL rfl)) dX9_takesTerm_40 (by decide) (fun _ hk => ?_) (fun _ hk => ?_)
      · refine lv_aload_n hC.1 hC.2.1 dX9_takesTerm_43 rfl (lv_at hl 0 rfl) ?_
        refine tw_getR hC hR hk flX9_25 dX9_takesTerm_44 (fun r7 hk => ?_)
        refine lv_iload_n hC.1 hC.2.1 dX9_takesTerm_47 rfl (lv_at hl 1 rfl) ?_
        refine lv_iconst (v := tw_I 1) hC.1 hC.2.1 dX9_takesTerm_48 rfl ?_
        refine tw_iadd hC dX9_takesTerm_49 ?_
        refine lv_iload_n hC.1 hC.2.1 dX9_takesTerm_50 rfl (lv_at hl 1 rfl) ?_
        refine lv_aload_n hC.1 hC.2.1 dX9_takesTerm_51 rfl (lv_at hl 0 rfl) ?_
        refine tw_getI hC hR hk flX9_143 dX9_takesTerm_52 (fun v8 gv8 hk => ?_)
        refine tw_cge (tgt := 67) hC hk gx1 gv8 dX9_takesTerm_55 (by decide) (fun _ hk => ?_) (fun _ hk => ?_)
        · refine lv_aload_n hC.1 hC.2.1 dX9_takesTerm_58 rfl (lv_at hl 0 rfl) ?_
          refine tw_getR hC hR hk flX9_38 dX9_takesTerm_59 (fun r9 hk => ?_)
          refine lv_iload_n hC.1 hC.2.1 dX9_takesTerm_62 rfl (lv_at hl 1 rfl) ?_
          refine tw_iald hC hR hk dX9_takesTerm_63 (fun v10 gv10 hk => ?_)
          refine lv_goto (tgt := 68) hC.1 hC.2.1 dX9_takesTerm_64 (by decide) ?_
          cases hk
          exact ih _ out hf H locs _ gx1 ((tm_wr_rg _)) gv10 hR hL (lv_sub hl [0, 1] rfl)
        · refine lv_iconst (v := tw_I (-1)) hC.1 hC.2.1 dX9_takesTerm_67 rfl ?_
          cases hk
          exact ih _ out hf H locs _ gx1 ((tm_wr_rg _)) ((tw_rgL rfl)) hR hL (lv_sub hl [0, 1] rfl)
      · refine lv_aload_n hC.1 hC.2.1 dX9_takesTerm_75 rfl (lv_at hl 0 rfl) ?_
        refine kX9_isThere hC hR hL hk mlX9_82 ⟨by decide, by decide⟩ hl.1 (Nat.le_of_ble_eq_true rfl) ⟨Nat.zero_le _, Nat.zero_le _⟩ dX9_takesTerm_76 (fun v11 H locs hR hL gv11 hk => ?_)
        refine tw_zne (tgt := 95) hC hk gv11 dX9_takesTerm_79 (by decide) (fun _ hk => ?_) (fun _ hk => ?_)
        · refine lv_aload_n hC.1 hC.2.1 dX9_takesTerm_82 rfl (lv_at hl 0 rfl) ?_
          refine tw_getR hC hR hk flX9_7 dX9_takesTerm_83 (fun r12 hk => ?_)
          refine lv_sipush (v := tw_I 307) hC.1 hC.2.1 dX9_takesTerm_86 (by decide) ?_
          refine tw_iald hC hR hk dX9_takesTerm_89 (fun v13 gv13 hk => ?_)
          refine lv_bipush (v := tw_I 12) hC.1 hC.2.1 dX9_takesTerm_90 (by decide) ?_
          refine tw_cne (tgt := 97) hC hk gv13 ((tw_rgL rfl)) dX9_takesTerm_92 (by decide) (fun _ hk => ?_) (fun _ hk => ?_)
          · refine lv_iconst (v := tw_I 0) hC.1 hC.2.1 dX9_takesTerm_95 rfl ?_
            cases hk
            cases hf
            exact tw_zret hC hR hL rfl rfl dX9_takesTerm_96
          · refine lv_aload_n hC.1 hC.2.1 dX9_takesTerm_97 rfl (lv_at hl 0 rfl) ?_
            refine kX9_comes hC hR hL hk mlX9_86 ⟨by decide, by decide⟩ hl.1 (Nat.le_of_ble_eq_true rfl) ⟨Nat.zero_le _, Nat.zero_le _⟩ dX9_takesTerm_98 (fun v14 h14 H locs hR hL gv14 hk => ?_)
            refine tw_zlt (tgt := 108) hC hk gv14 dX9_takesTerm_101 (by decide) (fun _ hk => ?_) (fun _ hk => ?_)
            · refine lv_iconst (v := tw_I 0) hC.1 hC.2.1 dX9_takesTerm_108 rfl ?_
              cases hk
              cases hf
              exact tw_zret hC hR hL rfl rfl dX9_takesTerm_109
            · refine lv_iconst (v := tw_I 1) hC.1 hC.2.1 dX9_takesTerm_104 rfl ?_
              refine lv_goto (tgt := 109) hC.1 hC.2.1 dX9_takesTerm_105 (by decide) ?_
              cases hk
              cases hf
              exact tw_zret hC hR hL rfl rfl dX9_takesTerm_109
        · refine lv_iconst (v := tw_I 0) hC.1 hC.2.1 dX9_takesTerm_95 rfl ?_
          cases hk
          cases hf
          exact tw_zret hC hR hL rfl rfl dX9_takesTerm_96
    · intro H locs ls gx1 gs1 gs2 hR hL hl
      dsimp only [fX9_takesTerm_S0] at hk
      refine tw_iast hC hR hL gs2 hk dX9_takesTerm_68 (fun h15 H locs hR hL hk => ?_)
      refine tw_iinc (lv' := [(1, .int (tw_I (tm_wr (x1 + 1)))), (0, .ref this)]) hC dX9_takesTerm_69 hl (k := 1) rfl (by decide) rfl (fun ls hl => ?_)
      refine lv_goto (tgt := 38) hC.1 hC.2.1 dX9_takesTerm_72 (by decide) ?_
      cases hk
      exact ih _ out hf H locs _ ((tm_wr_rg _)) hR hL (lv_sub hl [1, 0] rfl)
theorem sX9_takesTerm_L38 {l : Launch} {p : Program} {e : Env} {s : State} {m : MethodId} {args : Array Value} {below : List Frame} {meth : Method} {c : Code} (G : tw_G) (sz : Nat) (hC : tw_C G p s m args meth c RX9 cX9_takesTerm 2 (some .boolean)) (this : Nat)  (x1 : Int) (h : tm_H) (gx1 : tm_rg x1) (out : Int × tm_H) (hk : fX9_takesTerm_L38 this x1 h = some out) (H : Heap) (locs : List Loc) (ls : Array Slot) (hR : tw_Rel G sz h H) (hL : tw_L G locs) (hl : lv_has ls 2 [(0, .ref this), (1, .int (tw_I x1))]) : W p l e rmX9_takesTerm s m args below meth c H locs 0 0 (MQ below (tw_Qi G sz out.1 out.2) args s 0 0 (tw_F G)) (F0 m 38 ls []) := by
  obtain ⟨k, hk⟩ := tm_wl_iff.mp hk
  exact sX9_takesTerm_S0 G sz hC this  k (.inl ((x1, h))) out hk H locs ls gx1 hR hL hl
theorem sX9_takesTerm_L68 {l : Launch} {p : Program} {e : Env} {s : State} {m : MethodId} {args : Array Value} {below : List Frame} {meth : Method} {c : Code} (G : tw_G) (sz : Nat) (hC : tw_C G p s m args meth c RX9 cX9_takesTerm 2 (some .boolean)) (this : Nat)  (x1 : Int) (s0 : Nat) (s1 : Int) (s2 : Int) (h : tm_H) (gx1 : tm_rg x1) (gs1 : tm_rg s1) (gs2 : tm_rg s2) (out : Int × tm_H) (hk : fX9_takesTerm_L68 this x1 s0 s1 s2 h = some out) (H : Heap) (locs : List Loc) (ls : Array Slot) (hR : tw_Rel G sz h H) (hL : tw_L G locs) (hl : lv_has ls 2 [(0, .ref this), (1, .int (tw_I x1))]) : W p l e rmX9_takesTerm s m args below meth c H locs 0 0 (MQ below (tw_Qi G sz out.1 out.2) args s 0 0 (tw_F G)) (F0 m 68 ls [.int (tw_I s2), .int (tw_I s1), .ref s0]) := by
  obtain ⟨k, hk⟩ := tm_wl_iff.mp hk
  exact sX9_takesTerm_S0 G sz hC this  k (.inr ((x1, s0, s1, s2, h))) out hk H locs ls gx1 gs1 gs2 hR hL hl
set_option maxRecDepth 100000 in
set_option maxHeartbeats 4000000 in
theorem cX9_takesTerm_ok (l : Launch) (G : tw_G) (sz : Nat) (this : Nat)  (h : tm_H) (out : Int × tm_H) (hk : fX9_takesTerm this h = some out) : Met l yX9_takesTerm (tw_WS yX9_takesTerm cX9_takesTerm 2 (some .boolean)) rmX9_takesTerm (va_Pc [.ref this] (tw_Pre G sz h)) (tw_Qi G sz out.1 out.2) 0 0 (tw_F G) := by
  refine tw_met (by decide +kernel) (Nat.le_of_ble_eq_true rfl) ?_
  intro p e s m args below meth c H ls hC hnm hR hl
  unfold fX9_takesTerm at hk
  obtain ⟨hob, hk⟩ := tm_th_is hk
  have hl : lv_has ls 2 [(0, .ref this)] := hl
  have hL : tw_L G [] := fun q z => by cases z
  generalize hlc : ([] : List Loc) = locs at hL ⊢
  refine lv_aload_n hC.1 hC.2.1 dX9_takesTerm_0 rfl (lv_at hl 0 rfl) ?_
  refine lv_iconst (v := tw_I 4) hC.1 hC.2.1 dX9_takesTerm_1 rfl ?_
  refine kX9_takesWords hC hR hL hk ((tw_rgL rfl)) mlX9_155 ⟨by decide, by decide⟩ hl.1 (Nat.le_of_ble_eq_true rfl) ⟨Nat.zero_le _, Nat.zero_le _⟩ dX9_takesTerm_2 (fun v1 h1 H locs hR hL gv1 hk => ?_)
  refine tw_zeq (tgt := 24) hC hk gv1 dX9_takesTerm_5 (by decide) (fun _ hk => ?_) (fun _ hk => ?_)
  · refine lv_iconst (v := tw_I 0) hC.1 hC.2.1 dX9_takesTerm_24 rfl ?_
    cases hk
    exact tw_zret hC hR hL rfl rfl dX9_takesTerm_25
  · refine lv_aload_n hC.1 hC.2.1 dX9_takesTerm_8 rfl (lv_at hl 0 rfl) ?_
    refine tw_getI hC hR hk flX9_143 dX9_takesTerm_9 (fun v2 gv2 hk => ?_)
    refine tw_zeq (tgt := 24) hC hk gv2 dX9_takesTerm_12 (by decide) (fun _ hk => ?_) (fun _ hk => ?_)
    · refine lv_iconst (v := tw_I 0) hC.1 hC.2.1 dX9_takesTerm_24 rfl ?_
      cases hk
      exact tw_zret hC hR hL rfl rfl dX9_takesTerm_25
    · refine lv_aload_n hC.1 hC.2.1 dX9_takesTerm_15 rfl (lv_at hl 0 rfl) ?_
      refine lv_bipush (v := tw_I 59) hC.1 hC.2.1 dX9_takesTerm_16 (by decide) ?_
      refine kX9_isSign hC hR hL hk ((tw_rgL rfl)) mlX9_152 ⟨by decide, by decide⟩ hl.1 (Nat.le_of_ble_eq_true rfl) ⟨Nat.zero_le _, Nat.zero_le _⟩ dX9_takesTerm_18 (fun v3 H locs hR hL gv3 hk => ?_)
      refine tw_zne (tgt := 26) hC hk gv3 dX9_takesTerm_21 (by decide) (fun _ hk => ?_) (fun _ hk => ?_)
      · refine lv_iconst (v := tw_I 0) hC.1 hC.2.1 dX9_takesTerm_24 rfl ?_
        cases hk
        exact tw_zret hC hR hL rfl rfl dX9_takesTerm_25
      · refine lv_aload_n hC.1 hC.2.1 dX9_takesTerm_26 rfl (lv_at hl 0 rfl) ?_
        refine tw_getR hC hR hk flX9_25 dX9_takesTerm_27 (fun r4 hk => ?_)
        refine lv_iconst (v := tw_I 0) hC.1 hC.2.1 dX9_takesTerm_30 rfl ?_
        refine lv_aload_n hC.1 hC.2.1 dX9_takesTerm_31 rfl (lv_at hl 0 rfl) ?_
        refine tw_getI hC hR hk flX9_143 dX9_takesTerm_32 (fun v5 gv5 hk => ?_)
        refine tw_iast hC hR hL gv5 hk dX9_takesTerm_35 (fun h6 H locs hR hL hk => ?_)
        refine lv_iconst (v := tw_I 0) hC.1 hC.2.1 dX9_takesTerm_36 rfl ?_
        refine lv_istore_n (lv' := [(1, .int (tw_I 0)), (0, .ref this)]) hC.1 hC.2.1 dX9_takesTerm_37 rfl hl (by decide) rfl (fun ls hl => ?_)
        exact sX9_takesTerm_L38 G sz hC this 0 h6 ((tw_rgL rfl)) out hk H locs _ hR hL (lv_sub hl [1, 0] rfl)
set_option maxRecDepth 100000 in
theorem kX9_takesTerm {l : Launch} {p : Program} {e : Env} {R : Room} {s : State} {m : MethodId} {args : Array Value} {below : List Frame} {meth : Method} {c : Code} {H : Heap} {locs : List Loc} {cells slots : Nat} {Q : State → Prop} {cc : ByteArray} {pc nL idx : Nat} {ls : Array Slot} {rest : List Value} {G : tw_G} {h : tm_H} {own : String} {ret : Option FieldType} {α : Type} {x : α} {sz : Nat} {this : Nat} (hC : tw_C G p s m args meth c own cc nL ret) (hR : tw_Rel G sz h H) (hL : tw_L G locs) {F : Int × tm_H → Option α} (hk : (fX9_takesTerm this h).bind F = some x)  (hl : tw_mL own idx yX9_takesTerm) (hRm : rmX9_takesTerm.frames + 1 ≤ R.frames ∧ 8 + (2 + 11) + rmX9_takesTerm.locals ≤ R.locals) (hsz : ls.size = nL) (hW : (rest.map fun v => v.category).sum ≤ 8) (hf : cells + 0 ≤ R.cells ∧ slots + 0 ≤ R.slots) (hdg : decode cc pc = .ok (.invokevirtual idx, 3)) (kk : ∀ (r : Int) (h1 : tm_H) (H1 : Heap) (locs1 : List Loc), tw_Rel G sz h1 H1 → tw_L G locs1 → tm_rg r → F (r, h1) = some x → W p l e R s m args below meth c H1 locs1 (cells + 0) (slots + 0) Q (F0 m (pc + 3) ls (.int (tw_I r) :: rest))) : W p l e R s m args below meth c H locs cells slots Q (F0 m pc ls (.ref this :: rest)) := by
  obtain ⟨r, hr, hF⟩ := Option.bind_eq_some_iff.mp hk
  have ob : ∀ r, fX9_takesTerm this h = some r → tm_is h 9 this := fun r hr => by
    unfold fX9_takesTerm at hr
    exact (tm_th_is hr).1
  exact tw_backi (tw_runV hC hR (cX9_takesTerm_ok l G sz this  h r hr) (n := 0) (As := []) ⟨tw_in_TB 1018 (by decide +kernel) rfl, tw_in_TB 62 (by decide +kernel) rfl, by decide +kernel⟩ (tw_in_TB 1017 (by decide +kernel) rfl) (tw_in_TB 43 (by decide +kernel) rfl) hl ⟨rfl, rfl⟩ hRm (ob r hr) (T := TX9) (N := 15) rfl rfl hsz rfl hW hdg hf) hL (fun H1 locs1 a b g => kk r.1 r.2 H1 locs1 a b g hF)
def rmX9_takesForm : Room := { frames := 5, cells := 0, slots := 0, locals := 107 }
set_option maxRecDepth 100000 in
set_option maxHeartbeats 4000000 in
theorem cX9_takesForm_ok (l : Launch) (G : tw_G) (sz : Nat) (this : Nat)  (h : tm_H) (out : Int × tm_H) (hk : fX9_takesForm this h = some out) : Met l yX9_takesForm (tw_WS yX9_takesForm cX9_takesForm 3 (some .boolean)) rmX9_takesForm (va_Pc [.ref this] (tw_Pre G sz h)) (tw_Qi G sz out.1 out.2) 0 0 (tw_F G) := by
  refine tw_met (by decide +kernel) (Nat.le_of_ble_eq_true rfl) ?_
  intro p e s m args below meth c H ls hC hnm hR hl
  unfold fX9_takesForm at hk
  obtain ⟨hob, hk⟩ := tm_th_is hk
  have hl : lv_has ls 3 [(0, .ref this)] := hl
  have hL : tw_L G [] := fun q z => by cases z
  generalize hlc : ([] : List Loc) = locs at hL ⊢
  refine lv_aload_n hC.1 hC.2.1 dX9_takesForm_0 rfl (lv_at hl 0 rfl) ?_
  refine lv_iconst (v := tw_I 1) hC.1 hC.2.1 dX9_takesForm_1 rfl ?_
  refine kX9_takesWords hC hR hL hk ((tw_rgL rfl)) mlX9_155 ⟨by decide, by decide⟩ hl.1 (Nat.le_of_ble_eq_true rfl) ⟨Nat.zero_le _, Nat.zero_le _⟩ dX9_takesForm_2 (fun v1 h1 H locs hR hL gv1 hk => ?_)
  refine tw_zeq (tgt := 24) hC hk gv1 dX9_takesForm_5 (by decide) (fun _ hk => ?_) (fun _ hk => ?_)
  · refine lv_iconst (v := tw_I 0) hC.1 hC.2.1 dX9_takesForm_24 rfl ?_
    cases hk
    exact tw_zret hC hR hL rfl rfl dX9_takesForm_25
  · refine lv_aload_n hC.1 hC.2.1 dX9_takesForm_8 rfl (lv_at hl 0 rfl) ?_
    refine tw_getI hC hR hk flX9_143 dX9_takesForm_9 (fun v2 gv2 hk => ?_)
    refine tw_zeq (tgt := 24) hC hk gv2 dX9_takesForm_12 (by decide) (fun _ hk => ?_) (fun _ hk => ?_)
    · refine lv_iconst (v := tw_I 0) hC.1 hC.2.1 dX9_takesForm_24 rfl ?_
      cases hk
      exact tw_zret hC hR hL rfl rfl dX9_takesForm_25
    · refine lv_aload_n hC.1 hC.2.1 dX9_takesForm_15 rfl (lv_at hl 0 rfl) ?_
      refine lv_bipush (v := tw_I 61) hC.1 hC.2.1 dX9_takesForm_16 (by decide) ?_
      refine kX9_isSign hC hR hL hk ((tw_rgL rfl)) mlX9_152 ⟨by decide, by decide⟩ hl.1 (Nat.le_of_ble_eq_true rfl) ⟨Nat.zero_le _, Nat.zero_le _⟩ dX9_takesForm_18 (fun v3 H locs hR hL gv3 hk => ?_)
      refine tw_zne (tgt := 26) hC hk gv3 dX9_takesForm_21 (by decide) (fun _ hk => ?_) (fun _ hk => ?_)
      · refine lv_iconst (v := tw_I 0) hC.1 hC.2.1 dX9_takesForm_24 rfl ?_
        cases hk
        exact tw_zret hC hR hL rfl rfl dX9_takesForm_25
      · refine lv_aload_n hC.1 hC.2.1 dX9_takesForm_26 rfl (lv_at hl 0 rfl) ?_
        refine tw_getR hC hR hk flX9_38 dX9_takesForm_27 (fun r4 hk => ?_)
        refine lv_iconst (v := tw_I 0) hC.1 hC.2.1 dX9_takesForm_30 rfl ?_
        refine tw_iald hC hR hk dX9_takesForm_31 (fun v5 gv5 hk => ?_)
        refine lv_istore_n (lv' := [(1, .int (tw_I v5)), (0, .ref this)]) hC.1 hC.2.1 dX9_takesForm_32 rfl hl (by decide) rfl (fun ls hl => ?_)
        refine lv_aload_n hC.1 hC.2.1 dX9_takesForm_33 rfl (lv_at hl 1 rfl) ?_
        refine lv_iconst (v := tw_I 1) hC.1 hC.2.1 dX9_takesForm_34 rfl ?_
        refine kX9_takesWords hC hR hL hk ((tw_rgL rfl)) mlX9_155 ⟨by decide, by decide⟩ hl.1 (Nat.le_of_ble_eq_true rfl) ⟨Nat.zero_le _, Nat.zero_le _⟩ dX9_takesForm_35 (fun v6 h6 H locs hR hL gv6 hk => ?_)
        refine tw_zeq (tgt := 57) hC hk gv6 dX9_takesForm_38 (by decide) (fun _ hk => ?_) (fun _ hk => ?_)
        · refine lv_iconst (v := tw_I 0) hC.1 hC.2.1 dX9_takesForm_57 rfl ?_
          cases hk
          exact tw_zret hC hR hL rfl rfl dX9_takesForm_58
        · refine lv_aload_n hC.1 hC.2.1 dX9_takesForm_41 rfl (lv_at hl 1 rfl) ?_
          refine tw_getI hC hR hk flX9_143 dX9_takesForm_42 (fun v7 gv7 hk => ?_)
          refine tw_zeq (tgt := 57) hC hk gv7 dX9_takesForm_45 (by decide) (fun _ hk => ?_) (fun _ hk => ?_)
          · refine lv_iconst (v := tw_I 0) hC.1 hC.2.1 dX9_takesForm_57 rfl ?_
            cases hk
            exact tw_zret hC hR hL rfl rfl dX9_takesForm_58
          · refine lv_aload_n hC.1 hC.2.1 dX9_takesForm_48 rfl (lv_at hl 1 rfl) ?_
            refine lv_bipush (v := tw_I 59) hC.1 hC.2.1 dX9_takesForm_49 (by decide) ?_
            refine kX9_isSign hC hR hL hk ((tw_rgL rfl)) mlX9_152 ⟨by decide, by decide⟩ hl.1 (Nat.le_of_ble_eq_true rfl) ⟨Nat.zero_le _, Nat.zero_le _⟩ dX9_takesForm_51 (fun v8 H locs hR hL gv8 hk => ?_)
            refine tw_zne (tgt := 59) hC hk gv8 dX9_takesForm_54 (by decide) (fun _ hk => ?_) (fun _ hk => ?_)
            · refine lv_iconst (v := tw_I 0) hC.1 hC.2.1 dX9_takesForm_57 rfl ?_
              cases hk
              exact tw_zret hC hR hL rfl rfl dX9_takesForm_58
            · refine lv_aload_n hC.1 hC.2.1 dX9_takesForm_59 rfl (lv_at hl 1 rfl) ?_
              refine tw_getR hC hR hk flX9_7 dX9_takesForm_60 (fun r9 hk => ?_)
              refine lv_iconst (v := tw_I 1) hC.1 hC.2.1 dX9_takesForm_63 rfl ?_
              refine lv_aload_n hC.1 hC.2.1 dX9_takesForm_64 rfl (lv_at hl 1 rfl) ?_
              refine tw_getR hC hR hk flX9_38 dX9_takesForm_65 (fun r10 hk => ?_)
              refine lv_iconst (v := tw_I 0) hC.1 hC.2.1 dX9_takesForm_68 rfl ?_
              refine tw_iald hC hR hk dX9_takesForm_69 (fun v11 gv11 hk => ?_)
              refine tw_iadd hC dX9_takesForm_70 ?_
              refine tw_iald hC hR hk dX9_takesForm_71 (fun v12 gv12 hk => ?_)
              refine lv_istore_n (lv' := [(2, .int (tw_I v12)), (1, .int (tw_I v5)), (0, .ref this)]) hC.1 hC.2.1 dX9_takesForm_72 rfl hl (by decide) rfl (fun ls hl => ?_)
              refine lv_aload_n hC.1 hC.2.1 dX9_takesForm_73 rfl (lv_at hl 2 rfl) ?_
              refine lv_iload_n hC.1 hC.2.1 dX9_takesForm_74 rfl (lv_at hl 1 rfl) ?_
              refine lv_iload_n hC.1 hC.2.1 dX9_takesForm_75 rfl (lv_at hl 0 rfl) ?_
              refine kX9_canBe hC hR hL hk gv5 gv12 mlX9_96 ⟨by decide, by decide⟩ hl.1 (Nat.le_of_ble_eq_true rfl) ⟨Nat.zero_le _, Nat.zero_le _⟩ dX9_takesForm_76 (fun v13 h13 H locs hR hL gv13 hk => ?_)
              refine tw_zne (tgt := 84) hC hk gv13 dX9_takesForm_79 (by decide) (fun _ hk => ?_) (fun _ hk => ?_)
              · refine lv_iconst (v := tw_I 0) hC.1 hC.2.1 dX9_takesForm_82 rfl ?_
                cases hk
                exact tw_zret hC hR hL rfl rfl dX9_takesForm_83
              · refine lv_aload_n hC.1 hC.2.1 dX9_takesForm_84 rfl (lv_at hl 2 rfl) ?_
                refine tw_getR hC hR hk flX9_7 dX9_takesForm_85 (fun r14 hk => ?_)
                refine lv_iconst (v := tw_I 1) hC.1 hC.2.1 dX9_takesForm_88 rfl ?_
                refine lv_iload_n hC.1 hC.2.1 dX9_takesForm_89 rfl (lv_at hl 1 rfl) ?_
                refine tw_iadd hC dX9_takesForm_90 ?_
                refine lv_iload_n hC.1 hC.2.1 dX9_takesForm_91 rfl (lv_at hl 0 rfl) ?_
                refine tw_iast hC hR hL gv12 hk dX9_takesForm_92 (fun h15 H locs hR hL hk => ?_)
                refine lv_iconst (v := tw_I 1) hC.1 hC.2.1 dX9_takesForm_93 rfl ?_
                cases hk
                exact tw_zret hC hR hL rfl rfl dX9_takesForm_94
set_option maxRecDepth 100000 in
theorem kX9_takesForm {l : Launch} {p : Program} {e : Env} {R : Room} {s : State} {m : MethodId} {args : Array Value} {below : List Frame} {meth : Method} {c : Code} {H : Heap} {locs : List Loc} {cells slots : Nat} {Q : State → Prop} {cc : ByteArray} {pc nL idx : Nat} {ls : Array Slot} {rest : List Value} {G : tw_G} {h : tm_H} {own : String} {ret : Option FieldType} {α : Type} {x : α} {sz : Nat} {this : Nat} (hC : tw_C G p s m args meth c own cc nL ret) (hR : tw_Rel G sz h H) (hL : tw_L G locs) {F : Int × tm_H → Option α} (hk : (fX9_takesForm this h).bind F = some x)  (hl : tw_mL own idx yX9_takesForm) (hRm : rmX9_takesForm.frames + 1 ≤ R.frames ∧ 8 + (3 + 11) + rmX9_takesForm.locals ≤ R.locals) (hsz : ls.size = nL) (hW : (rest.map fun v => v.category).sum ≤ 8) (hf : cells + 0 ≤ R.cells ∧ slots + 0 ≤ R.slots) (hdg : decode cc pc = .ok (.invokevirtual idx, 3)) (kk : ∀ (r : Int) (h1 : tm_H) (H1 : Heap) (locs1 : List Loc), tw_Rel G sz h1 H1 → tw_L G locs1 → tm_rg r → F (r, h1) = some x → W p l e R s m args below meth c H1 locs1 (cells + 0) (slots + 0) Q (F0 m (pc + 3) ls (.int (tw_I r) :: rest))) : W p l e R s m args below meth c H locs cells slots Q (F0 m pc ls (.ref this :: rest)) := by
  obtain ⟨r, hr, hF⟩ := Option.bind_eq_some_iff.mp hk
  have ob : ∀ r, fX9_takesForm this h = some r → tm_is h 9 this := fun r hr => by
    unfold fX9_takesForm at hr
    exact (tm_th_is hr).1
  exact tw_backi (tw_runV hC hR (cX9_takesForm_ok l G sz this  h r hr) (n := 0) (As := []) ⟨tw_in_TB 1022 (by decide +kernel) rfl, tw_in_TB 62 (by decide +kernel) rfl, by decide +kernel⟩ (tw_in_TB 1021 (by decide +kernel) rfl) (tw_in_TB 44 (by decide +kernel) rfl) hl ⟨rfl, rfl⟩ hRm (ob r hr) (T := TX9) (N := 15) rfl rfl hsz rfl hW hdg hf) hL (fun H1 locs1 a b g => kk r.1 r.2 H1 locs1 a b g hF)
def rmX9_load : Room := { frames := 6, cells := 0, slots := 0, locals := 129 }
set_option maxRecDepth 100000 in
set_option maxHeartbeats 4000000 in
theorem sX9_load_S0 {l : Launch} {p : Program} {e : Env} {s : State} {m : MethodId} {args : Array Value} {below : List Frame} {meth : Method} {c : Code} (G : tw_G) (sz : Nat) (hC : tw_C G p s m args meth c RX9 cX9_load 4 (some .int)) (this : Nat)  : ∀ (k : Nat) (st : (Int × tm_H)) (out : Int × tm_H), tm_wit (fX9_load_S0 this) k st = some out → match st with
    | (x3, h) => ∀ (H : Heap) (locs : List Loc) (ls : Array Slot), tm_rg x3 → tw_Rel G sz h H → tw_L G locs → lv_has ls 4 [(0, .ref this), (3, .int (tw_I x3))] → W p l e rmX9_load s m args below meth c H locs 0 0 (MQ below (tw_Qi G sz out.1 out.2) args s 0 0 (tw_F G)) (F0 m 145 ls []) := by
  intro k
  induction k with
  | zero =>
    intro st out hk
    exact absurd hk (by unfold tm_wit; exact fun z => by cases z)
  | succ k ih =>
    intro st out hk
    obtain ⟨X, hk, hf⟩ := tm_wit_succ hk
    obtain ⟨x3, h⟩ := st
    intro H locs ls gx3 hR hL hl
    dsimp only [fX9_load_S0] at hk
    refine lv_iload_n hC.1 hC.2.1 dX9_load_145 rfl (lv_at hl 1 rfl) ?_
    refine lv_sipush (v := tw_I 874) hC.1 hC.2.1 dX9_load_146 (by decide) ?_
    refine tw_cge (tgt := 170) hC hk gx3 ((tw_rgL rfl)) dX9_load_149 (by decide) (fun _ hk => ?_) (fun _ hk => ?_)
    · refine lv_aload_n hC.1 hC.2.1 dX9_load_152 rfl (lv_at hl 0 rfl) ?_
      refine tw_getR hC hR hk flX9_7 dX9_load_153 (fun r19 hk => ?_)
      refine lv_iload_n hC.1 hC.2.1 dX9_load_156 rfl (lv_at hl 1 rfl) ?_
      refine lv_aload_n hC.1 hC.2.1 dX9_load_157 rfl (lv_at hl 0 rfl) ?_
      refine tw_getR hC hR hk flX9_16 dX9_load_158 (fun r20 hk => ?_)
      refine lv_iload_n hC.1 hC.2.1 dX9_load_161 rfl (lv_at hl 1 rfl) ?_
      refine tw_iald hC hR hk dX9_load_162 (fun v21 gv21 hk => ?_)
      refine tw_iast hC hR hL gv21 hk dX9_load_163 (fun h22 H locs hR hL hk => ?_)
      refine tw_iinc (lv' := [(3, .int (tw_I (tm_wr (x3 + 1)))), (0, .ref this)]) hC dX9_load_164 hl (k := 1) rfl (by decide) rfl (fun ls hl => ?_)
      refine lv_goto (tgt := 145) hC.1 hC.2.1 dX9_load_167 (by decide) ?_
      cases hk
      exact ih _ out hf H locs _ ((tm_wr_rg _)) hR hL (lv_sub hl [1, 0] rfl)
    · refine lv_sipush (v := tw_I (-1000)) hC.1 hC.2.1 dX9_load_170 (by decide) ?_
      refine lv_aload_n hC.1 hC.2.1 dX9_load_173 rfl (lv_at hl 0 rfl) ?_
      refine tw_getI hC hR hk flX9_131 dX9_load_174 (fun v23 gv23 hk => ?_)
      refine tw_isub hC dX9_load_177 ?_
      cases hk
      cases hf
      exact tw_iret hC hR hL ((tm_wr_rg _)) rfl rfl dX9_load_178
theorem sX9_load_L145 {l : Launch} {p : Program} {e : Env} {s : State} {m : MethodId} {args : Array Value} {below : List Frame} {meth : Method} {c : Code} (G : tw_G) (sz : Nat) (hC : tw_C G p s m args meth c RX9 cX9_load 4 (some .int)) (this : Nat)  (x3 : Int) (h : tm_H) (gx3 : tm_rg x3) (out : Int × tm_H) (hk : fX9_load_L145 this x3 h = some out) (H : Heap) (locs : List Loc) (ls : Array Slot) (hR : tw_Rel G sz h H) (hL : tw_L G locs) (hl : lv_has ls 4 [(0, .ref this), (3, .int (tw_I x3))]) : W p l e rmX9_load s m args below meth c H locs 0 0 (MQ below (tw_Qi G sz out.1 out.2) args s 0 0 (tw_F G)) (F0 m 145 ls []) := by
  obtain ⟨k, hk⟩ := tm_wl_iff.mp hk
  exact sX9_load_S0 G sz hC this  k ((x3, h)) out hk H locs ls gx3 hR hL hl
set_option maxRecDepth 100000 in
set_option maxHeartbeats 4000000 in
theorem sX9_load_L139 {l : Launch} {p : Program} {e : Env} {s : State} {m : MethodId} {args : Array Value} {below : List Frame} {meth : Method} {c : Code} (G : tw_G) (sz : Nat) (hC : tw_C G p s m args meth c RX9 cX9_load 4 (some .int)) (this : Nat)  (x1 : Int) (x2 : Int) (h : tm_H) (gx1 : tm_rg x1) (gx2 : tm_rg x2) (out : Int × tm_H) (hk : fX9_load_L139 this x1 x2 h = some out) (H : Heap) (locs : List Loc) (ls : Array Slot) (hR : tw_Rel G sz h H) (hL : tw_L G locs) (hl : lv_has ls 4 [(0, .ref this), (1, .int (tw_I x1)), (2, .int (tw_I x2))]) : W p l e rmX9_load s m args below meth c H locs 0 0 (MQ below (tw_Qi G sz out.1 out.2) args s 0 0 (tw_F G)) (F0 m 139 ls []) := by
  unfold fX9_load_L139 at hk
  refine lv_iload_n hC.1 hC.2.1 dX9_load_139 rfl (lv_at hl 2 rfl) ?_
  refine tw_zne (tgt := 179) hC hk gx2 dX9_load_140 (by decide) (fun _ hk => ?_) (fun _ hk => ?_)
  · refine lv_iconst (v := tw_I 0) hC.1 hC.2.1 dX9_load_143 rfl ?_
    refine lv_istore_n (lv' := [(3, .int (tw_I 0)), (0, .ref this), (1, .int (tw_I x1)), (2, .int (tw_I x2))]) hC.1 hC.2.1 dX9_load_144 rfl hl (by decide) rfl (fun ls hl => ?_)
    exact sX9_load_L145 G sz hC this 0 h ((tw_rgL rfl)) out hk H locs _ hR hL (lv_sub hl [1, 0] rfl)
  · refine lv_aload_n hC.1 hC.2.1 dX9_load_179 rfl (lv_at hl 0 rfl) ?_
    refine lv_aload_n hC.1 hC.2.1 dX9_load_180 rfl (lv_at hl 0 rfl) ?_
    refine tw_getR hC hR hk flX9_16 dX9_load_181 (fun r16 hk => ?_)
    refine kX9_saves hC hR hL hk mlX9_64 ⟨by decide, by decide⟩ hl.1 (Nat.le_of_ble_eq_true rfl) ⟨Nat.zero_le _, Nat.zero_le _⟩ dX9_load_184 (fun h17 H locs hR hL hk => ?_)
    refine lv_aload_n hC.1 hC.2.1 dX9_load_187 rfl (lv_at hl 0 rfl) ?_
    refine lv_iconst (v := tw_I 0) hC.1 hC.2.1 dX9_load_188 rfl ?_
    refine tw_putI hC hR hL ((tw_rgL rfl)) hk fpX9_125 dX9_load_189 (fun h18 H locs hR hL hk => ?_)
    refine lv_iload_n hC.1 hC.2.1 dX9_load_192 rfl (lv_at hl 1 rfl) ?_
    cases hk
    exact tw_iret hC hR hL gx1 rfl rfl dX9_load_193
set_option maxRecDepth 100000 in
set_option maxHeartbeats 4000000 in
theorem sX9_load_S2 {l : Launch} {p : Program} {e : Env} {s : State} {m : MethodId} {args : Array Value} {below : List Frame} {meth : Method} {c : Code} (G : tw_G) (sz : Nat) (hC : tw_C G p s m args meth c RX9 cX9_load 4 (some .int)) (this : Nat)  : ∀ (k : Nat) (st : (Int × Int × tm_H) ⊕ (Int × tm_H) ⊕ (Int × Int × tm_H)) (out : Int × tm_H), tm_wit (fX9_load_S2 this) k st = some out → match st with
    | .inl ((x1, x2, h)) => ∀ (H : Heap) (locs : List Loc) (ls : Array Slot), tm_rg x1 → tm_rg x2 → tw_Rel G sz h H → tw_L G locs → lv_has ls 4 [(0, .ref this), (1, .int (tw_I x1)), (2, .int (tw_I x2))] → W p l e rmX9_load s m args below meth c H locs 0 0 (MQ below (tw_Qi G sz out.1 out.2) args s 0 0 (tw_F G)) (F0 m 40 ls [])
    | .inr (.inl ((x1, h))) => ∀ (H : Heap) (locs : List Loc) (ls : Array Slot), tm_rg x1 → tw_Rel G sz h H → tw_L G locs → lv_has ls 4 [(0, .ref this), (1, .int (tw_I x1))] → W p l e rmX9_load s m args below meth c H locs 0 0 (MQ below (tw_Qi G sz out.1 out.2) args s 0 0 (tw_F G)) (F0 m 123 ls [])
    | .inr (.inr ((x1, s0, h))) => ∀ (H : Heap) (locs : List Loc) (ls : Array Slot), tm_rg x1 → tm_rg s0 → tw_Rel G sz h H → tw_L G locs → lv_has ls 4 [(0, .ref this), (1, .int (tw_I x1))] → W p l e rmX9_load s m args below meth c H locs 0 0 (MQ below (tw_Qi G sz out.1 out.2) args s 0 0 (tw_F G)) (F0 m 124 ls [.int (tw_I s0)]) := by
  intro k
  induction k with
  | zero =>
    intro st out hk
    exact absurd hk (by unfold tm_wit; exact fun z => by cases z)
  | succ k ih =>
    intro st out hk
    obtain ⟨X, hk, hf⟩ := tm_wit_succ hk
    obtain ⟨x1, x2, h⟩ | ⟨x1, h⟩ | ⟨x1, s0, h⟩ := st
    · intro H locs ls gx1 gx2 hR hL hl
      dsimp only [fX9_load_S2] at hk
      refine lv_iload_n hC.1 hC.2.1 dX9_load_40 rfl (lv_at hl 2 rfl) ?_
      refine tw_zeq (tgt := 139) hC hk gx2 dX9_load_41 (by decide) (fun _ hk => ?_) (fun _ hk => ?_)
      · obtain ⟨r, hk2, hX⟩ := tm_out_some hk
        rw [hX] at hf
        have hr : r = out := Option.some.inj hf
        rw [hr] at hk2
        exact sX9_load_L139 G sz hC this x1 x2 h gx1 gx2 out hk2 H locs _ hR hL (lv_sub hl [0, 1, 2] rfl)
      · refine lv_aload_n hC.1 hC.2.1 dX9_load_44 rfl (lv_at hl 0 rfl) ?_
        refine tw_getI hC hR hk flX9_131 dX9_load_45 (fun v7 gv7 hk => ?_)
        refine lv_aload_n hC.1 hC.2.1 dX9_load_48 rfl (lv_at hl 0 rfl) ?_
        refine tw_getI hC hR hk flX9_125 dX9_load_49 (fun v8 gv8 hk => ?_)
        refine tw_cge (tgt := 139) hC hk gv7 gv8 dX9_load_52 (by decide) (fun _ hk => ?_) (fun _ hk => ?_)
        · refine lv_aload_n hC.1 hC.2.1 dX9_load_55 rfl (lv_at hl 0 rfl) ?_
          refine lv_bipush (v := tw_I 99) hC.1 hC.2.1 dX9_load_56 (by decide) ?_
          refine lv_bipush (v := tw_I 104) hC.1 hC.2.1 dX9_load_58 (by decide) ?_
          refine lv_iconst (v := tw_I 0) hC.1 hC.2.1 dX9_load_60 rfl ?_
          refine lv_iconst (v := tw_I 0) hC.1 hC.2.1 dX9_load_61 rfl ?_
          refine kX9_isName hC hR hL hk ((tw_rgL rfl)) ((tw_rgL rfl)) ((tw_rgL rfl)) ((tw_rgL rfl)) mlX9_158 ⟨by decide, by decide⟩ hl.1 (Nat.le_of_ble_eq_true rfl) ⟨Nat.zero_le _, Nat.zero_le _⟩ dX9_load_62 (fun v9 H locs hR hL gv9 hk => ?_)
          refine tw_zeq (tgt := 75) hC hk gv9 dX9_load_65 (by decide) (fun _ hk => ?_) (fun _ hk => ?_)
          · refine lv_aload_n hC.1 hC.2.1 dX9_load_75 rfl (lv_at hl 0 rfl) ?_
            refine lv_bipush (v := tw_I 116) hC.1 hC.2.1 dX9_load_76 (by decide) ?_
            refine lv_bipush (v := tw_I 101) hC.1 hC.2.1 dX9_load_78 (by decide) ?_
            refine lv_bipush (v := tw_I 114) hC.1 hC.2.1 dX9_load_80 (by decide) ?_
            refine lv_bipush (v := tw_I 109) hC.1 hC.2.1 dX9_load_82 (by decide) ?_
            refine kX9_isName hC hR hL hk ((tw_rgL rfl)) ((tw_rgL rfl)) ((tw_rgL rfl)) ((tw_rgL rfl)) mlX9_158 ⟨by decide, by decide⟩ hl.1 (Nat.le_of_ble_eq_true rfl) ⟨Nat.zero_le _, Nat.zero_le _⟩ dX9_load_84 (fun v10 H locs hR hL gv10 hk => ?_)
            refine tw_zeq (tgt := 97) hC hk gv10 dX9_load_87 (by decide) (fun _ hk => ?_) (fun _ hk => ?_)
            · refine lv_aload_n hC.1 hC.2.1 dX9_load_97 rfl (lv_at hl 0 rfl) ?_
              refine lv_bipush (v := tw_I 102) hC.1 hC.2.1 dX9_load_98 (by decide) ?_
              refine lv_bipush (v := tw_I 111) hC.1 hC.2.1 dX9_load_100 (by decide) ?_
              refine lv_bipush (v := tw_I 114) hC.1 hC.2.1 dX9_load_102 (by decide) ?_
              refine lv_bipush (v := tw_I 109) hC.1 hC.2.1 dX9_load_104 (by decide) ?_
              refine kX9_isName hC hR hL hk ((tw_rgL rfl)) ((tw_rgL rfl)) ((tw_rgL rfl)) ((tw_rgL rfl)) mlX9_158 ⟨by decide, by decide⟩ hl.1 (Nat.le_of_ble_eq_true rfl) ⟨Nat.zero_le _, Nat.zero_le _⟩ dX9_load_106 (fun v11 H locs hR hL gv11 hk => ?_)
              refine tw_zeq (tgt := 123) hC hk gv11 dX9_load_109 (by decide) (fun _ hk => ?_) (fun _ hk => ?_)
              · cases hk
                exact ih _ out hf H locs _ gx1 hR hL (lv_sub hl [0, 1] rfl)
              · refine lv_aload_n hC.1 hC.2.1 dX9_load_112 rfl (lv_at hl 0 rfl) ?_
                refine kX9_takesForm hC hR hL hk mlX9_167 ⟨by decide, by decide⟩ hl.1 (Nat.le_of_ble_eq_true rfl) ⟨Nat.zero_le _, Nat.zero_le _⟩ dX9_load_113 (fun v12 h12 H locs hR hL gv12 hk => ?_)
                refine tw_zeq (tgt := 123) hC hk gv12 dX9_load_116 (by decide) (fun _ hk => ?_) (fun _ hk => ?_)
                · cases hk
                  exact ih _ out hf H locs _ gx1 hR hL (lv_sub hl [0, 1] rfl)
                · refine lv_iconst (v := tw_I 1) hC.1 hC.2.1 dX9_load_119 rfl ?_
                  refine lv_goto (tgt := 124) hC.1 hC.2.1 dX9_load_120 (by decide) ?_
                  cases hk
                  exact ih _ out hf H locs _ gx1 ((tw_rgL rfl)) hR hL (lv_sub hl [0, 1] rfl)
            · refine lv_aload_n hC.1 hC.2.1 dX9_load_90 rfl (lv_at hl 0 rfl) ?_
              refine kX9_takesTerm hC hR hL hk mlX9_164 ⟨by decide, by decide⟩ hl.1 (Nat.le_of_ble_eq_true rfl) ⟨Nat.zero_le _, Nat.zero_le _⟩ dX9_load_91 (fun v13 h13 H locs hR hL gv13 hk => ?_)
              refine lv_goto (tgt := 124) hC.1 hC.2.1 dX9_load_94 (by decide) ?_
              cases hk
              exact ih _ out hf H locs _ gx1 gv13 hR hL (lv_sub hl [0, 1] rfl)
          · refine lv_aload_n hC.1 hC.2.1 dX9_load_68 rfl (lv_at hl 0 rfl) ?_
            refine kX9_takesChapter hC hR hL hk mlX9_161 ⟨by decide, by decide⟩ hl.1 (Nat.le_of_ble_eq_true rfl) ⟨Nat.zero_le _, Nat.zero_le _⟩ dX9_load_69 (fun v14 h14 H locs hR hL gv14 hk => ?_)
            refine lv_goto (tgt := 124) hC.1 hC.2.1 dX9_load_72 (by decide) ?_
            cases hk
            exact ih _ out hf H locs _ gx1 gv14 hR hL (lv_sub hl [0, 1] rfl)
        · obtain ⟨r, hk2, hX⟩ := tm_out_some hk
          rw [hX] at hf
          have hr : r = out := Option.some.inj hf
          rw [hr] at hk2
          exact sX9_load_L139 G sz hC this x1 x2 h gx1 gx2 out hk2 H locs _ hR hL (lv_sub hl [0, 1, 2] rfl)
    · intro H locs ls gx1 hR hL hl
      dsimp only [fX9_load_S2] at hk
      refine lv_iconst (v := tw_I 0) hC.1 hC.2.1 dX9_load_123 rfl ?_
      cases hk
      exact ih _ out hf H locs _ gx1 ((tw_rgL rfl)) hR hL (lv_sub hl [0, 1] rfl)
    · intro H locs ls gx1 gs0 hR hL hl
      dsimp only [fX9_load_S2] at hk
      refine lv_istore_n (lv' := [(2, .int (tw_I s0)), (0, .ref this), (1, .int (tw_I x1))]) hC.1 hC.2.1 dX9_load_124 rfl hl (by decide) rfl (fun ls hl => ?_)
      refine lv_iload_n hC.1 hC.2.1 dX9_load_125 rfl (lv_at hl 0 rfl) ?_
      refine tw_zeq (tgt := 40) hC hk gs0 dX9_load_126 (by decide) (fun _ hk => ?_) (fun _ hk => ?_)
      · cases hk
        exact ih _ out hf H locs _ gx1 gs0 hR hL (lv_sub hl [1, 2, 0] rfl)
      · refine tw_iinc (lv' := [(1, .int (tw_I (tm_wr (x1 + 1)))), (2, .int (tw_I s0)), (0, .ref this)]) hC dX9_load_129 hl (k := 2) rfl (by decide) rfl (fun ls hl => ?_)
        refine lv_aload_n hC.1 hC.2.1 dX9_load_132 rfl (lv_at hl 2 rfl) ?_
        refine kX9_token hC hR hL hk mlX9_146 ⟨by decide, by decide⟩ hl.1 (Nat.le_of_ble_eq_true rfl) ⟨Nat.zero_le _, Nat.zero_le _⟩ dX9_load_133 (fun h15 H locs hR hL hk => ?_)
        refine lv_goto (tgt := 40) hC.1 hC.2.1 dX9_load_136 (by decide) ?_
        cases hk
        exact ih _ out hf H locs _ ((tm_wr_rg _)) gs0 hR hL (lv_sub hl [2, 0, 1] rfl)
theorem sX9_load_L40 {l : Launch} {p : Program} {e : Env} {s : State} {m : MethodId} {args : Array Value} {below : List Frame} {meth : Method} {c : Code} (G : tw_G) (sz : Nat) (hC : tw_C G p s m args meth c RX9 cX9_load 4 (some .int)) (this : Nat)  (x1 : Int) (x2 : Int) (h : tm_H) (gx1 : tm_rg x1) (gx2 : tm_rg x2) (out : Int × tm_H) (hk : fX9_load_L40 this x1 x2 h = some out) (H : Heap) (locs : List Loc) (ls : Array Slot) (hR : tw_Rel G sz h H) (hL : tw_L G locs) (hl : lv_has ls 4 [(0, .ref this), (1, .int (tw_I x1)), (2, .int (tw_I x2))]) : W p l e rmX9_load s m args below meth c H locs 0 0 (MQ below (tw_Qi G sz out.1 out.2) args s 0 0 (tw_F G)) (F0 m 40 ls []) := by
  obtain ⟨k, hk⟩ := tm_wl_iff.mp hk
  exact sX9_load_S2 G sz hC this  k (.inl ((x1, x2, h))) out hk H locs ls gx1 gx2 hR hL hl
theorem sX9_load_L123 {l : Launch} {p : Program} {e : Env} {s : State} {m : MethodId} {args : Array Value} {below : List Frame} {meth : Method} {c : Code} (G : tw_G) (sz : Nat) (hC : tw_C G p s m args meth c RX9 cX9_load 4 (some .int)) (this : Nat)  (x1 : Int) (h : tm_H) (gx1 : tm_rg x1) (out : Int × tm_H) (hk : fX9_load_L123 this x1 h = some out) (H : Heap) (locs : List Loc) (ls : Array Slot) (hR : tw_Rel G sz h H) (hL : tw_L G locs) (hl : lv_has ls 4 [(0, .ref this), (1, .int (tw_I x1))]) : W p l e rmX9_load s m args below meth c H locs 0 0 (MQ below (tw_Qi G sz out.1 out.2) args s 0 0 (tw_F G)) (F0 m 123 ls []) := by
  obtain ⟨k, hk⟩ := tm_wl_iff.mp hk
  exact sX9_load_S2 G sz hC this  k (.inr (.inl ((x1, h)))) out hk H locs ls gx1 hR hL hl
theorem sX9_load_L124 {l : Launch} {p : Program} {e : Env} {s : State} {m : MethodId} {args : Array Value} {below : List Frame} {meth : Method} {c : Code} (G : tw_G) (sz : Nat) (hC : tw_C G p s m args meth c RX9 cX9_load 4 (some .int)) (this : Nat)  (x1 : Int) (s0 : Int) (h : tm_H) (gx1 : tm_rg x1) (gs0 : tm_rg s0) (out : Int × tm_H) (hk : fX9_load_L124 this x1 s0 h = some out) (H : Heap) (locs : List Loc) (ls : Array Slot) (hR : tw_Rel G sz h H) (hL : tw_L G locs) (hl : lv_has ls 4 [(0, .ref this), (1, .int (tw_I x1))]) : W p l e rmX9_load s m args below meth c H locs 0 0 (MQ below (tw_Qi G sz out.1 out.2) args s 0 0 (tw_F G)) (F0 m 124 ls [.int (tw_I s0)]) := by
  obtain ⟨k, hk⟩ := tm_wl_iff.mp hk
  exact sX9_load_S2 G sz hC this  k (.inr (.inr ((x1, s0, h)))) out hk H locs ls gx1 gs0 hR hL hl
set_option maxRecDepth 100000 in
set_option maxHeartbeats 4000000 in
theorem sX9_load_S3 {l : Launch} {p : Program} {e : Env} {s : State} {m : MethodId} {args : Array Value} {below : List Frame} {meth : Method} {c : Code} (G : tw_G) (sz : Nat) (hC : tw_C G p s m args meth c RX9 cX9_load 4 (some .int)) (this : Nat)  : ∀ (k : Nat) (st : (Int × tm_H)) (out : Int × tm_H), tm_wit (fX9_load_S3 this) k st = some out → match st with
    | (x1, h) => ∀ (H : Heap) (locs : List Loc) (ls : Array Slot), tm_rg x1 → tw_Rel G sz h H → tw_L G locs → lv_has ls 4 [(0, .ref this), (1, .int (tw_I x1))] → W p l e rmX9_load s m args below meth c H locs 0 0 (MQ below (tw_Qi G sz out.1 out.2) args s 0 0 (tw_F G)) (F0 m 2 ls []) := by
  intro k
  induction k with
  | zero =>
    intro st out hk
    exact absurd hk (by unfold tm_wit; exact fun z => by cases z)
  | succ k ih =>
    intro st out hk
    obtain ⟨X, hk, hf⟩ := tm_wit_succ hk
    obtain ⟨x1, h⟩ := st
    intro H locs ls gx1 hR hL hl
    dsimp only [fX9_load_S3] at hk
    refine lv_iload_n hC.1 hC.2.1 dX9_load_2 rfl (lv_at hl 1 rfl) ?_
    refine lv_sipush (v := tw_I 874) hC.1 hC.2.1 dX9_load_3 (by decide) ?_
    refine tw_cge (tgt := 27) hC hk gx1 ((tw_rgL rfl)) dX9_load_6 (by decide) (fun _ hk => ?_) (fun _ hk => ?_)
    · refine lv_aload_n hC.1 hC.2.1 dX9_load_9 rfl (lv_at hl 0 rfl) ?_
      refine tw_getR hC hR hk flX9_16 dX9_load_10 (fun r1 hk => ?_)
      refine lv_iload_n hC.1 hC.2.1 dX9_load_13 rfl (lv_at hl 1 rfl) ?_
      refine lv_aload_n hC.1 hC.2.1 dX9_load_14 rfl (lv_at hl 0 rfl) ?_
      refine tw_getR hC hR hk flX9_7 dX9_load_15 (fun r2 hk => ?_)
      refine lv_iload_n hC.1 hC.2.1 dX9_load_18 rfl (lv_at hl 1 rfl) ?_
      refine tw_iald hC hR hk dX9_load_19 (fun v3 gv3 hk => ?_)
      refine tw_iast hC hR hL gv3 hk dX9_load_20 (fun h4 H locs hR hL hk => ?_)
      refine tw_iinc (lv' := [(1, .int (tw_I (tm_wr (x1 + 1)))), (0, .ref this)]) hC dX9_load_21 hl (k := 1) rfl (by decide) rfl (fun ls hl => ?_)
      refine lv_goto (tgt := 2) hC.1 hC.2.1 dX9_load_24 (by decide) ?_
      cases hk
      exact ih _ out hf H locs _ ((tm_wr_rg _)) hR hL (lv_sub hl [1, 0] rfl)
    · refine lv_aload_n hC.1 hC.2.1 dX9_load_27 rfl (lv_at hl 0 rfl) ?_
      refine lv_iconst (v := tw_I 0) hC.1 hC.2.1 dX9_load_28 rfl ?_
      refine tw_putI hC hR hL ((tw_rgL rfl)) hk fpX9_128 dX9_load_29 (fun h5 H locs hR hL hk => ?_)
      refine lv_iconst (v := tw_I 0) hC.1 hC.2.1 dX9_load_32 rfl ?_
      refine lv_istore_n (lv' := [(1, .int (tw_I 0)), (0, .ref this)]) hC.1 hC.2.1 dX9_load_33 rfl hl (by decide) rfl (fun ls hl => ?_)
      refine lv_aload_n hC.1 hC.2.1 dX9_load_34 rfl (lv_at hl 1 rfl) ?_
      refine kX9_token hC hR hL hk mlX9_146 ⟨by decide, by decide⟩ hl.1 (Nat.le_of_ble_eq_true rfl) ⟨Nat.zero_le _, Nat.zero_le _⟩ dX9_load_35 (fun h6 H locs hR hL hk => ?_)
      refine lv_iconst (v := tw_I 1) hC.1 hC.2.1 dX9_load_38 rfl ?_
      refine lv_istore_n (lv' := [(2, .int (tw_I 1)), (1, .int (tw_I 0)), (0, .ref this)]) hC.1 hC.2.1 dX9_load_39 rfl hl (by decide) rfl (fun ls hl => ?_)
      obtain ⟨r, hk2, hX⟩ := tm_out_some hk
      rw [hX] at hf
      have hr : r = out := Option.some.inj hf
      rw [hr] at hk2
      exact sX9_load_L40 G sz hC this 0 1 h6 ((tw_rgL rfl)) ((tw_rgL rfl)) out hk2 H locs _ hR hL (lv_sub hl [2, 1, 0] rfl)
theorem sX9_load_L2 {l : Launch} {p : Program} {e : Env} {s : State} {m : MethodId} {args : Array Value} {below : List Frame} {meth : Method} {c : Code} (G : tw_G) (sz : Nat) (hC : tw_C G p s m args meth c RX9 cX9_load 4 (some .int)) (this : Nat)  (x1 : Int) (h : tm_H) (gx1 : tm_rg x1) (out : Int × tm_H) (hk : fX9_load_L2 this x1 h = some out) (H : Heap) (locs : List Loc) (ls : Array Slot) (hR : tw_Rel G sz h H) (hL : tw_L G locs) (hl : lv_has ls 4 [(0, .ref this), (1, .int (tw_I x1))]) : W p l e rmX9_load s m args below meth c H locs 0 0 (MQ below (tw_Qi G sz out.1 out.2) args s 0 0 (tw_F G)) (F0 m 2 ls []) := by
  obtain ⟨k, hk⟩ := tm_wl_iff.mp hk
  exact sX9_load_S3 G sz hC this  k ((x1, h)) out hk H locs ls gx1 hR hL hl
set_option maxRecDepth 100000 in
set_option maxHeartbeats 4000000 in
theorem cX9_load_ok (l : Launch) (G : tw_G) (sz : Nat) (this : Nat)  (h : tm_H) (out : Int × tm_H) (hk : fX9_load this h = some out) : Met l yX9_load (tw_WS yX9_load cX9_load 4 (some .int)) rmX9_load (va_Pc [.ref this] (tw_Pre G sz h)) (tw_Qi G sz out.1 out.2) 0 0 (tw_F G) := by
  refine tw_met (by decide +kernel) (Nat.le_of_ble_eq_true rfl) ?_
  intro p e s m args below meth c H ls hC hnm hR hl
  unfold fX9_load at hk
  obtain ⟨hob, hk⟩ := tm_th_is hk
  have hl : lv_has ls 4 [(0, .ref this)] := hl
  have hL : tw_L G [] := fun q z => by cases z
  generalize hlc : ([] : List Loc) = locs at hL ⊢
  refine lv_iconst (v := tw_I 0) hC.1 hC.2.1 dX9_load_0 rfl ?_
  refine lv_istore_n (lv' := [(1, .int (tw_I 0)), (0, .ref this)]) hC.1 hC.2.1 dX9_load_1 rfl hl (by decide) rfl (fun ls hl => ?_)
  exact sX9_load_L2 G sz hC this 0 h ((tw_rgL rfl)) out hk H locs _ hR hL (lv_sub hl [1, 0] rfl)
set_option maxRecDepth 100000 in
theorem kX9_load {l : Launch} {p : Program} {e : Env} {R : Room} {s : State} {m : MethodId} {args : Array Value} {below : List Frame} {meth : Method} {c : Code} {H : Heap} {locs : List Loc} {cells slots : Nat} {Q : State → Prop} {cc : ByteArray} {pc nL idx : Nat} {ls : Array Slot} {rest : List Value} {G : tw_G} {h : tm_H} {own : String} {ret : Option FieldType} {α : Type} {x : α} {sz : Nat} {this : Nat} (hC : tw_C G p s m args meth c own cc nL ret) (hR : tw_Rel G sz h H) (hL : tw_L G locs) {F : Int × tm_H → Option α} (hk : (fX9_load this h).bind F = some x)  (hl : tw_mL own idx yX9_load) (hRm : rmX9_load.frames + 1 ≤ R.frames ∧ 8 + (4 + 11) + rmX9_load.locals ≤ R.locals) (hsz : ls.size = nL) (hW : (rest.map fun v => v.category).sum ≤ 8) (hf : cells + 0 ≤ R.cells ∧ slots + 0 ≤ R.slots) (hdg : decode cc pc = .ok (.invokevirtual idx, 3)) (kk : ∀ (r : Int) (h1 : tm_H) (H1 : Heap) (locs1 : List Loc), tw_Rel G sz h1 H1 → tw_L G locs1 → tm_rg r → F (r, h1) = some x → W p l e R s m args below meth c H1 locs1 (cells + 0) (slots + 0) Q (F0 m (pc + 3) ls (.int (tw_I r) :: rest))) : W p l e R s m args below meth c H locs cells slots Q (F0 m pc ls (.ref this :: rest)) := by
  obtain ⟨r, hr, hF⟩ := Option.bind_eq_some_iff.mp hk
  have ob : ∀ r, fX9_load this h = some r → tm_is h 9 this := fun r hr => by
    unfold fX9_load at hr
    exact (tm_th_is hr).1
  exact tw_backi (tw_runV hC hR (cX9_load_ok l G sz this  h r hr) (n := 0) (As := []) ⟨tw_in_TB 978 (by decide +kernel) rfl, tw_in_TB 62 (by decide +kernel) rfl, by decide +kernel⟩ (tw_in_TB 976 (by decide +kernel) rfl) (tw_in_TB 977 (by decide +kernel) rfl) hl ⟨rfl, rfl⟩ hRm (ob r hr) (T := TX9) (N := 15) rfl rfl hsz rfl hW hdg hf) hL (fun H1 locs1 a b g => kk r.1 r.2 H1 locs1 a b g hF)
def rmX9_quietTerms : Room := { frames := 1, cells := 0, slots := 0, locals := 21 }
set_option maxRecDepth 100000 in
set_option maxHeartbeats 4000000 in
theorem sX9_quietTerms_S0 {l : Launch} {p : Program} {e : Env} {s : State} {m : MethodId} {args : Array Value} {below : List Frame} {meth : Method} {c : Code} (G : tw_G) (sz : Nat) (hC : tw_C G p s m args meth c RX9 cX9_quietTerms 3 (some .int)) (this : Nat)  (h : tm_H) : ∀ (k : Nat) (st : (Int × Int) ⊕ (Int × Int × Int)) (out : Int), tm_wit (fX9_quietTerms_S0 this h) k st = some out → match st with
    | .inl ((x1, x2)) => ∀ (H : Heap) (locs : List Loc) (ls : Array Slot), tm_rg x1 → tm_rg x2 → tw_Rel G sz h H → tw_L G locs → lv_has ls 3 [(0, .ref this), (1, .int (tw_I x1)), (2, .int (tw_I x2))] → W p l e rmX9_quietTerms s m args below meth c H locs 0 0 (MQ below (tw_Qi G sz out h) args s 0 0 (tw_F G)) (F0 m 4 ls [])
    | .inr ((x2, s0, s1)) => ∀ (H : Heap) (locs : List Loc) (ls : Array Slot), tm_rg x2 → tm_rg s0 → tm_rg s1 → tw_Rel G sz h H → tw_L G locs → lv_has ls 3 [(0, .ref this), (2, .int (tw_I x2))] → W p l e rmX9_quietTerms s m args below meth c H locs 0 0 (MQ below (tw_Qi G sz out h) args s 0 0 (tw_F G)) (F0 m 30 ls [.int (tw_I s1), .int (tw_I s0)]) := by
  intro k
  induction k with
  | zero =>
    intro st out hk
    exact absurd hk (by unfold tm_wit; exact fun z => by cases z)
  | succ k ih =>
    intro st out hk
    obtain ⟨X, hk, hf⟩ := tm_wit_succ hk
    obtain ⟨x1, x2⟩ | ⟨x2, s0, s1⟩ := st
    · intro H locs ls gx1 gx2 hR hL hl
      dsimp only [fX9_quietTerms_S0] at hk
      refine lv_iload_n hC.1 hC.2.1 dX9_quietTerms_4 rfl (lv_at hl 2 rfl) ?_
      refine lv_aload_n hC.1 hC.2.1 dX9_quietTerms_5 rfl (lv_at hl 0 rfl) ?_
      refine tw_getR hC hR hk flX9_7 dX9_quietTerms_6 (fun r1 hk => ?_)
      refine lv_sipush (v := tw_I 307) hC.1 hC.2.1 dX9_quietTerms_9 (by decide) ?_
      refine tw_iald hC hR hk dX9_quietTerms_12 (fun v2 gv2 hk => ?_)
      refine tw_cge (tgt := 38) hC hk gx2 gv2 dX9_quietTerms_13 (by decide) (fun _ hk => ?_) (fun _ hk => ?_)
      · refine lv_iload_n hC.1 hC.2.1 dX9_quietTerms_16 rfl (lv_at hl 1 rfl) ?_
        refine lv_aload_n hC.1 hC.2.1 dX9_quietTerms_17 rfl (lv_at hl 0 rfl) ?_
        refine lv_iload_n hC.1 hC.2.1 dX9_quietTerms_18 rfl (lv_at hl 2 rfl) ?_
        refine kX9_isQuiet hC hR hL hk gx2 mlX9_115 ⟨by decide, by decide⟩ hl.1 (Nat.le_of_ble_eq_true rfl) ⟨Nat.zero_le _, Nat.zero_le _⟩ dX9_quietTerms_19 (fun v3 H locs hR hL gv3 hk => ?_)
        refine tw_zeq (tgt := 29) hC hk gv3 dX9_quietTerms_22 (by decide) (fun _ hk => ?_) (fun _ hk => ?_)
        · refine lv_iconst (v := tw_I 0) hC.1 hC.2.1 dX9_quietTerms_29 rfl ?_
          cases hk
          exact ih _ out hf H locs _ gx2 gx1 ((tw_rgL rfl)) hR hL (lv_sub hl [0, 2] rfl)
        · refine lv_iconst (v := tw_I 1) hC.1 hC.2.1 dX9_quietTerms_25 rfl ?_
          refine lv_goto (tgt := 30) hC.1 hC.2.1 dX9_quietTerms_26 (by decide) ?_
          cases hk
          exact ih _ out hf H locs _ gx2 gx1 ((tw_rgL rfl)) hR hL (lv_sub hl [0, 2] rfl)
      · refine lv_iload_n hC.1 hC.2.1 dX9_quietTerms_38 rfl (lv_at hl 1 rfl) ?_
        cases hk
        cases hf
        exact tw_iret hC hR hL gx1 rfl rfl dX9_quietTerms_39
    · intro H locs ls gx2 gs0 gs1 hR hL hl
      dsimp only [fX9_quietTerms_S0] at hk
      refine tw_iadd hC dX9_quietTerms_30 ?_
      refine lv_istore_n (lv' := [(1, .int (tw_I (tm_wr (s0 + s1)))), (0, .ref this), (2, .int (tw_I x2))]) hC.1 hC.2.1 dX9_quietTerms_31 rfl hl (by decide) rfl (fun ls hl => ?_)
      refine tw_iinc (lv' := [(2, .int (tw_I (tm_wr (x2 + 1)))), (1, .int (tw_I (tm_wr (s0 + s1)))), (0, .ref this)]) hC dX9_quietTerms_32 hl (k := 2) rfl (by decide) rfl (fun ls hl => ?_)
      refine lv_goto (tgt := 4) hC.1 hC.2.1 dX9_quietTerms_35 (by decide) ?_
      cases hk
      exact ih _ out hf H locs _ ((tm_wr_rg _)) ((tm_wr_rg _)) hR hL (lv_sub hl [2, 1, 0] rfl)
theorem sX9_quietTerms_L4 {l : Launch} {p : Program} {e : Env} {s : State} {m : MethodId} {args : Array Value} {below : List Frame} {meth : Method} {c : Code} (G : tw_G) (sz : Nat) (hC : tw_C G p s m args meth c RX9 cX9_quietTerms 3 (some .int)) (this : Nat)  (h : tm_H) (x1 : Int) (x2 : Int) (gx1 : tm_rg x1) (gx2 : tm_rg x2) (out : Int) (hk : fX9_quietTerms_L4 this h x1 x2 = some out) (H : Heap) (locs : List Loc) (ls : Array Slot) (hR : tw_Rel G sz h H) (hL : tw_L G locs) (hl : lv_has ls 3 [(0, .ref this), (1, .int (tw_I x1)), (2, .int (tw_I x2))]) : W p l e rmX9_quietTerms s m args below meth c H locs 0 0 (MQ below (tw_Qi G sz out h) args s 0 0 (tw_F G)) (F0 m 4 ls []) := by
  obtain ⟨k, hk⟩ := tm_wl_iff.mp hk
  exact sX9_quietTerms_S0 G sz hC this  h k (.inl ((x1, x2))) out hk H locs ls gx1 gx2 hR hL hl
theorem sX9_quietTerms_L30 {l : Launch} {p : Program} {e : Env} {s : State} {m : MethodId} {args : Array Value} {below : List Frame} {meth : Method} {c : Code} (G : tw_G) (sz : Nat) (hC : tw_C G p s m args meth c RX9 cX9_quietTerms 3 (some .int)) (this : Nat)  (h : tm_H) (x2 : Int) (s0 : Int) (s1 : Int) (gx2 : tm_rg x2) (gs0 : tm_rg s0) (gs1 : tm_rg s1) (out : Int) (hk : fX9_quietTerms_L30 this h x2 s0 s1 = some out) (H : Heap) (locs : List Loc) (ls : Array Slot) (hR : tw_Rel G sz h H) (hL : tw_L G locs) (hl : lv_has ls 3 [(0, .ref this), (2, .int (tw_I x2))]) : W p l e rmX9_quietTerms s m args below meth c H locs 0 0 (MQ below (tw_Qi G sz out h) args s 0 0 (tw_F G)) (F0 m 30 ls [.int (tw_I s1), .int (tw_I s0)]) := by
  obtain ⟨k, hk⟩ := tm_wl_iff.mp hk
  exact sX9_quietTerms_S0 G sz hC this  h k (.inr ((x2, s0, s1))) out hk H locs ls gx2 gs0 gs1 hR hL hl
set_option maxRecDepth 100000 in
set_option maxHeartbeats 4000000 in
theorem cX9_quietTerms_ok (l : Launch) (G : tw_G) (sz : Nat) (this : Nat)  (h : tm_H) (out : Int) (hk : fX9_quietTerms this h = some out) : Met l yX9_quietTerms (tw_WS yX9_quietTerms cX9_quietTerms 3 (some .int)) rmX9_quietTerms (va_Pc [.ref this] (tw_Pre G sz h)) (tw_Qi G sz out h) 0 0 (tw_F G) := by
  refine tw_met (by decide +kernel) (Nat.le_of_ble_eq_true rfl) ?_
  intro p e s m args below meth c H ls hC hnm hR hl
  unfold fX9_quietTerms at hk
  obtain ⟨hob, hk⟩ := tm_th_is hk
  have hl : lv_has ls 3 [(0, .ref this)] := hl
  have hL : tw_L G [] := fun q z => by cases z
  generalize hlc : ([] : List Loc) = locs at hL ⊢
  refine lv_iconst (v := tw_I 0) hC.1 hC.2.1 dX9_quietTerms_0 rfl ?_
  refine lv_istore_n (lv' := [(1, .int (tw_I 0)), (0, .ref this)]) hC.1 hC.2.1 dX9_quietTerms_1 rfl hl (by decide) rfl (fun ls hl => ?_)
  refine lv_iconst (v := tw_I 0) hC.1 hC.2.1 dX9_quietTerms_2 rfl ?_
  refine lv_istore_n (lv' := [(2, .int (tw_I 0)), (1, .int (tw_I 0)), (0, .ref this)]) hC.1 hC.2.1 dX9_quietTerms_3 rfl hl (by decide) rfl (fun ls hl => ?_)
  exact sX9_quietTerms_L4 G sz hC this h 0 0 ((tw_rgL rfl)) ((tw_rgL rfl)) out hk H locs _ hR hL (lv_sub hl [2, 1, 0] rfl)
set_option maxRecDepth 100000 in
theorem kX9_quietTerms {l : Launch} {p : Program} {e : Env} {R : Room} {s : State} {m : MethodId} {args : Array Value} {below : List Frame} {meth : Method} {c : Code} {H : Heap} {locs : List Loc} {cells slots : Nat} {Q : State → Prop} {cc : ByteArray} {pc nL idx : Nat} {ls : Array Slot} {rest : List Value} {G : tw_G} {h : tm_H} {own : String} {ret : Option FieldType} {α : Type} {x : α} {sz : Nat} {this : Nat} (hC : tw_C G p s m args meth c own cc nL ret) (hR : tw_Rel G sz h H) (hL : tw_L G locs) {F : Int → Option α} (hk : (fX9_quietTerms this h).bind F = some x)  (hl : tw_mL own idx yX9_quietTerms) (hRm : rmX9_quietTerms.frames + 1 ≤ R.frames ∧ 8 + (3 + 11) + rmX9_quietTerms.locals ≤ R.locals) (hsz : ls.size = nL) (hW : (rest.map fun v => v.category).sum ≤ 8) (hf : cells + 0 ≤ R.cells ∧ slots + 0 ≤ R.slots) (hdg : decode cc pc = .ok (.invokevirtual idx, 3)) (kk : ∀ (r : Int) (H1 : Heap) (locs1 : List Loc), tw_Rel G sz h H1 → tw_L G locs1 → tm_rg r → F r = some x → W p l e R s m args below meth c H1 locs1 (cells + 0) (slots + 0) Q (F0 m (pc + 3) ls (.int (tw_I r) :: rest))) : W p l e R s m args below meth c H locs cells slots Q (F0 m pc ls (.ref this :: rest)) := by
  obtain ⟨r, hr, hF⟩ := Option.bind_eq_some_iff.mp hk
  have ob : ∀ r, fX9_quietTerms this h = some r → tm_is h 9 this := fun r hr => by
    unfold fX9_quietTerms at hr
    exact (tm_th_is hr).1
  exact tw_backi (tw_runV hC hR (cX9_quietTerms_ok l G sz this  h r hr) (n := 0) (As := []) ⟨tw_in_TB 1030 (by decide +kernel) rfl, tw_in_TB 62 (by decide +kernel) rfl, by decide +kernel⟩ (tw_in_TB 1029 (by decide +kernel) rfl) (tw_in_TB 45 (by decide +kernel) rfl) hl ⟨rfl, rfl⟩ hRm (ob r hr) (T := TX9) (N := 15) rfl rfl hsz rfl hW hdg hf) hL (fun H1 locs1 a b g => kk r H1 locs1 a b g hF)
def rmX9_forms : Room := { frames := 0, cells := 0, slots := 0, locals := 0 }
set_option maxRecDepth 100000 in
set_option maxHeartbeats 4000000 in
theorem sX9_forms_S0 {l : Launch} {p : Program} {e : Env} {s : State} {m : MethodId} {args : Array Value} {below : List Frame} {meth : Method} {c : Code} (G : tw_G) (sz : Nat) (hC : tw_C G p s m args meth c RX9 cX9_forms 3 (some .int)) (this : Nat)  (h : tm_H) : ∀ (k : Nat) (st : (Int × Int) ⊕ (Int × Int × Int)) (out : Int), tm_wit (fX9_forms_S0 this h) k st = some out → match st with
    | .inl ((x1, x2)) => ∀ (H : Heap) (locs : List Loc) (ls : Array Slot), tm_rg x1 → tm_rg x2 → tw_Rel G sz h H → tw_L G locs → lv_has ls 3 [(0, .ref this), (1, .int (tw_I x1)), (2, .int (tw_I x2))] → W p l e rmX9_forms s m args below meth c H locs 0 0 (MQ below (tw_Qi G sz out h) args s 0 0 (tw_F G)) (F0 m 4 ls [])
    | .inr ((x2, s0, s1)) => ∀ (H : Heap) (locs : List Loc) (ls : Array Slot), tm_rg x2 → tm_rg s0 → tm_rg s1 → tw_Rel G sz h H → tw_L G locs → lv_has ls 3 [(0, .ref this), (2, .int (tw_I x2))] → W p l e rmX9_forms s m args below meth c H locs 0 0 (MQ below (tw_Qi G sz out h) args s 0 0 (tw_F G)) (F0 m 32 ls [.int (tw_I s1), .int (tw_I s0)]) := by
  intro k
  induction k with
  | zero =>
    intro st out hk
    exact absurd hk (by unfold tm_wit; exact fun z => by cases z)
  | succ k ih =>
    intro st out hk
    obtain ⟨X, hk, hf⟩ := tm_wit_succ hk
    obtain ⟨x1, x2⟩ | ⟨x2, s0, s1⟩ := st
    · intro H locs ls gx1 gx2 hR hL hl
      dsimp only [fX9_forms_S0] at hk
      refine lv_iload_n hC.1 hC.2.1 dX9_forms_4 rfl (lv_at hl 2 rfl) ?_
      refine lv_aload_n hC.1 hC.2.1 dX9_forms_5 rfl (lv_at hl 0 rfl) ?_
      refine tw_getR hC hR hk flX9_7 dX9_forms_6 (fun r1 hk => ?_)
      refine lv_iconst (v := tw_I 0) hC.1 hC.2.1 dX9_forms_9 rfl ?_
      refine tw_iald hC hR hk dX9_forms_10 (fun v2 gv2 hk => ?_)
      refine tw_cge (tgt := 40) hC hk gx2 gv2 dX9_forms_11 (by decide) (fun _ hk => ?_) (fun _ hk => ?_)
      · refine lv_iload_n hC.1 hC.2.1 dX9_forms_14 rfl (lv_at hl 1 rfl) ?_
        refine lv_aload_n hC.1 hC.2.1 dX9_forms_15 rfl (lv_at hl 0 rfl) ?_
        refine tw_getR hC hR hk flX9_7 dX9_forms_16 (fun r3 hk => ?_)
        refine lv_iconst (v := tw_I 1) hC.1 hC.2.1 dX9_forms_19 rfl ?_
        refine lv_iload_n hC.1 hC.2.1 dX9_forms_20 rfl (lv_at hl 2 rfl) ?_
        refine tw_iadd hC dX9_forms_21 ?_
        refine tw_iald hC hR hk dX9_forms_22 (fun v4 gv4 hk => ?_)
        refine lv_iload_n hC.1 hC.2.1 dX9_forms_23 rfl (lv_at hl 2 rfl) ?_
        refine tw_cne (tgt := 31) hC hk gv4 gx2 dX9_forms_24 (by decide) (fun _ hk => ?_) (fun _ hk => ?_)
        · refine lv_iconst (v := tw_I 0) hC.1 hC.2.1 dX9_forms_27 rfl ?_
          refine lv_goto (tgt := 32) hC.1 hC.2.1 dX9_forms_28 (by decide) ?_
          cases hk
          exact ih _ out hf H locs _ gx2 gx1 ((tw_rgL rfl)) hR hL (lv_sub hl [0, 2] rfl)
        · refine lv_iconst (v := tw_I 1) hC.1 hC.2.1 dX9_forms_31 rfl ?_
          cases hk
          exact ih _ out hf H locs _ gx2 gx1 ((tw_rgL rfl)) hR hL (lv_sub hl [0, 2] rfl)
      · refine lv_iload_n hC.1 hC.2.1 dX9_forms_40 rfl (lv_at hl 1 rfl) ?_
        cases hk
        cases hf
        exact tw_iret hC hR hL gx1 rfl rfl dX9_forms_41
    · intro H locs ls gx2 gs0 gs1 hR hL hl
      dsimp only [fX9_forms_S0] at hk
      refine tw_iadd hC dX9_forms_32 ?_
      refine lv_istore_n (lv' := [(1, .int (tw_I (tm_wr (s0 + s1)))), (0, .ref this), (2, .int (tw_I x2))]) hC.1 hC.2.1 dX9_forms_33 rfl hl (by decide) rfl (fun ls hl => ?_)
      refine tw_iinc (lv' := [(2, .int (tw_I (tm_wr (x2 + 1)))), (1, .int (tw_I (tm_wr (s0 + s1)))), (0, .ref this)]) hC dX9_forms_34 hl (k := 2) rfl (by decide) rfl (fun ls hl => ?_)
      refine lv_goto (tgt := 4) hC.1 hC.2.1 dX9_forms_37 (by decide) ?_
      cases hk
      exact ih _ out hf H locs _ ((tm_wr_rg _)) ((tm_wr_rg _)) hR hL (lv_sub hl [2, 1, 0] rfl)
theorem sX9_forms_L4 {l : Launch} {p : Program} {e : Env} {s : State} {m : MethodId} {args : Array Value} {below : List Frame} {meth : Method} {c : Code} (G : tw_G) (sz : Nat) (hC : tw_C G p s m args meth c RX9 cX9_forms 3 (some .int)) (this : Nat)  (h : tm_H) (x1 : Int) (x2 : Int) (gx1 : tm_rg x1) (gx2 : tm_rg x2) (out : Int) (hk : fX9_forms_L4 this h x1 x2 = some out) (H : Heap) (locs : List Loc) (ls : Array Slot) (hR : tw_Rel G sz h H) (hL : tw_L G locs) (hl : lv_has ls 3 [(0, .ref this), (1, .int (tw_I x1)), (2, .int (tw_I x2))]) : W p l e rmX9_forms s m args below meth c H locs 0 0 (MQ below (tw_Qi G sz out h) args s 0 0 (tw_F G)) (F0 m 4 ls []) := by
  obtain ⟨k, hk⟩ := tm_wl_iff.mp hk
  exact sX9_forms_S0 G sz hC this  h k (.inl ((x1, x2))) out hk H locs ls gx1 gx2 hR hL hl
theorem sX9_forms_L32 {l : Launch} {p : Program} {e : Env} {s : State} {m : MethodId} {args : Array Value} {below : List Frame} {meth : Method} {c : Code} (G : tw_G) (sz : Nat) (hC : tw_C G p s m args meth c RX9 cX9_forms 3 (some .int)) (this : Nat)  (h : tm_H) (x2 : Int) (s0 : Int) (s1 : Int) (gx2 : tm_rg x2) (gs0 : tm_rg s0) (gs1 : tm_rg s1) (out : Int) (hk : fX9_forms_L32 this h x2 s0 s1 = some out) (H : Heap) (locs : List Loc) (ls : Array Slot) (hR : tw_Rel G sz h H) (hL : tw_L G locs) (hl : lv_has ls 3 [(0, .ref this), (2, .int (tw_I x2))]) : W p l e rmX9_forms s m args below meth c H locs 0 0 (MQ below (tw_Qi G sz out h) args s 0 0 (tw_F G)) (F0 m 32 ls [.int (tw_I s1), .int (tw_I s0)]) := by
  obtain ⟨k, hk⟩ := tm_wl_iff.mp hk
  exact sX9_forms_S0 G sz hC this  h k (.inr ((x2, s0, s1))) out hk H locs ls gx2 gs0 gs1 hR hL hl
set_option maxRecDepth 100000 in
set_option maxHeartbeats 4000000 in
theorem cX9_forms_ok (l : Launch) (G : tw_G) (sz : Nat) (this : Nat)  (h : tm_H) (out : Int) (hk : fX9_forms this h = some out) : Met l yX9_forms (tw_WS yX9_forms cX9_forms 3 (some .int)) rmX9_forms (va_Pc [.ref this] (tw_Pre G sz h)) (tw_Qi G sz out h) 0 0 (tw_F G) := by
  refine tw_met (by decide +kernel) (Nat.le_of_ble_eq_true rfl) ?_
  intro p e s m args below meth c H ls hC hnm hR hl
  unfold fX9_forms at hk
  obtain ⟨hob, hk⟩ := tm_th_is hk
  have hl : lv_has ls 3 [(0, .ref this)] := hl
  have hL : tw_L G [] := fun q z => by cases z
  generalize hlc : ([] : List Loc) = locs at hL ⊢
  refine lv_iconst (v := tw_I 0) hC.1 hC.2.1 dX9_forms_0 rfl ?_
  refine lv_istore_n (lv' := [(1, .int (tw_I 0)), (0, .ref this)]) hC.1 hC.2.1 dX9_forms_1 rfl hl (by decide) rfl (fun ls hl => ?_)
  refine lv_iconst (v := tw_I 0) hC.1 hC.2.1 dX9_forms_2 rfl ?_
  refine lv_istore_n (lv' := [(2, .int (tw_I 0)), (1, .int (tw_I 0)), (0, .ref this)]) hC.1 hC.2.1 dX9_forms_3 rfl hl (by decide) rfl (fun ls hl => ?_)
  exact sX9_forms_L4 G sz hC this h 0 0 ((tw_rgL rfl)) ((tw_rgL rfl)) out hk H locs _ hR hL (lv_sub hl [2, 1, 0] rfl)
set_option maxRecDepth 100000 in
theorem kX9_forms {l : Launch} {p : Program} {e : Env} {R : Room} {s : State} {m : MethodId} {args : Array Value} {below : List Frame} {meth : Method} {c : Code} {H : Heap} {locs : List Loc} {cells slots : Nat} {Q : State → Prop} {cc : ByteArray} {pc nL idx : Nat} {ls : Array Slot} {rest : List Value} {G : tw_G} {h : tm_H} {own : String} {ret : Option FieldType} {α : Type} {x : α} {sz : Nat} {this : Nat} (hC : tw_C G p s m args meth c own cc nL ret) (hR : tw_Rel G sz h H) (hL : tw_L G locs) {F : Int → Option α} (hk : (fX9_forms this h).bind F = some x)  (hl : tw_mL own idx yX9_forms) (hRm : rmX9_forms.frames + 1 ≤ R.frames ∧ 8 + (3 + 11) + rmX9_forms.locals ≤ R.locals) (hsz : ls.size = nL) (hW : (rest.map fun v => v.category).sum ≤ 8) (hf : cells + 0 ≤ R.cells ∧ slots + 0 ≤ R.slots) (hdg : decode cc pc = .ok (.invokevirtual idx, 3)) (kk : ∀ (r : Int) (H1 : Heap) (locs1 : List Loc), tw_Rel G sz h H1 → tw_L G locs1 → tm_rg r → F r = some x → W p l e R s m args below meth c H1 locs1 (cells + 0) (slots + 0) Q (F0 m (pc + 3) ls (.int (tw_I r) :: rest))) : W p l e R s m args below meth c H locs cells slots Q (F0 m pc ls (.ref this :: rest)) := by
  obtain ⟨r, hr, hF⟩ := Option.bind_eq_some_iff.mp hk
  have ob : ∀ r, fX9_forms this h = some r → tm_is h 9 this := fun r hr => by
    unfold fX9_forms at hr
    exact (tm_th_is hr).1
  exact tw_backi (tw_runV hC hR (cX9_forms_ok l G sz this  h r hr) (n := 0) (As := []) ⟨tw_in_TB 1042 (by decide +kernel) rfl, tw_in_TB 62 (by decide +kernel) rfl, by decide +kernel⟩ (tw_in_TB 1041 (by decide +kernel) rfl) (tw_in_TB 48 (by decide +kernel) rfl) hl ⟨rfl, rfl⟩ hRm (ob r hr) (T := TX9) (N := 15) rfl rfl hsz rfl hW hdg hf) hL (fun H1 locs1 a b g => kk r H1 locs1 a b g hF)
def rmX9_count : Room := { frames := 7, cells := 0, slots := 0, locals := 170 }
set_option maxRecDepth 100000 in
set_option maxHeartbeats 4000000 in
theorem cX9_count_ok (l : Launch) (G : tw_G) (sz : Nat) (this : Nat) (a1 : Int) (ga1 : tm_rg a1) (h : tm_H) (out : Int × tm_H) (hk : fX9_count this a1 h = some out) : Met l yX9_count (tw_WS yX9_count cX9_count 2 (some .int)) rmX9_count (va_Pc [.ref this, .int (tw_I a1)] (tw_Pre G sz h)) (tw_Qi G sz out.1 out.2) 0 0 (tw_F G) := by
  refine tw_met (by decide +kernel) (Nat.le_of_ble_eq_true rfl) ?_
  intro p e s m args below meth c H ls hC hnm hR hl
  unfold fX9_count at hk
  obtain ⟨hob, hk⟩ := tm_th_is hk
  have hl : lv_has ls 2 [(0, .ref this), (1, .int (tw_I a1))] := hl
  have hL : tw_L G [] := fun q z => by cases z
  generalize hlc : ([] : List Loc) = locs at hL ⊢
  refine lv_iload_n hC.1 hC.2.1 dX9_count_0 rfl (lv_at hl 1 rfl) ?_
  by_cases q3 : a1 = 0
  · rw [if_pos q3] at hk
    refine tw_tsIn (tgt := 56) hC 0 q3 (tw_rgL rfl) dX9_count_1 (by decide) (by decide) rfl (by decide) ?_
    refine lv_aload_n hC.1 hC.2.1 dX9_count_56 rfl (lv_at hl 0 rfl) ?_
    refine tw_getR hC hR hk flX9_7 dX9_count_57 (fun r1 hk => ?_)
    refine lv_iconst (v := tw_I 0) hC.1 hC.2.1 dX9_count_60 rfl ?_
    refine tw_iald hC hR hk dX9_count_61 (fun v2 gv2 hk => ?_)
    cases hk
    exact tw_iret hC hR hL gv2 rfl rfl dX9_count_62
  · rw [if_neg q3] at hk
    by_cases q5 : a1 = 1
    · rw [if_pos q5] at hk
      refine tw_tsIn (tgt := 63) hC 1 q5 (tw_rgL rfl) dX9_count_1 (by decide) (by decide) rfl (by decide) ?_
      refine lv_aload_n hC.1 hC.2.1 dX9_count_63 rfl (lv_at hl 0 rfl) ?_
      refine kX9_wordsOfAll hC hR hL hk mlX9_102 ⟨by decide, by decide⟩ hl.1 (Nat.le_of_ble_eq_true rfl) ⟨Nat.zero_le _, Nat.zero_le _⟩ dX9_count_64 (fun v4 H locs hR hL gv4 hk => ?_)
      cases hk
      exact tw_iret hC hR hL gv4 rfl rfl dX9_count_67
    · rw [if_neg q5] at hk
      by_cases q8 : a1 = 2
      · rw [if_pos q8] at hk
        refine tw_tsIn (tgt := 68) hC 2 q8 (tw_rgL rfl) dX9_count_1 (by decide) (by decide) rfl (by decide) ?_
        refine lv_aload_n hC.1 hC.2.1 dX9_count_68 rfl (lv_at hl 0 rfl) ?_
        refine tw_getR hC hR hk flX9_7 dX9_count_69 (fun r6 hk => ?_)
        refine lv_sipush (v := tw_I 307) hC.1 hC.2.1 dX9_count_72 (by decide) ?_
        refine tw_iald hC hR hk dX9_count_75 (fun v7 gv7 hk => ?_)
        cases hk
        exact tw_iret hC hR hL gv7 rfl rfl dX9_count_76
      · rw [if_neg q8] at hk
        by_cases q10 : a1 = 3
        · rw [if_pos q10] at hk
          refine tw_tsIn (tgt := 77) hC 3 q10 (tw_rgL rfl) dX9_count_1 (by decide) (by decide) rfl (by decide) ?_
          refine lv_aload_n hC.1 hC.2.1 dX9_count_77 rfl (lv_at hl 0 rfl) ?_
          refine kX9_quietTerms hC hR hL hk mlX9_170 ⟨by decide, by decide⟩ hl.1 (Nat.le_of_ble_eq_true rfl) ⟨Nat.zero_le _, Nat.zero_le _⟩ dX9_count_78 (fun v9 H locs hR hL gv9 hk => ?_)
          cases hk
          exact tw_iret hC hR hL gv9 rfl rfl dX9_count_81
        · rw [if_neg q10] at hk
          by_cases q12 : a1 = 4
          · rw [if_pos q12] at hk
            refine tw_tsIn (tgt := 82) hC 4 q12 (tw_rgL rfl) dX9_count_1 (by decide) (by decide) rfl (by decide) ?_
            refine lv_aload_n hC.1 hC.2.1 dX9_count_82 rfl (lv_at hl 0 rfl) ?_
            refine lv_iconst (v := tw_I (-1)) hC.1 hC.2.1 dX9_count_83 rfl ?_
            refine kX9_allMarks hC hR hL hk ((tw_rgL rfl)) mlX9_68 ⟨by decide, by decide⟩ hl.1 (Nat.le_of_ble_eq_true rfl) ⟨Nat.zero_le _, Nat.zero_le _⟩ dX9_count_84 (fun v11 h11 H locs hR hL gv11 hk => ?_)
            cases hk
            exact tw_iret hC hR hL gv11 rfl rfl dX9_count_87
          · rw [if_neg q12] at hk
            by_cases q14 : a1 = 5
            · rw [if_pos q14] at hk
              refine tw_tsIn (tgt := 88) hC 5 q14 (tw_rgL rfl) dX9_count_1 (by decide) (by decide) rfl (by decide) ?_
              refine lv_aload_n hC.1 hC.2.1 dX9_count_88 rfl (lv_at hl 0 rfl) ?_
              refine lv_bipush (v := tw_I (-99)) hC.1 hC.2.1 dX9_count_89 (by decide) ?_
              refine kX9_readings hC hR hL hk ((tw_rgL rfl)) mlX9_173 ⟨by decide, by decide⟩ hl.1 (Nat.le_of_ble_eq_true rfl) ⟨Nat.zero_le _, Nat.zero_le _⟩ dX9_count_91 (fun v13 h13 H locs hR hL gv13 hk => ?_)
              cases hk
              exact tw_iret hC hR hL gv13 rfl rfl dX9_count_94
            · rw [if_neg q14] at hk
              by_cases q16 : a1 = 6
              · rw [if_pos q16] at hk
                refine tw_tsIn (tgt := 95) hC 6 q16 (tw_rgL rfl) dX9_count_1 (by decide) (by decide) rfl (by decide) ?_
                refine lv_aload_n hC.1 hC.2.1 dX9_count_95 rfl (lv_at hl 0 rfl) ?_
                refine kX9_forms hC hR hL hk mlX9_176 ⟨by decide, by decide⟩ hl.1 (Nat.le_of_ble_eq_true rfl) ⟨Nat.zero_le _, Nat.zero_le _⟩ dX9_count_96 (fun v15 H locs hR hL gv15 hk => ?_)
                cases hk
                exact tw_iret hC hR hL gv15 rfl rfl dX9_count_99
              · rw [if_neg q16] at hk
                by_cases q21 : a1 = 7
                · rw [if_pos q21] at hk
                  refine tw_tsIn (tgt := 100) hC 7 q21 (tw_rgL rfl) dX9_count_1 (by decide) (by decide) rfl (by decide) ?_
                  refine lv_aload_n hC.1 hC.2.1 dX9_count_100 rfl (lv_at hl 0 rfl) ?_
                  refine tw_getR hC hR hk flX9_7 dX9_count_101 (fun r17 hk => ?_)
                  refine lv_sipush (v := tw_I 380) hC.1 hC.2.1 dX9_count_104 (by decide) ?_
                  refine tw_iald hC hR hk dX9_count_107 (fun v18 gv18 hk => ?_)
                  refine lv_aload_n hC.1 hC.2.1 dX9_count_108 rfl (lv_at hl 0 rfl) ?_
                  refine tw_getR hC hR hk flX9_7 dX9_count_109 (fun r19 hk => ?_)
                  refine lv_sipush (v := tw_I 627) hC.1 hC.2.1 dX9_count_112 (by decide) ?_
                  refine tw_iald hC hR hk dX9_count_115 (fun v20 gv20 hk => ?_)
                  refine tw_iadd hC dX9_count_116 ?_
                  cases hk
                  exact tw_iret hC hR hL ((tm_wr_rg _)) rfl rfl dX9_count_117
                · rw [if_neg q21] at hk
                  by_cases q23 : a1 = 8
                  · rw [if_pos q23] at hk
                    refine tw_tsIn (tgt := 118) hC 8 q23 (tw_rgL rfl) dX9_count_1 (by decide) (by decide) rfl (by decide) ?_
                    refine lv_aload_n hC.1 hC.2.1 dX9_count_118 rfl (lv_at hl 0 rfl) ?_
                    refine tw_getI hC hR hk flX9_41 dX9_count_119 (fun v22 gv22 hk => ?_)
                    cases hk
                    exact tw_iret hC hR hL gv22 rfl rfl dX9_count_122
                  · rw [if_neg q23] at hk
                    by_cases q25 : a1 = 9
                    · rw [if_pos q25] at hk
                      refine tw_tsIn (tgt := 123) hC 9 q25 (tw_rgL rfl) dX9_count_1 (by decide) (by decide) rfl (by decide) ?_
                      refine lv_aload_n hC.1 hC.2.1 dX9_count_123 rfl (lv_at hl 0 rfl) ?_
                      refine tw_getI hC hR hk flX9_125 dX9_count_124 (fun v24 gv24 hk => ?_)
                      cases hk
                      exact tw_iret hC hR hL gv24 rfl rfl dX9_count_127
                    · rw [if_neg q25] at hk
                      refine tw_tsOut (tgt := 128) hC ga1 dX9_count_1 (by omega) (by decide) ?_
                      refine lv_iconst (v := tw_I (-1)) hC.1 hC.2.1 dX9_count_128 rfl ?_
                      cases hk
                      exact tw_iret hC hR hL ((tw_rgL rfl)) rfl rfl dX9_count_129
set_option maxRecDepth 100000 in
theorem kX9_count {l : Launch} {p : Program} {e : Env} {R : Room} {s : State} {m : MethodId} {args : Array Value} {below : List Frame} {meth : Method} {c : Code} {H : Heap} {locs : List Loc} {cells slots : Nat} {Q : State → Prop} {cc : ByteArray} {pc nL idx : Nat} {ls : Array Slot} {rest : List Value} {G : tw_G} {h : tm_H} {own : String} {ret : Option FieldType} {α : Type} {x : α} {sz : Nat} {this : Nat} {a1 : Int} (hC : tw_C G p s m args meth c own cc nL ret) (hR : tw_Rel G sz h H) (hL : tw_L G locs) {F : Int × tm_H → Option α} (hk : (fX9_count this a1 h).bind F = some x) (ga1 : tm_rg a1) (hl : tw_mL own idx yX9_count) (hRm : rmX9_count.frames + 1 ≤ R.frames ∧ 8 + (2 + 11) + rmX9_count.locals ≤ R.locals) (hsz : ls.size = nL) (hW : (rest.map fun v => v.category).sum ≤ 8) (hf : cells + 0 ≤ R.cells ∧ slots + 0 ≤ R.slots) (hdg : decode cc pc = .ok (.invokevirtual idx, 3)) (kk : ∀ (r : Int) (h1 : tm_H) (H1 : Heap) (locs1 : List Loc), tw_Rel G sz h1 H1 → tw_L G locs1 → tm_rg r → F (r, h1) = some x → W p l e R s m args below meth c H1 locs1 (cells + 0) (slots + 0) Q (F0 m (pc + 3) ls (.int (tw_I r) :: rest))) : W p l e R s m args below meth c H locs cells slots Q (F0 m pc ls (.int (tw_I a1) :: .ref this :: rest)) := by
  obtain ⟨r, hr, hF⟩ := Option.bind_eq_some_iff.mp hk
  have ob : ∀ r, fX9_count this a1 h = some r → tm_is h 9 this := fun r hr => by
    unfold fX9_count at hr
    exact (tm_th_is hr).1
  exact tw_backi (tw_runV hC hR (cX9_count_ok l G sz this a1 ga1 h r hr) (n := 1) (As := [.int (tw_I a1)]) ⟨tw_in_TB 1026 (by decide +kernel) rfl, tw_in_TB 62 (by decide +kernel) rfl, by decide +kernel⟩ (tw_in_TB 1024 (by decide +kernel) rfl) (tw_in_TB 1025 (by decide +kernel) rfl) hl ⟨rfl, rfl⟩ hRm (ob r hr) (T := TX9) (N := 15) rfl rfl hsz rfl hW hdg hf) hL (fun H1 locs1 a b g => kk r.1 r.2 H1 locs1 a b g hF)
def rmX9_letter : Room := { frames := 2, cells := 0, slots := 0, locals := 43 }
set_option maxRecDepth 100000 in
set_option maxHeartbeats 4000000 in
theorem sX9_letter_L35 {l : Launch} {p : Program} {e : Env} {s : State} {m : MethodId} {args : Array Value} {below : List Frame} {meth : Method} {c : Code} (G : tw_G) (sz : Nat) (hC : tw_C G p s m args meth c RX9 cX9_letter 4 (some .int)) (this : Nat) (a1 : Int) (a2 : Int) (ga1 : tm_rg a1) (ga2 : tm_rg a2) (h : tm_H) (s0 : Int) (gs0 : tm_rg s0) (out : Int) (hk : fX9_letter_L35 this a1 a2 h s0 = some out) (H : Heap) (locs : List Loc) (ls : Array Slot) (hR : tw_Rel G sz h H) (hL : tw_L G locs) (hl : lv_has ls 4 [(0, .ref this), (1, .int (tw_I a1)), (2, .int (tw_I a2))]) : W p l e rmX9_letter s m args below meth c H locs 0 0 (MQ below (tw_Qi G sz out h) args s 0 0 (tw_F G)) (F0 m 35 ls [.int (tw_I s0)]) := by
  unfold fX9_letter_L35 at hk
  refine lv_istore_n (lv' := [(3, .int (tw_I s0)), (0, .ref this), (1, .int (tw_I a1)), (2, .int (tw_I a2))]) hC.1 hC.2.1 dX9_letter_35 rfl hl (by decide) rfl (fun ls hl => ?_)
  refine lv_iload_n hC.1 hC.2.1 dX9_letter_36 rfl (lv_at hl 0 rfl) ?_
  refine tw_zne (tgt := 45) hC hk gs0 dX9_letter_37 (by decide) (fun _ hk => ?_) (fun _ hk => ?_)
  · refine lv_bipush (v := tw_I (-99)) hC.1 hC.2.1 dX9_letter_40 (by decide) ?_
    refine lv_goto (tgt := 46) hC.1 hC.2.1 dX9_letter_42 (by decide) ?_
    cases hk
    exact tw_iret hC hR hL ((tw_rgL rfl)) rfl rfl dX9_letter_46
  · refine lv_iload_n hC.1 hC.2.1 dX9_letter_45 rfl (lv_at hl 0 rfl) ?_
    cases hk
    exact tw_iret hC hR hL gs0 rfl rfl dX9_letter_46
set_option maxRecDepth 100000 in
set_option maxHeartbeats 4000000 in
theorem cX9_letter_ok (l : Launch) (G : tw_G) (sz : Nat) (this : Nat) (a1 : Int) (a2 : Int) (ga1 : tm_rg a1) (ga2 : tm_rg a2) (h : tm_H) (out : Int) (hk : fX9_letter this a1 a2 h = some out) : Met l yX9_letter (tw_WS yX9_letter cX9_letter 4 (some .int)) rmX9_letter (va_Pc [.ref this, .int (tw_I a1), .int (tw_I a2)] (tw_Pre G sz h)) (tw_Qi G sz out h) 0 0 (tw_F G) := by
  refine tw_met (by decide +kernel) (Nat.le_of_ble_eq_true rfl) ?_
  intro p e s m args below meth c H ls hC hnm hR hl
  unfold fX9_letter at hk
  obtain ⟨hob, hk⟩ := tm_th_is hk
  have hl : lv_has ls 4 [(0, .ref this), (1, .int (tw_I a1)), (2, .int (tw_I a2))] := hl
  have hL : tw_L G [] := fun q z => by cases z
  generalize hlc : ([] : List Loc) = locs at hL ⊢
  refine lv_aload_n hC.1 hC.2.1 dX9_letter_0 rfl (lv_at hl 0 rfl) ?_
  refine lv_iload_n hC.1 hC.2.1 dX9_letter_1 rfl (lv_at hl 1 rfl) ?_
  refine kX9_isWord hC hR hL hk ga1 mlX9_61 ⟨by decide, by decide⟩ hl.1 (Nat.le_of_ble_eq_true rfl) ⟨Nat.zero_le _, Nat.zero_le _⟩ dX9_letter_2 (fun v1 H locs hR hL gv1 hk => ?_)
  refine tw_zeq (tgt := 12) hC hk gv1 dX9_letter_5 (by decide) (fun _ hk => ?_) (fun _ hk => ?_)
  · refine lv_iconst (v := tw_I (-1)) hC.1 hC.2.1 dX9_letter_12 rfl ?_
    cases hk
    exact tw_iret hC hR hL ((tw_rgL rfl)) rfl rfl dX9_letter_13
  · refine lv_iload_n hC.1 hC.2.1 dX9_letter_8 rfl (lv_at hl 2 rfl) ?_
    refine tw_zge (tgt := 14) hC hk ga2 dX9_letter_9 (by decide) (fun _ hk => ?_) (fun _ hk => ?_)
    · refine lv_iconst (v := tw_I (-1)) hC.1 hC.2.1 dX9_letter_12 rfl ?_
      cases hk
      exact tw_iret hC hR hL ((tw_rgL rfl)) rfl rfl dX9_letter_13
    · refine lv_iload_n hC.1 hC.2.1 dX9_letter_14 rfl (lv_at hl 2 rfl) ?_
      refine lv_bipush (v := tw_I 8) hC.1 hC.2.1 dX9_letter_15 (by decide) ?_
      refine tw_cge (tgt := 34) hC hk ga2 ((tw_rgL rfl)) dX9_letter_17 (by decide) (fun _ hk => ?_) (fun _ hk => ?_)
      · refine lv_aload_n hC.1 hC.2.1 dX9_letter_20 rfl (lv_at hl 0 rfl) ?_
        refine tw_getR hC hR hk flX9_22 dX9_letter_21 (fun r2 hk => ?_)
        refine lv_bipush (v := tw_I 8) hC.1 hC.2.1 dX9_letter_24 (by decide) ?_
        refine lv_iload_n hC.1 hC.2.1 dX9_letter_26 rfl (lv_at hl 1 rfl) ?_
        refine tw_imul hC dX9_letter_27 ?_
        refine lv_iload_n hC.1 hC.2.1 dX9_letter_28 rfl (lv_at hl 2 rfl) ?_
        refine tw_iadd hC dX9_letter_29 ?_
        refine tw_iald hC hR hk dX9_letter_30 (fun v3 gv3 hk => ?_)
        refine lv_goto (tgt := 35) hC.1 hC.2.1 dX9_letter_31 (by decide) ?_
        exact sX9_letter_L35 G sz hC this a1 a2 ga1 ga2 h v3 gv3 out hk H locs _ hR hL (lv_sub hl [0, 1, 2] rfl)
      · refine lv_iconst (v := tw_I 0) hC.1 hC.2.1 dX9_letter_34 rfl ?_
        exact sX9_letter_L35 G sz hC this a1 a2 ga1 ga2 h 0 ((tw_rgL rfl)) out hk H locs _ hR hL (lv_sub hl [0, 1, 2] rfl)
set_option maxRecDepth 100000 in
theorem kX9_letter {l : Launch} {p : Program} {e : Env} {R : Room} {s : State} {m : MethodId} {args : Array Value} {below : List Frame} {meth : Method} {c : Code} {H : Heap} {locs : List Loc} {cells slots : Nat} {Q : State → Prop} {cc : ByteArray} {pc nL idx : Nat} {ls : Array Slot} {rest : List Value} {G : tw_G} {h : tm_H} {own : String} {ret : Option FieldType} {α : Type} {x : α} {sz : Nat} {this : Nat} {a1 : Int} {a2 : Int} (hC : tw_C G p s m args meth c own cc nL ret) (hR : tw_Rel G sz h H) (hL : tw_L G locs) {F : Int → Option α} (hk : (fX9_letter this a1 a2 h).bind F = some x) (ga1 : tm_rg a1) (ga2 : tm_rg a2) (hl : tw_mL own idx yX9_letter) (hRm : rmX9_letter.frames + 1 ≤ R.frames ∧ 8 + (4 + 11) + rmX9_letter.locals ≤ R.locals) (hsz : ls.size = nL) (hW : (rest.map fun v => v.category).sum ≤ 8) (hf : cells + 0 ≤ R.cells ∧ slots + 0 ≤ R.slots) (hdg : decode cc pc = .ok (.invokevirtual idx, 3)) (kk : ∀ (r : Int) (H1 : Heap) (locs1 : List Loc), tw_Rel G sz h H1 → tw_L G locs1 → tm_rg r → F r = some x → W p l e R s m args below meth c H1 locs1 (cells + 0) (slots + 0) Q (F0 m (pc + 3) ls (.int (tw_I r) :: rest))) : W p l e R s m args below meth c H locs cells slots Q (F0 m pc ls (.int (tw_I a2) :: .int (tw_I a1) :: .ref this :: rest)) := by
  obtain ⟨r, hr, hF⟩ := Option.bind_eq_some_iff.mp hk
  have ob : ∀ r, fX9_letter this a1 a2 h = some r → tm_is h 9 this := fun r hr => by
    unfold fX9_letter at hr
    exact (tm_th_is hr).1
  exact tw_backi (tw_runV hC hR (cX9_letter_ok l G sz this a1 a2 ga1 ga2 h r hr) (n := 2) (As := [.int (tw_I a1), .int (tw_I a2)]) ⟨tw_in_TB 1046 (by decide +kernel) rfl, tw_in_TB 62 (by decide +kernel) rfl, by decide +kernel⟩ (tw_in_TB 1044 (by decide +kernel) rfl) (tw_in_TB 1045 (by decide +kernel) rfl) hl ⟨rfl, rfl⟩ hRm (ob r hr) (T := TX9) (N := 15) rfl rfl hsz rfl hW hdg hf) hL (fun H1 locs1 a b g => kk r H1 locs1 a b g hF)
def rmX9_base : Room := { frames := 2, cells := 0, slots := 0, locals := 43 }
set_option maxRecDepth 100000 in
set_option maxHeartbeats 4000000 in
theorem cX9_base_ok (l : Launch) (G : tw_G) (sz : Nat) (this : Nat) (a1 : Int) (ga1 : tm_rg a1) (h : tm_H) (out : Int) (hk : fX9_base this a1 h = some out) : Met l yX9_base (tw_WS yX9_base cX9_base 2 (some .int)) rmX9_base (va_Pc [.ref this, .int (tw_I a1)] (tw_Pre G sz h)) (tw_Qi G sz out h) 0 0 (tw_F G) := by
  refine tw_met (by decide +kernel) (Nat.le_of_ble_eq_true rfl) ?_
  intro p e s m args below meth c H ls hC hnm hR hl
  unfold fX9_base at hk
  obtain ⟨hob, hk⟩ := tm_th_is hk
  have hl : lv_has ls 2 [(0, .ref this), (1, .int (tw_I a1))] := hl
  have hL : tw_L G [] := fun q z => by cases z
  generalize hlc : ([] : List Loc) = locs at hL ⊢
  refine lv_aload_n hC.1 hC.2.1 dX9_base_0 rfl (lv_at hl 0 rfl) ?_
  refine lv_iload_n hC.1 hC.2.1 dX9_base_1 rfl (lv_at hl 1 rfl) ?_
  refine kX9_isWord hC hR hL hk ga1 mlX9_61 ⟨by decide, by decide⟩ hl.1 (Nat.le_of_ble_eq_true rfl) ⟨Nat.zero_le _, Nat.zero_le _⟩ dX9_base_2 (fun v1 H locs hR hL gv1 hk => ?_)
  refine tw_zeq (tgt := 19) hC hk gv1 dX9_base_5 (by decide) (fun _ hk => ?_) (fun _ hk => ?_)
  · refine lv_iconst (v := tw_I (-1)) hC.1 hC.2.1 dX9_base_19 rfl ?_
    cases hk
    exact tw_iret hC hR hL ((tw_rgL rfl)) rfl rfl dX9_base_20
  · refine lv_aload_n hC.1 hC.2.1 dX9_base_8 rfl (lv_at hl 0 rfl) ?_
    refine tw_getR hC hR hk flX9_7 dX9_base_9 (fun r2 hk => ?_)
    refine lv_iconst (v := tw_I 1) hC.1 hC.2.1 dX9_base_12 rfl ?_
    refine lv_iload_n hC.1 hC.2.1 dX9_base_13 rfl (lv_at hl 1 rfl) ?_
    refine tw_iadd hC dX9_base_14 ?_
    refine tw_iald hC hR hk dX9_base_15 (fun v3 gv3 hk => ?_)
    refine lv_goto (tgt := 20) hC.1 hC.2.1 dX9_base_16 (by decide) ?_
    cases hk
    exact tw_iret hC hR hL gv3 rfl rfl dX9_base_20
set_option maxRecDepth 100000 in
theorem kX9_base {l : Launch} {p : Program} {e : Env} {R : Room} {s : State} {m : MethodId} {args : Array Value} {below : List Frame} {meth : Method} {c : Code} {H : Heap} {locs : List Loc} {cells slots : Nat} {Q : State → Prop} {cc : ByteArray} {pc nL idx : Nat} {ls : Array Slot} {rest : List Value} {G : tw_G} {h : tm_H} {own : String} {ret : Option FieldType} {α : Type} {x : α} {sz : Nat} {this : Nat} {a1 : Int} (hC : tw_C G p s m args meth c own cc nL ret) (hR : tw_Rel G sz h H) (hL : tw_L G locs) {F : Int → Option α} (hk : (fX9_base this a1 h).bind F = some x) (ga1 : tm_rg a1) (hl : tw_mL own idx yX9_base) (hRm : rmX9_base.frames + 1 ≤ R.frames ∧ 8 + (2 + 11) + rmX9_base.locals ≤ R.locals) (hsz : ls.size = nL) (hW : (rest.map fun v => v.category).sum ≤ 8) (hf : cells + 0 ≤ R.cells ∧ slots + 0 ≤ R.slots) (hdg : decode cc pc = .ok (.invokevirtual idx, 3)) (kk : ∀ (r : Int) (H1 : Heap) (locs1 : List Loc), tw_Rel G sz h H1 → tw_L G locs1 → tm_rg r → F r = some x → W p l e R s m args below meth c H1 locs1 (cells + 0) (slots + 0) Q (F0 m (pc + 3) ls (.int (tw_I r) :: rest))) : W p l e R s m args below meth c H locs cells slots Q (F0 m pc ls (.int (tw_I a1) :: .ref this :: rest)) := by
  obtain ⟨r, hr, hF⟩ := Option.bind_eq_some_iff.mp hk
  have ob : ∀ r, fX9_base this a1 h = some r → tm_is h 9 this := fun r hr => by
    unfold fX9_base at hr
    exact (tm_th_is hr).1
  exact tw_backi (tw_runV hC hR (cX9_base_ok l G sz this a1 ga1 h r hr) (n := 1) (As := [.int (tw_I a1)]) ⟨tw_in_TB 1050 (by decide +kernel) rfl, tw_in_TB 62 (by decide +kernel) rfl, by decide +kernel⟩ (tw_in_TB 1048 (by decide +kernel) rfl) (tw_in_TB 1049 (by decide +kernel) rfl) hl ⟨rfl, rfl⟩ hRm (ob r hr) (T := TX9) (N := 15) rfl rfl hsz rfl hW hdg hf) hL (fun H1 locs1 a b g => kk r H1 locs1 a b g hF)
def rmX9_place : Room := { frames := 6, cells := 0, slots := 0, locals := 145 }
set_option maxRecDepth 100000 in
set_option maxHeartbeats 4000000 in
theorem cX9_place_ok (l : Launch) (G : tw_G) (sz : Nat) (this : Nat) (a1 : Int) (a2 : Int) (a3 : Int) (ga1 : tm_rg a1) (ga2 : tm_rg a2) (ga3 : tm_rg a3) (h : tm_H) (out : Int × tm_H) (hk : fX9_place this a1 a2 a3 h = some out) : Met l yX9_place (tw_WS yX9_place cX9_place 5 (some .int)) rmX9_place (va_Pc [.ref this, .int (tw_I a1), .int (tw_I a2), .int (tw_I a3)] (tw_Pre G sz h)) (tw_Qi G sz out.1 out.2) 0 0 (tw_F G) := by
  refine tw_met (by decide +kernel) (Nat.le_of_ble_eq_true rfl) ?_
  intro p e s m args below meth c H ls hC hnm hR hl
  unfold fX9_place at hk
  obtain ⟨hob, hk⟩ := tm_th_is hk
  have hl : lv_has ls 5 [(0, .ref this), (1, .int (tw_I a1)), (2, .int (tw_I a2)), (3, .int (tw_I a3))] := hl
  have hL : tw_L G [] := fun q z => by cases z
  generalize hlc : ([] : List Loc) = locs at hL ⊢
  refine lv_iload_n hC.1 hC.2.1 dX9_place_0 rfl (lv_at hl 1 rfl) ?_
  refine kX9_isChapter hC hR hL hk ga1 mlX9_53 ⟨by decide, by decide⟩ hl.1 (Nat.le_of_ble_eq_true rfl) ⟨Nat.zero_le _, Nat.zero_le _⟩ dX9_place_1 (fun v1 H locs hR hL gv1 hk => ?_)
  refine tw_zeq (tgt := 20) hC hk gv1 dX9_place_4 (by decide) (fun _ hk => ?_) (fun _ hk => ?_)
  · refine lv_iconst (v := tw_I (-1)) hC.1 hC.2.1 dX9_place_20 rfl ?_
    cases hk
    exact tw_iret hC hR hL ((tw_rgL rfl)) rfl rfl dX9_place_21
  · refine lv_iload_n hC.1 hC.2.1 dX9_place_7 rfl (lv_at hl 3 rfl) ?_
    refine lv_iconst (v := tw_I 0) hC.1 hC.2.1 dX9_place_8 rfl ?_
    refine lv_iconst (v := tw_I 3) hC.1 hC.2.1 dX9_place_9 rfl ?_
    refine kX9_in hC hR hL hk ga3 ((tw_rgL rfl)) ((tw_rgL rfl)) mlX9_45 ⟨by decide, by decide⟩ hl.1 (Nat.le_of_ble_eq_true rfl) ⟨Nat.zero_le _, Nat.zero_le _⟩ dX9_place_10 (fun v2 H locs hR hL gv2 hk => ?_)
    refine tw_zeq (tgt := 20) hC hk gv2 dX9_place_13 (by decide) (fun _ hk => ?_) (fun _ hk => ?_)
    · refine lv_iconst (v := tw_I (-1)) hC.1 hC.2.1 dX9_place_20 rfl ?_
      cases hk
      exact tw_iret hC hR hL ((tw_rgL rfl)) rfl rfl dX9_place_21
    · refine lv_iload_n hC.1 hC.2.1 dX9_place_16 rfl (lv_at hl 2 rfl) ?_
      refine tw_zge (tgt := 22) hC hk ga2 dX9_place_17 (by decide) (fun _ hk => ?_) (fun _ hk => ?_)
      · refine lv_iconst (v := tw_I (-1)) hC.1 hC.2.1 dX9_place_20 rfl ?_
        cases hk
        exact tw_iret hC hR hL ((tw_rgL rfl)) rfl rfl dX9_place_21
      · refine lv_iload_n hC.1 hC.2.1 dX9_place_22 rfl (lv_at hl 2 rfl) ?_
        refine lv_aload_n hC.1 hC.2.1 dX9_place_23 rfl (lv_at hl 0 rfl) ?_
        refine lv_iload_n hC.1 hC.2.1 dX9_place_24 rfl (lv_at hl 1 rfl) ?_
        refine kX9_size hC hR hL hk ga1 mlX9_57 ⟨by decide, by decide⟩ hl.1 (Nat.le_of_ble_eq_true rfl) ⟨Nat.zero_le _, Nat.zero_le _⟩ dX9_place_25 (fun v3 H locs hR hL gv3 hk => ?_)
        refine tw_clt (tgt := 34) hC hk ga2 gv3 dX9_place_28 (by decide) (fun _ hk => ?_) (fun _ hk => ?_)
        · refine lv_aload_n hC.1 hC.2.1 dX9_place_34 rfl (lv_at hl 0 rfl) ?_
          refine lv_iload_n hC.1 hC.2.1 dX9_place_35 rfl (lv_at hl 1 rfl) ?_
          refine kX9_reads hC hR hL hk ga1 mlX9_122 ⟨by decide, by decide⟩ hl.1 (Nat.le_of_ble_eq_true rfl) ⟨Nat.zero_le _, Nat.zero_le _⟩ dX9_place_36 (fun v4 h4 H locs hR hL gv4 hk => ?_)
          refine lv_istore (lv' := [(4, .int (tw_I v4)), (0, .ref this), (1, .int (tw_I a1)), (2, .int (tw_I a2)), (3, .int (tw_I a3))]) hC.1 hC.2.1 dX9_place_39 hl (by decide) rfl (fun ls hl => ?_)
          refine lv_iload_n hC.1 hC.2.1 dX9_place_41 rfl (lv_at hl 4 rfl) ?_
          refine tw_zne (tgt := 58) hC hk ga3 dX9_place_42 (by decide) (fun _ hk => ?_) (fun _ hk => ?_)
          · refine lv_aload_n hC.1 hC.2.1 dX9_place_45 rfl (lv_at hl 1 rfl) ?_
            refine tw_getR hC hR hk flX9_7 dX9_place_46 (fun r5 hk => ?_)
            refine lv_iload_n hC.1 hC.2.1 dX9_place_49 rfl (lv_at hl 2 rfl) ?_
            refine lv_iload_n hC.1 hC.2.1 dX9_place_50 rfl (lv_at hl 3 rfl) ?_
            refine kX9_at hC hR hL hk ga1 ga2 mlX9_49 ⟨by decide, by decide⟩ hl.1 (Nat.le_of_ble_eq_true rfl) ⟨Nat.zero_le _, Nat.zero_le _⟩ dX9_place_51 (fun v6 H locs hR hL gv6 hk => ?_)
            refine tw_iald hC hR hk dX9_place_54 (fun v7 gv7 hk => ?_)
            refine lv_goto (tgt := 105) hC.1 hC.2.1 dX9_place_55 (by decide) ?_
            cases hk
            exact tw_iret hC hR hL gv7 rfl rfl dX9_place_105
          · refine lv_iload_n hC.1 hC.2.1 dX9_place_58 rfl (lv_at hl 4 rfl) ?_
            refine lv_iconst (v := tw_I 1) hC.1 hC.2.1 dX9_place_59 rfl ?_
            refine tw_cne (tgt := 72) hC hk ga3 ((tw_rgL rfl)) dX9_place_60 (by decide) (fun _ hk => ?_) (fun _ hk => ?_)
            · refine lv_aload_n hC.1 hC.2.1 dX9_place_63 rfl (lv_at hl 1 rfl) ?_
              refine tw_getR hC hR hk flX9_28 dX9_place_64 (fun r8 hk => ?_)
              refine lv_iload_n hC.1 hC.2.1 dX9_place_67 rfl (lv_at hl 3 rfl) ?_
              refine tw_iald hC hR hk dX9_place_68 (fun v9 gv9 hk => ?_)
              refine lv_goto (tgt := 105) hC.1 hC.2.1 dX9_place_69 (by decide) ?_
              cases hk
              exact tw_iret hC hR hL gv9 rfl rfl dX9_place_105
            · refine lv_iload_n hC.1 hC.2.1 dX9_place_72 rfl (lv_at hl 4 rfl) ?_
              refine lv_iconst (v := tw_I 2) hC.1 hC.2.1 dX9_place_73 rfl ?_
              refine tw_cne (tgt := 86) hC hk ga3 ((tw_rgL rfl)) dX9_place_74 (by decide) (fun _ hk => ?_) (fun _ hk => ?_)
              · refine lv_aload_n hC.1 hC.2.1 dX9_place_77 rfl (lv_at hl 1 rfl) ?_
                refine tw_getR hC hR hk flX9_31 dX9_place_78 (fun r10 hk => ?_)
                refine lv_iload_n hC.1 hC.2.1 dX9_place_81 rfl (lv_at hl 3 rfl) ?_
                refine tw_iald hC hR hk dX9_place_82 (fun v11 gv11 hk => ?_)
                refine lv_goto (tgt := 105) hC.1 hC.2.1 dX9_place_83 (by decide) ?_
                cases hk
                exact tw_iret hC hR hL gv11 rfl rfl dX9_place_105
              · refine lv_aload_n hC.1 hC.2.1 dX9_place_86 rfl (lv_at hl 1 rfl) ?_
                refine tw_getR hC hR hk flX9_34 dX9_place_87 (fun r12 hk => ?_)
                refine lv_iload_n hC.1 hC.2.1 dX9_place_90 rfl (lv_at hl 3 rfl) ?_
                refine tw_zald hC hR hk dX9_place_91 (fun v13 gv13 hk => ?_)
                refine tw_zeq (tgt := 104) hC hk gv13 dX9_place_92 (by decide) (fun _ hk => ?_) (fun _ hk => ?_)
                · refine lv_iconst (v := tw_I 0) hC.1 hC.2.1 dX9_place_104 rfl ?_
                  cases hk
                  exact tw_iret hC hR hL ((tw_rgL rfl)) rfl rfl dX9_place_105
                · refine lv_iload hC.1 hC.2.1 dX9_place_95 (lv_at hl 0 rfl) ?_
                  refine tw_zle (tgt := 104) hC hk gv4 dX9_place_97 (by decide) (fun _ hk => ?_) (fun _ hk => ?_)
                  · refine lv_iconst (v := tw_I 1) hC.1 hC.2.1 dX9_place_100 rfl ?_
                    refine lv_goto (tgt := 105) hC.1 hC.2.1 dX9_place_101 (by decide) ?_
                    cases hk
                    exact tw_iret hC hR hL ((tw_rgL rfl)) rfl rfl dX9_place_105
                  · refine lv_iconst (v := tw_I 0) hC.1 hC.2.1 dX9_place_104 rfl ?_
                    cases hk
                    exact tw_iret hC hR hL ((tw_rgL rfl)) rfl rfl dX9_place_105
        · refine lv_bipush (v := tw_I (-99)) hC.1 hC.2.1 dX9_place_31 (by decide) ?_
          cases hk
          exact tw_iret hC hR hL ((tw_rgL rfl)) rfl rfl dX9_place_33
set_option maxRecDepth 100000 in
theorem kX9_place {l : Launch} {p : Program} {e : Env} {R : Room} {s : State} {m : MethodId} {args : Array Value} {below : List Frame} {meth : Method} {c : Code} {H : Heap} {locs : List Loc} {cells slots : Nat} {Q : State → Prop} {cc : ByteArray} {pc nL idx : Nat} {ls : Array Slot} {rest : List Value} {G : tw_G} {h : tm_H} {own : String} {ret : Option FieldType} {α : Type} {x : α} {sz : Nat} {this : Nat} {a1 : Int} {a2 : Int} {a3 : Int} (hC : tw_C G p s m args meth c own cc nL ret) (hR : tw_Rel G sz h H) (hL : tw_L G locs) {F : Int × tm_H → Option α} (hk : (fX9_place this a1 a2 a3 h).bind F = some x) (ga1 : tm_rg a1) (ga2 : tm_rg a2) (ga3 : tm_rg a3) (hl : tw_mL own idx yX9_place) (hRm : rmX9_place.frames + 1 ≤ R.frames ∧ 8 + (5 + 11) + rmX9_place.locals ≤ R.locals) (hsz : ls.size = nL) (hW : (rest.map fun v => v.category).sum ≤ 8) (hf : cells + 0 ≤ R.cells ∧ slots + 0 ≤ R.slots) (hdg : decode cc pc = .ok (.invokevirtual idx, 3)) (kk : ∀ (r : Int) (h1 : tm_H) (H1 : Heap) (locs1 : List Loc), tw_Rel G sz h1 H1 → tw_L G locs1 → tm_rg r → F (r, h1) = some x → W p l e R s m args below meth c H1 locs1 (cells + 0) (slots + 0) Q (F0 m (pc + 3) ls (.int (tw_I r) :: rest))) : W p l e R s m args below meth c H locs cells slots Q (F0 m pc ls (.int (tw_I a3) :: .int (tw_I a2) :: .int (tw_I a1) :: .ref this :: rest)) := by
  obtain ⟨r, hr, hF⟩ := Option.bind_eq_some_iff.mp hk
  have ob : ∀ r, fX9_place this a1 a2 a3 h = some r → tm_is h 9 this := fun r hr => by
    unfold fX9_place at hr
    exact (tm_th_is hr).1
  exact tw_backi (tw_runV hC hR (cX9_place_ok l G sz this a1 a2 a3 ga1 ga2 ga3 h r hr) (n := 3) (As := [.int (tw_I a1), .int (tw_I a2), .int (tw_I a3)]) ⟨tw_in_TB 1054 (by decide +kernel) rfl, tw_in_TB 62 (by decide +kernel) rfl, by decide +kernel⟩ (tw_in_TB 1052 (by decide +kernel) rfl) (tw_in_TB 1053 (by decide +kernel) rfl) hl ⟨rfl, rfl⟩ hRm (ob r hr) (T := TX9) (N := 15) rfl rfl hsz rfl hW hdg hf) hL (fun H1 locs1 a b g => kk r.1 r.2 H1 locs1 a b g hF)
def rmX9_occurrences : Room := { frames := 3, cells := 0, slots := 0, locals := 68 }
set_option maxRecDepth 100000 in
set_option maxHeartbeats 4000000 in
theorem sX9_occurrences_S0 {l : Launch} {p : Program} {e : Env} {s : State} {m : MethodId} {args : Array Value} {below : List Frame} {meth : Method} {c : Code} (G : tw_G) (sz : Nat) (hC : tw_C G p s m args meth c RX9 cX9_occurrences 5 (some .int)) (this : Nat) (a1 : Int) (ga1 : tm_rg a1) (h : tm_H) : ∀ (k : Nat) (st : (Int × Int) ⊕ (Int × Int × Int) ⊕ (Int × Int × Int × Int)) (out : Int), tm_wit (fX9_occurrences_S0 this a1 h) k st = some out → match st with
    | .inl ((x2, x3)) => ∀ (H : Heap) (locs : List Loc) (ls : Array Slot), tm_rg x2 → tm_rg x3 → tw_Rel G sz h H → tw_L G locs → lv_has ls 5 [(0, .ref this), (1, .int (tw_I a1)), (2, .int (tw_I x2)), (3, .int (tw_I x3))] → W p l e rmX9_occurrences s m args below meth c H locs 0 0 (MQ below (tw_Qi G sz out h) args s 0 0 (tw_F G)) (F0 m 4 ls [])
    | .inr (.inl ((x2, x3, x4))) => ∀ (H : Heap) (locs : List Loc) (ls : Array Slot), tm_rg x2 → tm_rg x3 → tm_rg x4 → tw_Rel G sz h H → tw_L G locs → lv_has ls 5 [(0, .ref this), (1, .int (tw_I a1)), (2, .int (tw_I x2)), (3, .int (tw_I x3)), (4, .int (tw_I x4))] → W p l e rmX9_occurrences s m args below meth c H locs 0 0 (MQ below (tw_Qi G sz out h) args s 0 0 (tw_F G)) (F0 m 13 ls [])
    | .inr (.inr ((x3, x4, s0, s1))) => ∀ (H : Heap) (locs : List Loc) (ls : Array Slot), tm_rg x3 → tm_rg x4 → tm_rg s0 → tm_rg s1 → tw_Rel G sz h H → tw_L G locs → lv_has ls 5 [(0, .ref this), (1, .int (tw_I a1)), (3, .int (tw_I x3)), (4, .int (tw_I x4))] → W p l e rmX9_occurrences s m args below meth c H locs 0 0 (MQ below (tw_Qi G sz out h) args s 0 0 (tw_F G)) (F0 m 40 ls [.int (tw_I s1), .int (tw_I s0)]) := by
  intro k
  induction k with
  | zero =>
    intro st out hk
    exact absurd hk (by unfold tm_wit; exact fun z => by cases z)
  | succ k ih =>
    intro st out hk
    obtain ⟨X, hk, hf⟩ := tm_wit_succ hk
    obtain ⟨x2, x3⟩ | ⟨x2, x3, x4⟩ | ⟨x3, x4, s0, s1⟩ := st
    · intro H locs ls gx2 gx3 hR hL hl
      dsimp only [fX9_occurrences_S0] at hk
      refine lv_iload_n hC.1 hC.2.1 dX9_occurrences_4 rfl (lv_at hl 3 rfl) ?_
      refine lv_bipush (v := tw_I 6) hC.1 hC.2.1 dX9_occurrences_5 (by decide) ?_
      refine tw_cge (tgt := 54) hC hk gx3 ((tw_rgL rfl)) dX9_occurrences_7 (by decide) (fun _ hk => ?_) (fun _ hk => ?_)
      · refine lv_iconst (v := tw_I 0) hC.1 hC.2.1 dX9_occurrences_10 rfl ?_
        refine lv_istore (lv' := [(4, .int (tw_I 0)), (0, .ref this), (1, .int (tw_I a1)), (2, .int (tw_I x2)), (3, .int (tw_I x3))]) hC.1 hC.2.1 dX9_occurrences_11 hl (by decide) rfl (fun ls hl => ?_)
        cases hk
        exact ih _ out hf H locs _ gx2 gx3 ((tw_rgL rfl)) hR hL (lv_sub hl [1, 2, 3, 4, 0] rfl)
      · refine lv_iload_n hC.1 hC.2.1 dX9_occurrences_54 rfl (lv_at hl 2 rfl) ?_
        cases hk
        cases hf
        exact tw_iret hC hR hL gx2 rfl rfl dX9_occurrences_55
    · intro H locs ls gx2 gx3 gx4 hR hL hl
      dsimp only [fX9_occurrences_S0] at hk
      refine lv_iload hC.1 hC.2.1 dX9_occurrences_13 (lv_at hl 4 rfl) ?_
      refine lv_aload_n hC.1 hC.2.1 dX9_occurrences_15 rfl (lv_at hl 0 rfl) ?_
      refine lv_iload_n hC.1 hC.2.1 dX9_occurrences_16 rfl (lv_at hl 3 rfl) ?_
      refine kX9_size hC hR hL hk gx3 mlX9_57 ⟨by decide, by decide⟩ hl.1 (Nat.le_of_ble_eq_true rfl) ⟨Nat.zero_le _, Nat.zero_le _⟩ dX9_occurrences_17 (fun v1 H locs hR hL gv1 hk => ?_)
      refine tw_cge (tgt := 48) hC hk gx4 gv1 dX9_occurrences_20 (by decide) (fun _ hk => ?_) (fun _ hk => ?_)
      · refine lv_iload_n hC.1 hC.2.1 dX9_occurrences_23 rfl (lv_at hl 2 rfl) ?_
        refine lv_aload_n hC.1 hC.2.1 dX9_occurrences_24 rfl (lv_at hl 0 rfl) ?_
        refine lv_iload_n hC.1 hC.2.1 dX9_occurrences_25 rfl (lv_at hl 1 rfl) ?_
        refine lv_iload_n hC.1 hC.2.1 dX9_occurrences_26 rfl (lv_at hl 3 rfl) ?_
        refine lv_iload hC.1 hC.2.1 dX9_occurrences_27 (lv_at hl 4 rfl) ?_
        refine kX9_occurs hC hR hL hk ga1 gx3 gx4 mlX9_108 ⟨by decide, by decide⟩ hl.1 (Nat.le_of_ble_eq_true rfl) ⟨Nat.zero_le _, Nat.zero_le _⟩ dX9_occurrences_29 (fun v2 H locs hR hL gv2 hk => ?_)
        refine tw_zeq (tgt := 39) hC hk gv2 dX9_occurrences_32 (by decide) (fun _ hk => ?_) (fun _ hk => ?_)
        · refine lv_iconst (v := tw_I 0) hC.1 hC.2.1 dX9_occurrences_39 rfl ?_
          cases hk
          exact ih _ out hf H locs _ gx3 gx4 gx2 ((tw_rgL rfl)) hR hL (lv_sub hl [0, 1, 3, 4] rfl)
        · refine lv_iconst (v := tw_I 1) hC.1 hC.2.1 dX9_occurrences_35 rfl ?_
          refine lv_goto (tgt := 40) hC.1 hC.2.1 dX9_occurrences_36 (by decide) ?_
          cases hk
          exact ih _ out hf H locs _ gx3 gx4 gx2 ((tw_rgL rfl)) hR hL (lv_sub hl [0, 1, 3, 4] rfl)
      · refine tw_iinc (lv' := [(3, .int (tw_I (tm_wr (x3 + 1)))), (0, .ref this), (1, .int (tw_I a1)), (2, .int (tw_I x2)), (4, .int (tw_I x4))]) hC dX9_occurrences_48 hl (k := 3) rfl (by decide) rfl (fun ls hl => ?_)
        refine lv_goto (tgt := 4) hC.1 hC.2.1 dX9_occurrences_51 (by decide) ?_
        cases hk
        exact ih _ out hf H locs _ gx2 ((tm_wr_rg _)) hR hL (lv_sub hl [1, 2, 3, 0] rfl)
    · intro H locs ls gx3 gx4 gs0 gs1 hR hL hl
      dsimp only [fX9_occurrences_S0] at hk
      refine tw_iadd hC dX9_occurrences_40 ?_
      refine lv_istore_n (lv' := [(2, .int (tw_I (tm_wr (s0 + s1)))), (0, .ref this), (1, .int (tw_I a1)), (3, .int (tw_I x3)), (4, .int (tw_I x4))]) hC.1 hC.2.1 dX9_occurrences_41 rfl hl (by decide) rfl (fun ls hl => ?_)
      refine tw_iinc (lv' := [(4, .int (tw_I (tm_wr (x4 + 1)))), (2, .int (tw_I (tm_wr (s0 + s1)))), (0, .ref this), (1, .int (tw_I a1)), (3, .int (tw_I x3))]) hC dX9_occurrences_42 hl (k := 4) rfl (by decide) rfl (fun ls hl => ?_)
      refine lv_goto (tgt := 13) hC.1 hC.2.1 dX9_occurrences_45 (by decide) ?_
      cases hk
      exact ih _ out hf H locs _ ((tm_wr_rg _)) gx3 ((tm_wr_rg _)) hR hL (lv_sub hl [2, 3, 1, 4, 0] rfl)
theorem sX9_occurrences_L4 {l : Launch} {p : Program} {e : Env} {s : State} {m : MethodId} {args : Array Value} {below : List Frame} {meth : Method} {c : Code} (G : tw_G) (sz : Nat) (hC : tw_C G p s m args meth c RX9 cX9_occurrences 5 (some .int)) (this : Nat) (a1 : Int) (ga1 : tm_rg a1) (h : tm_H) (x2 : Int) (x3 : Int) (gx2 : tm_rg x2) (gx3 : tm_rg x3) (out : Int) (hk : fX9_occurrences_L4 this a1 h x2 x3 = some out) (H : Heap) (locs : List Loc) (ls : Array Slot) (hR : tw_Rel G sz h H) (hL : tw_L G locs) (hl : lv_has ls 5 [(0, .ref this), (1, .int (tw_I a1)), (2, .int (tw_I x2)), (3, .int (tw_I x3))]) : W p l e rmX9_occurrences s m args below meth c H locs 0 0 (MQ below (tw_Qi G sz out h) args s 0 0 (tw_F G)) (F0 m 4 ls []) := by
  obtain ⟨k, hk⟩ := tm_wl_iff.mp hk
  exact sX9_occurrences_S0 G sz hC this a1 ga1 h k (.inl ((x2, x3))) out hk H locs ls gx2 gx3 hR hL hl
theorem sX9_occurrences_L13 {l : Launch} {p : Program} {e : Env} {s : State} {m : MethodId} {args : Array Value} {below : List Frame} {meth : Method} {c : Code} (G : tw_G) (sz : Nat) (hC : tw_C G p s m args meth c RX9 cX9_occurrences 5 (some .int)) (this : Nat) (a1 : Int) (ga1 : tm_rg a1) (h : tm_H) (x2 : Int) (x3 : Int) (x4 : Int) (gx2 : tm_rg x2) (gx3 : tm_rg x3) (gx4 : tm_rg x4) (out : Int) (hk : fX9_occurrences_L13 this a1 h x2 x3 x4 = some out) (H : Heap) (locs : List Loc) (ls : Array Slot) (hR : tw_Rel G sz h H) (hL : tw_L G locs) (hl : lv_has ls 5 [(0, .ref this), (1, .int (tw_I a1)), (2, .int (tw_I x2)), (3, .int (tw_I x3)), (4, .int (tw_I x4))]) : W p l e rmX9_occurrences s m args below meth c H locs 0 0 (MQ below (tw_Qi G sz out h) args s 0 0 (tw_F G)) (F0 m 13 ls []) := by
  obtain ⟨k, hk⟩ := tm_wl_iff.mp hk
  exact sX9_occurrences_S0 G sz hC this a1 ga1 h k (.inr (.inl ((x2, x3, x4)))) out hk H locs ls gx2 gx3 gx4 hR hL hl
theorem sX9_occurrences_L40 {l : Launch} {p : Program} {e : Env} {s : State} {m : MethodId} {args : Array Value} {below : List Frame} {meth : Method} {c : Code} (G : tw_G) (sz : Nat) (hC : tw_C G p s m args meth c RX9 cX9_occurrences 5 (some .int)) (this : Nat) (a1 : Int) (ga1 : tm_rg a1) (h : tm_H) (x3 : Int) (x4 : Int) (s0 : Int) (s1 : Int) (gx3 : tm_rg x3) (gx4 : tm_rg x4) (gs0 : tm_rg s0) (gs1 : tm_rg s1) (out : Int) (hk : fX9_occurrences_L40 this a1 h x3 x4 s0 s1 = some out) (H : Heap) (locs : List Loc) (ls : Array Slot) (hR : tw_Rel G sz h H) (hL : tw_L G locs) (hl : lv_has ls 5 [(0, .ref this), (1, .int (tw_I a1)), (3, .int (tw_I x3)), (4, .int (tw_I x4))]) : W p l e rmX9_occurrences s m args below meth c H locs 0 0 (MQ below (tw_Qi G sz out h) args s 0 0 (tw_F G)) (F0 m 40 ls [.int (tw_I s1), .int (tw_I s0)]) := by
  obtain ⟨k, hk⟩ := tm_wl_iff.mp hk
  exact sX9_occurrences_S0 G sz hC this a1 ga1 h k (.inr (.inr ((x3, x4, s0, s1)))) out hk H locs ls gx3 gx4 gs0 gs1 hR hL hl
set_option maxRecDepth 100000 in
set_option maxHeartbeats 4000000 in
theorem cX9_occurrences_ok (l : Launch) (G : tw_G) (sz : Nat) (this : Nat) (a1 : Int) (ga1 : tm_rg a1) (h : tm_H) (out : Int) (hk : fX9_occurrences this a1 h = some out) : Met l yX9_occurrences (tw_WS yX9_occurrences cX9_occurrences 5 (some .int)) rmX9_occurrences (va_Pc [.ref this, .int (tw_I a1)] (tw_Pre G sz h)) (tw_Qi G sz out h) 0 0 (tw_F G) := by
  refine tw_met (by decide +kernel) (Nat.le_of_ble_eq_true rfl) ?_
  intro p e s m args below meth c H ls hC hnm hR hl
  unfold fX9_occurrences at hk
  obtain ⟨hob, hk⟩ := tm_th_is hk
  have hl : lv_has ls 5 [(0, .ref this), (1, .int (tw_I a1))] := hl
  have hL : tw_L G [] := fun q z => by cases z
  generalize hlc : ([] : List Loc) = locs at hL ⊢
  refine lv_iconst (v := tw_I 0) hC.1 hC.2.1 dX9_occurrences_0 rfl ?_
  refine lv_istore_n (lv' := [(2, .int (tw_I 0)), (0, .ref this), (1, .int (tw_I a1))]) hC.1 hC.2.1 dX9_occurrences_1 rfl hl (by decide) rfl (fun ls hl => ?_)
  refine lv_iconst (v := tw_I 0) hC.1 hC.2.1 dX9_occurrences_2 rfl ?_
  refine lv_istore_n (lv' := [(3, .int (tw_I 0)), (2, .int (tw_I 0)), (0, .ref this), (1, .int (tw_I a1))]) hC.1 hC.2.1 dX9_occurrences_3 rfl hl (by decide) rfl (fun ls hl => ?_)
  exact sX9_occurrences_L4 G sz hC this a1 ga1 h 0 0 ((tw_rgL rfl)) ((tw_rgL rfl)) out hk H locs _ hR hL (lv_sub hl [2, 3, 1, 0] rfl)
set_option maxRecDepth 100000 in
theorem kX9_occurrences {l : Launch} {p : Program} {e : Env} {R : Room} {s : State} {m : MethodId} {args : Array Value} {below : List Frame} {meth : Method} {c : Code} {H : Heap} {locs : List Loc} {cells slots : Nat} {Q : State → Prop} {cc : ByteArray} {pc nL idx : Nat} {ls : Array Slot} {rest : List Value} {G : tw_G} {h : tm_H} {own : String} {ret : Option FieldType} {α : Type} {x : α} {sz : Nat} {this : Nat} {a1 : Int} (hC : tw_C G p s m args meth c own cc nL ret) (hR : tw_Rel G sz h H) (hL : tw_L G locs) {F : Int → Option α} (hk : (fX9_occurrences this a1 h).bind F = some x) (ga1 : tm_rg a1) (hl : tw_mL own idx yX9_occurrences) (hRm : rmX9_occurrences.frames + 1 ≤ R.frames ∧ 8 + (5 + 11) + rmX9_occurrences.locals ≤ R.locals) (hsz : ls.size = nL) (hW : (rest.map fun v => v.category).sum ≤ 8) (hf : cells + 0 ≤ R.cells ∧ slots + 0 ≤ R.slots) (hdg : decode cc pc = .ok (.invokevirtual idx, 3)) (kk : ∀ (r : Int) (H1 : Heap) (locs1 : List Loc), tw_Rel G sz h H1 → tw_L G locs1 → tm_rg r → F r = some x → W p l e R s m args below meth c H1 locs1 (cells + 0) (slots + 0) Q (F0 m (pc + 3) ls (.int (tw_I r) :: rest))) : W p l e R s m args below meth c H locs cells slots Q (F0 m pc ls (.int (tw_I a1) :: .ref this :: rest)) := by
  obtain ⟨r, hr, hF⟩ := Option.bind_eq_some_iff.mp hk
  have ob : ∀ r, fX9_occurrences this a1 h = some r → tm_is h 9 this := fun r hr => by
    unfold fX9_occurrences at hr
    exact (tm_th_is hr).1
  exact tw_backi (tw_runV hC hR (cX9_occurrences_ok l G sz this a1 ga1 h r hr) (n := 1) (As := [.int (tw_I a1)]) ⟨tw_in_TB 1062 (by decide +kernel) rfl, tw_in_TB 62 (by decide +kernel) rfl, by decide +kernel⟩ (tw_in_TB 1061 (by decide +kernel) rfl) (tw_in_TB 49 (by decide +kernel) rfl) hl ⟨rfl, rfl⟩ hRm (ob r hr) (T := TX9) (N := 15) rfl rfl hsz rfl hW hdg hf) hL (fun H1 locs1 a b g => kk r H1 locs1 a b g hF)
def rmX9_firstIn : Room := { frames := 6, cells := 0, slots := 0, locals := 145 }
set_option maxRecDepth 100000 in
set_option maxHeartbeats 4000000 in
theorem sX9_firstIn_S0 {l : Launch} {p : Program} {e : Env} {s : State} {m : MethodId} {args : Array Value} {below : List Frame} {meth : Method} {c : Code} (G : tw_G) (sz : Nat) (hC : tw_C G p s m args meth c RX9 cX9_firstIn 5 (some .int)) (this : Nat) (a1 : Int) (a2 : Int) (ga1 : tm_rg a1) (ga2 : tm_rg a2) : ∀ (k : Nat) (st : (Int × Int × tm_H)) (out : Int × tm_H), tm_wit (fX9_firstIn_S0 this a1 a2) k st = some out → match st with
    | (x3, x4, h) => ∀ (H : Heap) (locs : List Loc) (ls : Array Slot), tm_rg x3 → tm_rg x4 → tw_Rel G sz h H → tw_L G locs → lv_has ls 5 [(0, .ref this), (1, .int (tw_I a1)), (2, .int (tw_I a2)), (3, .int (tw_I x3)), (4, .int (tw_I x4))] → W p l e rmX9_firstIn s m args below meth c H locs 0 0 (MQ below (tw_Qi G sz out.1 out.2) args s 0 0 (tw_F G)) (F0 m 9 ls []) := by
  intro k
  induction k with
  | zero =>
    intro st out hk
    exact absurd hk (by unfold tm_wit; exact fun z => by cases z)
  | succ k ih =>
    intro st out hk
    obtain ⟨X, hk, hf⟩ := tm_wit_succ hk
    obtain ⟨x3, x4, h⟩ := st
    intro H locs ls gx3 gx4 hR hL hl
    dsimp only [fX9_firstIn_S0] at hk
    refine lv_iload hC.1 hC.2.1 dX9_firstIn_9 (lv_at hl 4 rfl) ?_
    refine lv_aload_n hC.1 hC.2.1 dX9_firstIn_11 rfl (lv_at hl 0 rfl) ?_
    refine lv_iload_n hC.1 hC.2.1 dX9_firstIn_12 rfl (lv_at hl 2 rfl) ?_
    refine kX9_size hC hR hL hk ga2 mlX9_57 ⟨by decide, by decide⟩ hl.1 (Nat.le_of_ble_eq_true rfl) ⟨Nat.zero_le _, Nat.zero_le _⟩ dX9_firstIn_13 (fun v2 H locs hR hL gv2 hk => ?_)
    refine tw_cge (tgt := 43) hC hk gx4 gv2 dX9_firstIn_16 (by decide) (fun _ hk => ?_) (fun _ hk => ?_)
    · refine lv_iload_n hC.1 hC.2.1 dX9_firstIn_19 rfl (lv_at hl 3 rfl) ?_
      refine tw_zlt (tgt := 43) hC hk gx3 dX9_firstIn_20 (by decide) (fun _ hk => ?_) (fun _ hk => ?_)
      · refine lv_bipush (v := tw_I (-99)) hC.1 hC.2.1 dX9_firstIn_43 (by decide) ?_
        cases hk
        cases hf
        exact tw_iret hC hR hL ((tw_rgL rfl)) rfl rfl dX9_firstIn_45
      · refine lv_aload_n hC.1 hC.2.1 dX9_firstIn_23 rfl (lv_at hl 0 rfl) ?_
        refine tw_getR hC hR hk flX9_28 dX9_firstIn_24 (fun r3 hk => ?_)
        refine lv_iload hC.1 hC.2.1 dX9_firstIn_27 (lv_at hl 4 rfl) ?_
        refine tw_iald hC hR hk dX9_firstIn_29 (fun v4 gv4 hk => ?_)
        refine lv_iload_n hC.1 hC.2.1 dX9_firstIn_30 rfl (lv_at hl 1 rfl) ?_
        refine tw_cne (tgt := 37) hC hk gv4 ga1 dX9_firstIn_31 (by decide) (fun _ hk => ?_) (fun _ hk => ?_)
        · refine lv_iload hC.1 hC.2.1 dX9_firstIn_34 (lv_at hl 4 rfl) ?_
          cases hk
          cases hf
          exact tw_iret hC hR hL gx4 rfl rfl dX9_firstIn_36
        · refine tw_iinc (lv' := [(4, .int (tw_I (tm_wr (x4 + 1)))), (0, .ref this), (1, .int (tw_I a1)), (2, .int (tw_I a2)), (3, .int (tw_I x3))]) hC dX9_firstIn_37 hl (k := 4) rfl (by decide) rfl (fun ls hl => ?_)
          refine lv_goto (tgt := 9) hC.1 hC.2.1 dX9_firstIn_40 (by decide) ?_
          cases hk
          exact ih _ out hf H locs _ gx3 ((tm_wr_rg _)) hR hL (lv_sub hl [1, 2, 3, 4, 0] rfl)
    · refine lv_bipush (v := tw_I (-99)) hC.1 hC.2.1 dX9_firstIn_43 (by decide) ?_
      cases hk
      cases hf
      exact tw_iret hC hR hL ((tw_rgL rfl)) rfl rfl dX9_firstIn_45
theorem sX9_firstIn_L9 {l : Launch} {p : Program} {e : Env} {s : State} {m : MethodId} {args : Array Value} {below : List Frame} {meth : Method} {c : Code} (G : tw_G) (sz : Nat) (hC : tw_C G p s m args meth c RX9 cX9_firstIn 5 (some .int)) (this : Nat) (a1 : Int) (a2 : Int) (ga1 : tm_rg a1) (ga2 : tm_rg a2) (x3 : Int) (x4 : Int) (h : tm_H) (gx3 : tm_rg x3) (gx4 : tm_rg x4) (out : Int × tm_H) (hk : fX9_firstIn_L9 this a1 a2 x3 x4 h = some out) (H : Heap) (locs : List Loc) (ls : Array Slot) (hR : tw_Rel G sz h H) (hL : tw_L G locs) (hl : lv_has ls 5 [(0, .ref this), (1, .int (tw_I a1)), (2, .int (tw_I a2)), (3, .int (tw_I x3)), (4, .int (tw_I x4))]) : W p l e rmX9_firstIn s m args below meth c H locs 0 0 (MQ below (tw_Qi G sz out.1 out.2) args s 0 0 (tw_F G)) (F0 m 9 ls []) := by
  obtain ⟨k, hk⟩ := tm_wl_iff.mp hk
  exact sX9_firstIn_S0 G sz hC this a1 a2 ga1 ga2 k ((x3, x4, h)) out hk H locs ls gx3 gx4 hR hL hl
set_option maxRecDepth 100000 in
set_option maxHeartbeats 4000000 in
theorem cX9_firstIn_ok (l : Launch) (G : tw_G) (sz : Nat) (this : Nat) (a1 : Int) (a2 : Int) (ga1 : tm_rg a1) (ga2 : tm_rg a2) (h : tm_H) (out : Int × tm_H) (hk : fX9_firstIn this a1 a2 h = some out) : Met l yX9_firstIn (tw_WS yX9_firstIn cX9_firstIn 5 (some .int)) rmX9_firstIn (va_Pc [.ref this, .int (tw_I a1), .int (tw_I a2)] (tw_Pre G sz h)) (tw_Qi G sz out.1 out.2) 0 0 (tw_F G) := by
  refine tw_met (by decide +kernel) (Nat.le_of_ble_eq_true rfl) ?_
  intro p e s m args below meth c H ls hC hnm hR hl
  unfold fX9_firstIn at hk
  obtain ⟨hob, hk⟩ := tm_th_is hk
  have hl : lv_has ls 5 [(0, .ref this), (1, .int (tw_I a1)), (2, .int (tw_I a2))] := hl
  have hL : tw_L G [] := fun q z => by cases z
  generalize hlc : ([] : List Loc) = locs at hL ⊢
  refine lv_aload_n hC.1 hC.2.1 dX9_firstIn_0 rfl (lv_at hl 0 rfl) ?_
  refine lv_iload_n hC.1 hC.2.1 dX9_firstIn_1 rfl (lv_at hl 2 rfl) ?_
  refine kX9_reads hC hR hL hk ga2 mlX9_122 ⟨by decide, by decide⟩ hl.1 (Nat.le_of_ble_eq_true rfl) ⟨Nat.zero_le _, Nat.zero_le _⟩ dX9_firstIn_2 (fun v1 h1 H locs hR hL gv1 hk => ?_)
  refine lv_istore_n (lv' := [(3, .int (tw_I v1)), (0, .ref this), (1, .int (tw_I a1)), (2, .int (tw_I a2))]) hC.1 hC.2.1 dX9_firstIn_5 rfl hl (by decide) rfl (fun ls hl => ?_)
  refine lv_iconst (v := tw_I 0) hC.1 hC.2.1 dX9_firstIn_6 rfl ?_
  refine lv_istore (lv' := [(4, .int (tw_I 0)), (3, .int (tw_I v1)), (0, .ref this), (1, .int (tw_I a1)), (2, .int (tw_I a2))]) hC.1 hC.2.1 dX9_firstIn_7 hl (by decide) rfl (fun ls hl => ?_)
  exact sX9_firstIn_L9 G sz hC this a1 a2 ga1 ga2 v1 0 h1 gv1 ((tw_rgL rfl)) out hk H locs _ hR hL (lv_sub hl [2, 3, 4, 1, 0] rfl)
set_option maxRecDepth 100000 in
theorem kX9_firstIn {l : Launch} {p : Program} {e : Env} {R : Room} {s : State} {m : MethodId} {args : Array Value} {below : List Frame} {meth : Method} {c : Code} {H : Heap} {locs : List Loc} {cells slots : Nat} {Q : State → Prop} {cc : ByteArray} {pc nL idx : Nat} {ls : Array Slot} {rest : List Value} {G : tw_G} {h : tm_H} {own : String} {ret : Option FieldType} {α : Type} {x : α} {sz : Nat} {this : Nat} {a1 : Int} {a2 : Int} (hC : tw_C G p s m args meth c own cc nL ret) (hR : tw_Rel G sz h H) (hL : tw_L G locs) {F : Int × tm_H → Option α} (hk : (fX9_firstIn this a1 a2 h).bind F = some x) (ga1 : tm_rg a1) (ga2 : tm_rg a2) (hl : tw_mL own idx yX9_firstIn) (hRm : rmX9_firstIn.frames + 1 ≤ R.frames ∧ 8 + (5 + 11) + rmX9_firstIn.locals ≤ R.locals) (hsz : ls.size = nL) (hW : (rest.map fun v => v.category).sum ≤ 8) (hf : cells + 0 ≤ R.cells ∧ slots + 0 ≤ R.slots) (hdg : decode cc pc = .ok (.invokevirtual idx, 3)) (kk : ∀ (r : Int) (h1 : tm_H) (H1 : Heap) (locs1 : List Loc), tw_Rel G sz h1 H1 → tw_L G locs1 → tm_rg r → F (r, h1) = some x → W p l e R s m args below meth c H1 locs1 (cells + 0) (slots + 0) Q (F0 m (pc + 3) ls (.int (tw_I r) :: rest))) : W p l e R s m args below meth c H locs cells slots Q (F0 m pc ls (.int (tw_I a2) :: .int (tw_I a1) :: .ref this :: rest)) := by
  obtain ⟨r, hr, hF⟩ := Option.bind_eq_some_iff.mp hk
  have ob : ∀ r, fX9_firstIn this a1 a2 h = some r → tm_is h 9 this := fun r hr => by
    unfold fX9_firstIn at hr
    exact (tm_th_is hr).1
  exact tw_backi (tw_runV hC hR (cX9_firstIn_ok l G sz this a1 a2 ga1 ga2 h r hr) (n := 2) (As := [.int (tw_I a1), .int (tw_I a2)]) ⟨tw_in_TB 1070 (by decide +kernel) rfl, tw_in_TB 62 (by decide +kernel) rfl, by decide +kernel⟩ (tw_in_TB 1069 (by decide +kernel) rfl) (tw_in_TB 51 (by decide +kernel) rfl) hl ⟨rfl, rfl⟩ hRm (ob r hr) (T := TX9) (N := 15) rfl rfl hsz rfl hW hdg hf) hL (fun H1 locs1 a b g => kk r.1 r.2 H1 locs1 a b g hF)
def rmX9_marksOf : Room := { frames := 7, cells := 0, slots := 0, locals := 169 }
set_option maxRecDepth 100000 in
set_option maxHeartbeats 4000000 in
theorem sX9_marksOf_S0 {l : Launch} {p : Program} {e : Env} {s : State} {m : MethodId} {args : Array Value} {below : List Frame} {meth : Method} {c : Code} (G : tw_G) (sz : Nat) (hC : tw_C G p s m args meth c RX9 cX9_marksOf 4 (some .int)) (this : Nat) (a1 : Int) (ga1 : tm_rg a1) : ∀ (k : Nat) (st : (Int × Int × tm_H) ⊕ (Int × Int × tm_H) ⊕ (Int × Int × Int × tm_H)) (out : Int × tm_H), tm_wit (fX9_marksOf_S0 this a1) k st = some out → match st with
    | .inl ((x2, x3, h)) => ∀ (H : Heap) (locs : List Loc) (ls : Array Slot), tm_rg x2 → tm_rg x3 → tw_Rel G sz h H → tw_L G locs → lv_has ls 4 [(0, .ref this), (1, .int (tw_I a1)), (2, .int (tw_I x2)), (3, .int (tw_I x3))] → W p l e rmX9_marksOf s m args below meth c H locs 0 0 (MQ below (tw_Qi G sz out.1 out.2) args s 0 0 (tw_F G)) (F0 m 4 ls [])
    | .inr (.inl ((x3, s0, h))) => ∀ (H : Heap) (locs : List Loc) (ls : Array Slot), tm_rg x3 → tm_rg s0 → tw_Rel G sz h H → tw_L G locs → lv_has ls 4 [(0, .ref this), (1, .int (tw_I a1)), (3, .int (tw_I x3))] → W p l e rmX9_marksOf s m args below meth c H locs 0 0 (MQ below (tw_Qi G sz out.1 out.2) args s 0 0 (tw_F G)) (F0 m 34 ls [.int (tw_I s0)])
    | .inr (.inr ((x3, s0, s1, h))) => ∀ (H : Heap) (locs : List Loc) (ls : Array Slot), tm_rg x3 → tm_rg s0 → tm_rg s1 → tw_Rel G sz h H → tw_L G locs → lv_has ls 4 [(0, .ref this), (1, .int (tw_I a1)), (3, .int (tw_I x3))] → W p l e rmX9_marksOf s m args below meth c H locs 0 0 (MQ below (tw_Qi G sz out.1 out.2) args s 0 0 (tw_F G)) (F0 m 35 ls [.int (tw_I s1), .int (tw_I s0)]) := by
  intro k
  induction k with
  | zero =>
    intro st out hk
    exact absurd hk (by unfold tm_wit; exact fun z => by cases z)
  | succ k ih =>
    intro st out hk
    obtain ⟨X, hk, hf⟩ := tm_wit_succ hk
    obtain ⟨x2, x3, h⟩ | ⟨x3, s0, h⟩ | ⟨x3, s0, s1, h⟩ := st
    · intro H locs ls gx2 gx3 hR hL hl
      dsimp only [fX9_marksOf_S0] at hk
      refine lv_iload_n hC.1 hC.2.1 dX9_marksOf_4 rfl (lv_at hl 3 rfl) ?_
      refine lv_bipush (v := tw_I 6) hC.1 hC.2.1 dX9_marksOf_5 (by decide) ?_
      refine tw_cge (tgt := 43) hC hk gx3 ((tw_rgL rfl)) dX9_marksOf_7 (by decide) (fun _ hk => ?_) (fun _ hk => ?_)
      · refine lv_iload_n hC.1 hC.2.1 dX9_marksOf_10 rfl (lv_at hl 2 rfl) ?_
        refine lv_aload_n hC.1 hC.2.1 dX9_marksOf_11 rfl (lv_at hl 0 rfl) ?_
        refine lv_iload_n hC.1 hC.2.1 dX9_marksOf_12 rfl (lv_at hl 1 rfl) ?_
        refine kX9_isQuiet hC hR hL hk ga1 mlX9_115 ⟨by decide, by decide⟩ hl.1 (Nat.le_of_ble_eq_true rfl) ⟨Nat.zero_le _, Nat.zero_le _⟩ dX9_marksOf_13 (fun v1 H locs hR hL gv1 hk => ?_)
        refine tw_zne (tgt := 34) hC hk gv1 dX9_marksOf_16 (by decide) (fun _ hk => ?_) (fun _ hk => ?_)
        · refine lv_aload_n hC.1 hC.2.1 dX9_marksOf_19 rfl (lv_at hl 0 rfl) ?_
          refine lv_iload_n hC.1 hC.2.1 dX9_marksOf_20 rfl (lv_at hl 1 rfl) ?_
          refine lv_iload_n hC.1 hC.2.1 dX9_marksOf_21 rfl (lv_at hl 3 rfl) ?_
          refine kX9_firstIn hC hR hL hk ga1 gx3 mlX9_179 ⟨by decide, by decide⟩ hl.1 (Nat.le_of_ble_eq_true rfl) ⟨Nat.zero_le _, Nat.zero_le _⟩ dX9_marksOf_22 (fun v2 h2 H locs hR hL gv2 hk => ?_)
          refine lv_bipush (v := tw_I (-99)) hC.1 hC.2.1 dX9_marksOf_25 (by decide) ?_
          refine tw_ceq (tgt := 34) hC hk gv2 ((tw_rgL rfl)) dX9_marksOf_27 (by decide) (fun _ hk => ?_) (fun _ hk => ?_)
          · cases hk
            exact ih _ out hf H locs _ gx3 gx2 hR hL (lv_sub hl [0, 1, 3] rfl)
          · refine lv_iconst (v := tw_I 1) hC.1 hC.2.1 dX9_marksOf_30 rfl ?_
            refine lv_goto (tgt := 35) hC.1 hC.2.1 dX9_marksOf_31 (by decide) ?_
            cases hk
            exact ih _ out hf H locs _ gx3 gx2 ((tw_rgL rfl)) hR hL (lv_sub hl [0, 1, 3] rfl)
        · cases hk
          exact ih _ out hf H locs _ gx3 gx2 hR hL (lv_sub hl [0, 1, 3] rfl)
      · refine lv_iload_n hC.1 hC.2.1 dX9_marksOf_43 rfl (lv_at hl 2 rfl) ?_
        cases hk
        cases hf
        exact tw_iret hC hR hL gx2 rfl rfl dX9_marksOf_44
    · intro H locs ls gx3 gs0 hR hL hl
      dsimp only [fX9_marksOf_S0] at hk
      refine lv_iconst (v := tw_I 0) hC.1 hC.2.1 dX9_marksOf_34 rfl ?_
      cases hk
      exact ih _ out hf H locs _ gx3 gs0 ((tw_rgL rfl)) hR hL (lv_sub hl [0, 1, 2] rfl)
    · intro H locs ls gx3 gs0 gs1 hR hL hl
      dsimp only [fX9_marksOf_S0] at hk
      refine tw_iadd hC dX9_marksOf_35 ?_
      refine lv_istore_n (lv' := [(2, .int (tw_I (tm_wr (s0 + s1)))), (0, .ref this), (1, .int (tw_I a1)), (3, .int (tw_I x3))]) hC.1 hC.2.1 dX9_marksOf_36 rfl hl (by decide) rfl (fun ls hl => ?_)
      refine tw_iinc (lv' := [(3, .int (tw_I (tm_wr (x3 + 1)))), (2, .int (tw_I (tm_wr (s0 + s1)))), (0, .ref this), (1, .int (tw_I a1))]) hC dX9_marksOf_37 hl (k := 3) rfl (by decide) rfl (fun ls hl => ?_)
      refine lv_goto (tgt := 4) hC.1 hC.2.1 dX9_marksOf_40 (by decide) ?_
      cases hk
      exact ih _ out hf H locs _ ((tm_wr_rg _)) ((tm_wr_rg _)) hR hL (lv_sub hl [2, 3, 1, 0] rfl)
theorem sX9_marksOf_L4 {l : Launch} {p : Program} {e : Env} {s : State} {m : MethodId} {args : Array Value} {below : List Frame} {meth : Method} {c : Code} (G : tw_G) (sz : Nat) (hC : tw_C G p s m args meth c RX9 cX9_marksOf 4 (some .int)) (this : Nat) (a1 : Int) (ga1 : tm_rg a1) (x2 : Int) (x3 : Int) (h : tm_H) (gx2 : tm_rg x2) (gx3 : tm_rg x3) (out : Int × tm_H) (hk : fX9_marksOf_L4 this a1 x2 x3 h = some out) (H : Heap) (locs : List Loc) (ls : Array Slot) (hR : tw_Rel G sz h H) (hL : tw_L G locs) (hl : lv_has ls 4 [(0, .ref this), (1, .int (tw_I a1)), (2, .int (tw_I x2)), (3, .int (tw_I x3))]) : W p l e rmX9_marksOf s m args below meth c H locs 0 0 (MQ below (tw_Qi G sz out.1 out.2) args s 0 0 (tw_F G)) (F0 m 4 ls []) := by
  obtain ⟨k, hk⟩ := tm_wl_iff.mp hk
  exact sX9_marksOf_S0 G sz hC this a1 ga1 k (.inl ((x2, x3, h))) out hk H locs ls gx2 gx3 hR hL hl
theorem sX9_marksOf_L34 {l : Launch} {p : Program} {e : Env} {s : State} {m : MethodId} {args : Array Value} {below : List Frame} {meth : Method} {c : Code} (G : tw_G) (sz : Nat) (hC : tw_C G p s m args meth c RX9 cX9_marksOf 4 (some .int)) (this : Nat) (a1 : Int) (ga1 : tm_rg a1) (x3 : Int) (s0 : Int) (h : tm_H) (gx3 : tm_rg x3) (gs0 : tm_rg s0) (out : Int × tm_H) (hk : fX9_marksOf_L34 this a1 x3 s0 h = some out) (H : Heap) (locs : List Loc) (ls : Array Slot) (hR : tw_Rel G sz h H) (hL : tw_L G locs) (hl : lv_has ls 4 [(0, .ref this), (1, .int (tw_I a1)), (3, .int (tw_I x3))]) : W p l e rmX9_marksOf s m args below meth c H locs 0 0 (MQ below (tw_Qi G sz out.1 out.2) args s 0 0 (tw_F G)) (F0 m 34 ls [.int (tw_I s0)]) := by
  obtain ⟨k, hk⟩ := tm_wl_iff.mp hk
  exact sX9_marksOf_S0 G sz hC this a1 ga1 k (.inr (.inl ((x3, s0, h)))) out hk H locs ls gx3 gs0 hR hL hl
theorem sX9_marksOf_L35 {l : Launch} {p : Program} {e : Env} {s : State} {m : MethodId} {args : Array Value} {below : List Frame} {meth : Method} {c : Code} (G : tw_G) (sz : Nat) (hC : tw_C G p s m args meth c RX9 cX9_marksOf 4 (some .int)) (this : Nat) (a1 : Int) (ga1 : tm_rg a1) (x3 : Int) (s0 : Int) (s1 : Int) (h : tm_H) (gx3 : tm_rg x3) (gs0 : tm_rg s0) (gs1 : tm_rg s1) (out : Int × tm_H) (hk : fX9_marksOf_L35 this a1 x3 s0 s1 h = some out) (H : Heap) (locs : List Loc) (ls : Array Slot) (hR : tw_Rel G sz h H) (hL : tw_L G locs) (hl : lv_has ls 4 [(0, .ref this), (1, .int (tw_I a1)), (3, .int (tw_I x3))]) : W p l e rmX9_marksOf s m args below meth c H locs 0 0 (MQ below (tw_Qi G sz out.1 out.2) args s 0 0 (tw_F G)) (F0 m 35 ls [.int (tw_I s1), .int (tw_I s0)]) := by
  obtain ⟨k, hk⟩ := tm_wl_iff.mp hk
  exact sX9_marksOf_S0 G sz hC this a1 ga1 k (.inr (.inr ((x3, s0, s1, h)))) out hk H locs ls gx3 gs0 gs1 hR hL hl
set_option maxRecDepth 100000 in
set_option maxHeartbeats 4000000 in
theorem cX9_marksOf_ok (l : Launch) (G : tw_G) (sz : Nat) (this : Nat) (a1 : Int) (ga1 : tm_rg a1) (h : tm_H) (out : Int × tm_H) (hk : fX9_marksOf this a1 h = some out) : Met l yX9_marksOf (tw_WS yX9_marksOf cX9_marksOf 4 (some .int)) rmX9_marksOf (va_Pc [.ref this, .int (tw_I a1)] (tw_Pre G sz h)) (tw_Qi G sz out.1 out.2) 0 0 (tw_F G) := by
  refine tw_met (by decide +kernel) (Nat.le_of_ble_eq_true rfl) ?_
  intro p e s m args below meth c H ls hC hnm hR hl
  unfold fX9_marksOf at hk
  obtain ⟨hob, hk⟩ := tm_th_is hk
  have hl : lv_has ls 4 [(0, .ref this), (1, .int (tw_I a1))] := hl
  have hL : tw_L G [] := fun q z => by cases z
  generalize hlc : ([] : List Loc) = locs at hL ⊢
  refine lv_iconst (v := tw_I 0) hC.1 hC.2.1 dX9_marksOf_0 rfl ?_
  refine lv_istore_n (lv' := [(2, .int (tw_I 0)), (0, .ref this), (1, .int (tw_I a1))]) hC.1 hC.2.1 dX9_marksOf_1 rfl hl (by decide) rfl (fun ls hl => ?_)
  refine lv_iconst (v := tw_I 0) hC.1 hC.2.1 dX9_marksOf_2 rfl ?_
  refine lv_istore_n (lv' := [(3, .int (tw_I 0)), (2, .int (tw_I 0)), (0, .ref this), (1, .int (tw_I a1))]) hC.1 hC.2.1 dX9_marksOf_3 rfl hl (by decide) rfl (fun ls hl => ?_)
  exact sX9_marksOf_L4 G sz hC this a1 ga1 0 0 h ((tw_rgL rfl)) ((tw_rgL rfl)) out hk H locs _ hR hL (lv_sub hl [2, 3, 1, 0] rfl)
set_option maxRecDepth 100000 in
theorem kX9_marksOf {l : Launch} {p : Program} {e : Env} {R : Room} {s : State} {m : MethodId} {args : Array Value} {below : List Frame} {meth : Method} {c : Code} {H : Heap} {locs : List Loc} {cells slots : Nat} {Q : State → Prop} {cc : ByteArray} {pc nL idx : Nat} {ls : Array Slot} {rest : List Value} {G : tw_G} {h : tm_H} {own : String} {ret : Option FieldType} {α : Type} {x : α} {sz : Nat} {this : Nat} {a1 : Int} (hC : tw_C G p s m args meth c own cc nL ret) (hR : tw_Rel G sz h H) (hL : tw_L G locs) {F : Int × tm_H → Option α} (hk : (fX9_marksOf this a1 h).bind F = some x) (ga1 : tm_rg a1) (hl : tw_mL own idx yX9_marksOf) (hRm : rmX9_marksOf.frames + 1 ≤ R.frames ∧ 8 + (4 + 11) + rmX9_marksOf.locals ≤ R.locals) (hsz : ls.size = nL) (hW : (rest.map fun v => v.category).sum ≤ 8) (hf : cells + 0 ≤ R.cells ∧ slots + 0 ≤ R.slots) (hdg : decode cc pc = .ok (.invokevirtual idx, 3)) (kk : ∀ (r : Int) (h1 : tm_H) (H1 : Heap) (locs1 : List Loc), tw_Rel G sz h1 H1 → tw_L G locs1 → tm_rg r → F (r, h1) = some x → W p l e R s m args below meth c H1 locs1 (cells + 0) (slots + 0) Q (F0 m (pc + 3) ls (.int (tw_I r) :: rest))) : W p l e R s m args below meth c H locs cells slots Q (F0 m pc ls (.int (tw_I a1) :: .ref this :: rest)) := by
  obtain ⟨r, hr, hF⟩ := Option.bind_eq_some_iff.mp hk
  have ob : ∀ r, fX9_marksOf this a1 h = some r → tm_is h 9 this := fun r hr => by
    unfold fX9_marksOf at hr
    exact (tm_th_is hr).1
  exact tw_backi (tw_runV hC hR (cX9_marksOf_ok l G sz this a1 ga1 h r hr) (n := 1) (As := [.int (tw_I a1)]) ⟨tw_in_TB 1066 (by decide +kernel) rfl, tw_in_TB 62 (by decide +kernel) rfl, by decide +kernel⟩ (tw_in_TB 1065 (by decide +kernel) rfl) (tw_in_TB 50 (by decide +kernel) rfl) hl ⟨rfl, rfl⟩ hRm (ob r hr) (T := TX9) (N := 15) rfl rfl hsz rfl hW hdg hf) hL (fun H1 locs1 a b g => kk r.1 r.2 H1 locs1 a b g hF)
def rmX9_term : Room := { frames := 8, cells := 0, slots := 0, locals := 192 }
set_option maxRecDepth 100000 in
set_option maxHeartbeats 4000000 in
theorem cX9_term_ok (l : Launch) (G : tw_G) (sz : Nat) (this : Nat) (a1 : Int) (a2 : Int) (ga1 : tm_rg a1) (ga2 : tm_rg a2) (h : tm_H) (out : Int × tm_H) (hk : fX9_term this a1 a2 h = some out) : Met l yX9_term (tw_WS yX9_term cX9_term 3 (some .int)) rmX9_term (va_Pc [.ref this, .int (tw_I a1), .int (tw_I a2)] (tw_Pre G sz h)) (tw_Qi G sz out.1 out.2) 0 0 (tw_F G) := by
  refine tw_met (by decide +kernel) (Nat.le_of_ble_eq_true rfl) ?_
  intro p e s m args below meth c H ls hC hnm hR hl
  unfold fX9_term at hk
  obtain ⟨hob, hk⟩ := tm_th_is hk
  have hl : lv_has ls 3 [(0, .ref this), (1, .int (tw_I a1)), (2, .int (tw_I a2))] := hl
  have hL : tw_L G [] := fun q z => by cases z
  generalize hlc : ([] : List Loc) = locs at hL ⊢
  refine lv_aload_n hC.1 hC.2.1 dX9_term_0 rfl (lv_at hl 0 rfl) ?_
  refine lv_iload_n hC.1 hC.2.1 dX9_term_1 rfl (lv_at hl 1 rfl) ?_
  refine kX9_isTerm hC hR hL hk ga1 mlX9_90 ⟨by decide, by decide⟩ hl.1 (Nat.le_of_ble_eq_true rfl) ⟨Nat.zero_le _, Nat.zero_le _⟩ dX9_term_2 (fun v1 H locs hR hL gv1 hk => ?_)
  refine tw_zeq (tgt := 18) hC hk gv1 dX9_term_5 (by decide) (fun _ hk => ?_) (fun _ hk => ?_)
  · refine lv_iconst (v := tw_I (-1)) hC.1 hC.2.1 dX9_term_18 rfl ?_
    cases hk
    exact tw_iret hC hR hL ((tw_rgL rfl)) rfl rfl dX9_term_19
  · refine lv_iload_n hC.1 hC.2.1 dX9_term_8 rfl (lv_at hl 2 rfl) ?_
    refine lv_iconst (v := tw_I 0) hC.1 hC.2.1 dX9_term_9 rfl ?_
    refine lv_bipush (v := tw_I 8) hC.1 hC.2.1 dX9_term_10 (by decide) ?_
    refine kX9_in hC hR hL hk ga2 ((tw_rgL rfl)) ((tw_rgL rfl)) mlX9_45 ⟨by decide, by decide⟩ hl.1 (Nat.le_of_ble_eq_true rfl) ⟨Nat.zero_le _, Nat.zero_le _⟩ dX9_term_12 (fun v2 H locs hR hL gv2 hk => ?_)
    refine tw_zne (tgt := 20) hC hk gv2 dX9_term_15 (by decide) (fun _ hk => ?_) (fun _ hk => ?_)
    · refine lv_iconst (v := tw_I (-1)) hC.1 hC.2.1 dX9_term_18 rfl ?_
      cases hk
      exact tw_iret hC hR hL ((tw_rgL rfl)) rfl rfl dX9_term_19
    · refine lv_iload_n hC.1 hC.2.1 dX9_term_20 rfl (lv_at hl 2 rfl) ?_
      by_cases q4 : a2 = 0
      · rw [if_pos q4] at hk
        refine tw_tsIn (tgt := 68) hC 0 q4 (tw_rgL rfl) dX9_term_21 (by decide) (by decide) rfl (by decide) ?_
        refine lv_aload_n hC.1 hC.2.1 dX9_term_68 rfl (lv_at hl 0 rfl) ?_
        refine lv_iload_n hC.1 hC.2.1 dX9_term_69 rfl (lv_at hl 1 rfl) ?_
        refine lv_iconst (v := tw_I 0) hC.1 hC.2.1 dX9_term_70 rfl ?_
        refine kX9_ofTerm hC hR hL hk ga1 ((tw_rgL rfl)) mlX9_71 ⟨by decide, by decide⟩ hl.1 (Nat.le_of_ble_eq_true rfl) ⟨Nat.zero_le _, Nat.zero_le _⟩ dX9_term_71 (fun v3 H locs hR hL gv3 hk => ?_)
        cases hk
        exact tw_iret hC hR hL gv3 rfl rfl dX9_term_74
      · rw [if_neg q4] at hk
        by_cases q7 : a2 = 1
        · rw [if_pos q7] at hk
          refine tw_tsIn (tgt := 75) hC 1 q7 (tw_rgL rfl) dX9_term_21 (by decide) (by decide) rfl (by decide) ?_
          refine lv_iload_n hC.1 hC.2.1 dX9_term_75 rfl (lv_at hl 2 rfl) ?_
          refine lv_aload_n hC.1 hC.2.1 dX9_term_76 rfl (lv_at hl 0 rfl) ?_
          refine lv_iload_n hC.1 hC.2.1 dX9_term_77 rfl (lv_at hl 1 rfl) ?_
          refine lv_iconst (v := tw_I 0) hC.1 hC.2.1 dX9_term_78 rfl ?_
          refine kX9_ofTerm hC hR hL hk ga1 ((tw_rgL rfl)) mlX9_71 ⟨by decide, by decide⟩ hl.1 (Nat.le_of_ble_eq_true rfl) ⟨Nat.zero_le _, Nat.zero_le _⟩ dX9_term_79 (fun v5 H locs hR hL gv5 hk => ?_)
          refine tw_cgt (tgt := 94) hC hk ga2 gv5 dX9_term_82 (by decide) (fun _ hk => ?_) (fun _ hk => ?_)
          · refine lv_bipush (v := tw_I (-99)) hC.1 hC.2.1 dX9_term_94 (by decide) ?_
            cases hk
            exact tw_iret hC hR hL ((tw_rgL rfl)) rfl rfl dX9_term_96
          · refine lv_aload_n hC.1 hC.2.1 dX9_term_85 rfl (lv_at hl 0 rfl) ?_
            refine lv_iload_n hC.1 hC.2.1 dX9_term_86 rfl (lv_at hl 1 rfl) ?_
            refine lv_iload_n hC.1 hC.2.1 dX9_term_87 rfl (lv_at hl 2 rfl) ?_
            refine kX9_ofTerm hC hR hL hk ga1 ga2 mlX9_71 ⟨by decide, by decide⟩ hl.1 (Nat.le_of_ble_eq_true rfl) ⟨Nat.zero_le _, Nat.zero_le _⟩ dX9_term_88 (fun v6 H locs hR hL gv6 hk => ?_)
            refine lv_goto (tgt := 96) hC.1 hC.2.1 dX9_term_91 (by decide) ?_
            cases hk
            exact tw_iret hC hR hL gv6 rfl rfl dX9_term_96
        · rw [if_neg q7] at hk
          by_cases q10 : a2 = 2
          · rw [if_pos q10] at hk
            refine tw_tsIn (tgt := 75) hC 2 q10 (tw_rgL rfl) dX9_term_21 (by decide) (by decide) rfl (by decide) ?_
            refine lv_iload_n hC.1 hC.2.1 dX9_term_75 rfl (lv_at hl 2 rfl) ?_
            refine lv_aload_n hC.1 hC.2.1 dX9_term_76 rfl (lv_at hl 0 rfl) ?_
            refine lv_iload_n hC.1 hC.2.1 dX9_term_77 rfl (lv_at hl 1 rfl) ?_
            refine lv_iconst (v := tw_I 0) hC.1 hC.2.1 dX9_term_78 rfl ?_
            refine kX9_ofTerm hC hR hL hk ga1 ((tw_rgL rfl)) mlX9_71 ⟨by decide, by decide⟩ hl.1 (Nat.le_of_ble_eq_true rfl) ⟨Nat.zero_le _, Nat.zero_le _⟩ dX9_term_79 (fun v8 H locs hR hL gv8 hk => ?_)
            refine tw_cgt (tgt := 94) hC hk ga2 gv8 dX9_term_82 (by decide) (fun _ hk => ?_) (fun _ hk => ?_)
            · refine lv_bipush (v := tw_I (-99)) hC.1 hC.2.1 dX9_term_94 (by decide) ?_
              cases hk
              exact tw_iret hC hR hL ((tw_rgL rfl)) rfl rfl dX9_term_96
            · refine lv_aload_n hC.1 hC.2.1 dX9_term_85 rfl (lv_at hl 0 rfl) ?_
              refine lv_iload_n hC.1 hC.2.1 dX9_term_86 rfl (lv_at hl 1 rfl) ?_
              refine lv_iload_n hC.1 hC.2.1 dX9_term_87 rfl (lv_at hl 2 rfl) ?_
              refine kX9_ofTerm hC hR hL hk ga1 ga2 mlX9_71 ⟨by decide, by decide⟩ hl.1 (Nat.le_of_ble_eq_true rfl) ⟨Nat.zero_le _, Nat.zero_le _⟩ dX9_term_88 (fun v9 H locs hR hL gv9 hk => ?_)
              refine lv_goto (tgt := 96) hC.1 hC.2.1 dX9_term_91 (by decide) ?_
              cases hk
              exact tw_iret hC hR hL gv9 rfl rfl dX9_term_96
          · rw [if_neg q10] at hk
            by_cases q13 : a2 = 3
            · rw [if_pos q13] at hk
              refine tw_tsIn (tgt := 75) hC 3 q13 (tw_rgL rfl) dX9_term_21 (by decide) (by decide) rfl (by decide) ?_
              refine lv_iload_n hC.1 hC.2.1 dX9_term_75 rfl (lv_at hl 2 rfl) ?_
              refine lv_aload_n hC.1 hC.2.1 dX9_term_76 rfl (lv_at hl 0 rfl) ?_
              refine lv_iload_n hC.1 hC.2.1 dX9_term_77 rfl (lv_at hl 1 rfl) ?_
              refine lv_iconst (v := tw_I 0) hC.1 hC.2.1 dX9_term_78 rfl ?_
              refine kX9_ofTerm hC hR hL hk ga1 ((tw_rgL rfl)) mlX9_71 ⟨by decide, by decide⟩ hl.1 (Nat.le_of_ble_eq_true rfl) ⟨Nat.zero_le _, Nat.zero_le _⟩ dX9_term_79 (fun v11 H locs hR hL gv11 hk => ?_)
              refine tw_cgt (tgt := 94) hC hk ga2 gv11 dX9_term_82 (by decide) (fun _ hk => ?_) (fun _ hk => ?_)
              · refine lv_bipush (v := tw_I (-99)) hC.1 hC.2.1 dX9_term_94 (by decide) ?_
                cases hk
                exact tw_iret hC hR hL ((tw_rgL rfl)) rfl rfl dX9_term_96
              · refine lv_aload_n hC.1 hC.2.1 dX9_term_85 rfl (lv_at hl 0 rfl) ?_
                refine lv_iload_n hC.1 hC.2.1 dX9_term_86 rfl (lv_at hl 1 rfl) ?_
                refine lv_iload_n hC.1 hC.2.1 dX9_term_87 rfl (lv_at hl 2 rfl) ?_
                refine kX9_ofTerm hC hR hL hk ga1 ga2 mlX9_71 ⟨by decide, by decide⟩ hl.1 (Nat.le_of_ble_eq_true rfl) ⟨Nat.zero_le _, Nat.zero_le _⟩ dX9_term_88 (fun v12 H locs hR hL gv12 hk => ?_)
                refine lv_goto (tgt := 96) hC.1 hC.2.1 dX9_term_91 (by decide) ?_
                cases hk
                exact tw_iret hC hR hL gv12 rfl rfl dX9_term_96
            · rw [if_neg q13] at hk
              by_cases q16 : a2 = 4
              · rw [if_pos q16] at hk
                refine tw_tsIn (tgt := 75) hC 4 q16 (tw_rgL rfl) dX9_term_21 (by decide) (by decide) rfl (by decide) ?_
                refine lv_iload_n hC.1 hC.2.1 dX9_term_75 rfl (lv_at hl 2 rfl) ?_
                refine lv_aload_n hC.1 hC.2.1 dX9_term_76 rfl (lv_at hl 0 rfl) ?_
                refine lv_iload_n hC.1 hC.2.1 dX9_term_77 rfl (lv_at hl 1 rfl) ?_
                refine lv_iconst (v := tw_I 0) hC.1 hC.2.1 dX9_term_78 rfl ?_
                refine kX9_ofTerm hC hR hL hk ga1 ((tw_rgL rfl)) mlX9_71 ⟨by decide, by decide⟩ hl.1 (Nat.le_of_ble_eq_true rfl) ⟨Nat.zero_le _, Nat.zero_le _⟩ dX9_term_79 (fun v14 H locs hR hL gv14 hk => ?_)
                refine tw_cgt (tgt := 94) hC hk ga2 gv14 dX9_term_82 (by decide) (fun _ hk => ?_) (fun _ hk => ?_)
                · refine lv_bipush (v := tw_I (-99)) hC.1 hC.2.1 dX9_term_94 (by decide) ?_
                  cases hk
                  exact tw_iret hC hR hL ((tw_rgL rfl)) rfl rfl dX9_term_96
                · refine lv_aload_n hC.1 hC.2.1 dX9_term_85 rfl (lv_at hl 0 rfl) ?_
                  refine lv_iload_n hC.1 hC.2.1 dX9_term_86 rfl (lv_at hl 1 rfl) ?_
                  refine lv_iload_n hC.1 hC.2.1 dX9_term_87 rfl (lv_at hl 2 rfl) ?_
                  refine kX9_ofTerm hC hR hL hk ga1 ga2 mlX9_71 ⟨by decide, by decide⟩ hl.1 (Nat.le_of_ble_eq_true rfl) ⟨Nat.zero_le _, Nat.zero_le _⟩ dX9_term_88 (fun v15 H locs hR hL gv15 hk => ?_)
                  refine lv_goto (tgt := 96) hC.1 hC.2.1 dX9_term_91 (by decide) ?_
                  cases hk
                  exact tw_iret hC hR hL gv15 rfl rfl dX9_term_96
              · rw [if_neg q16] at hk
                by_cases q18 : a2 = 5
                · rw [if_pos q18] at hk
                  refine tw_tsIn (tgt := 97) hC 5 q18 (tw_rgL rfl) dX9_term_21 (by decide) (by decide) rfl (by decide) ?_
                  refine lv_aload_n hC.1 hC.2.1 dX9_term_97 rfl (lv_at hl 0 rfl) ?_
                  refine lv_iload_n hC.1 hC.2.1 dX9_term_98 rfl (lv_at hl 1 rfl) ?_
                  refine kX9_isQuiet hC hR hL hk ga1 mlX9_115 ⟨by decide, by decide⟩ hl.1 (Nat.le_of_ble_eq_true rfl) ⟨Nat.zero_le _, Nat.zero_le _⟩ dX9_term_99 (fun v17 H locs hR hL gv17 hk => ?_)
                  refine tw_zeq (tgt := 109) hC hk gv17 dX9_term_102 (by decide) (fun _ hk => ?_) (fun _ hk => ?_)
                  · refine lv_iconst (v := tw_I 0) hC.1 hC.2.1 dX9_term_109 rfl ?_
                    cases hk
                    exact tw_iret hC hR hL ((tw_rgL rfl)) rfl rfl dX9_term_110
                  · refine lv_iconst (v := tw_I 1) hC.1 hC.2.1 dX9_term_105 rfl ?_
                    refine lv_goto (tgt := 110) hC.1 hC.2.1 dX9_term_106 (by decide) ?_
                    cases hk
                    exact tw_iret hC hR hL ((tw_rgL rfl)) rfl rfl dX9_term_110
                · rw [if_neg q18] at hk
                  by_cases q20 : a2 = 6
                  · rw [if_pos q20] at hk
                    refine tw_tsIn (tgt := 111) hC 6 q20 (tw_rgL rfl) dX9_term_21 (by decide) (by decide) rfl (by decide) ?_
                    refine lv_aload_n hC.1 hC.2.1 dX9_term_111 rfl (lv_at hl 0 rfl) ?_
                    refine lv_iload_n hC.1 hC.2.1 dX9_term_112 rfl (lv_at hl 1 rfl) ?_
                    refine kX9_readings hC hR hL hk ga1 mlX9_173 ⟨by decide, by decide⟩ hl.1 (Nat.le_of_ble_eq_true rfl) ⟨Nat.zero_le _, Nat.zero_le _⟩ dX9_term_113 (fun v19 h19 H locs hR hL gv19 hk => ?_)
                    cases hk
                    exact tw_iret hC hR hL gv19 rfl rfl dX9_term_116
                  · rw [if_neg q20] at hk
                    by_cases q22 : a2 = 7
                    · rw [if_pos q22] at hk
                      refine tw_tsIn (tgt := 117) hC 7 q22 (tw_rgL rfl) dX9_term_21 (by decide) (by decide) rfl (by decide) ?_
                      refine lv_aload_n hC.1 hC.2.1 dX9_term_117 rfl (lv_at hl 0 rfl) ?_
                      refine lv_iload_n hC.1 hC.2.1 dX9_term_118 rfl (lv_at hl 1 rfl) ?_
                      refine kX9_occurrences hC hR hL hk ga1 mlX9_182 ⟨by decide, by decide⟩ hl.1 (Nat.le_of_ble_eq_true rfl) ⟨Nat.zero_le _, Nat.zero_le _⟩ dX9_term_119 (fun v21 H locs hR hL gv21 hk => ?_)
                      cases hk
                      exact tw_iret hC hR hL gv21 rfl rfl dX9_term_122
                    · rw [if_neg q22] at hk
                      refine tw_tsOut (tgt := 123) hC ga2 dX9_term_21 (by omega) (by decide) ?_
                      refine lv_aload_n hC.1 hC.2.1 dX9_term_123 rfl (lv_at hl 0 rfl) ?_
                      refine lv_iload_n hC.1 hC.2.1 dX9_term_124 rfl (lv_at hl 1 rfl) ?_
                      refine kX9_marksOf hC hR hL hk ga1 mlX9_185 ⟨by decide, by decide⟩ hl.1 (Nat.le_of_ble_eq_true rfl) ⟨Nat.zero_le _, Nat.zero_le _⟩ dX9_term_125 (fun v23 h23 H locs hR hL gv23 hk => ?_)
                      cases hk
                      exact tw_iret hC hR hL gv23 rfl rfl dX9_term_128
set_option maxRecDepth 100000 in
theorem kX9_term {l : Launch} {p : Program} {e : Env} {R : Room} {s : State} {m : MethodId} {args : Array Value} {below : List Frame} {meth : Method} {c : Code} {H : Heap} {locs : List Loc} {cells slots : Nat} {Q : State → Prop} {cc : ByteArray} {pc nL idx : Nat} {ls : Array Slot} {rest : List Value} {G : tw_G} {h : tm_H} {own : String} {ret : Option FieldType} {α : Type} {x : α} {sz : Nat} {this : Nat} {a1 : Int} {a2 : Int} (hC : tw_C G p s m args meth c own cc nL ret) (hR : tw_Rel G sz h H) (hL : tw_L G locs) {F : Int × tm_H → Option α} (hk : (fX9_term this a1 a2 h).bind F = some x) (ga1 : tm_rg a1) (ga2 : tm_rg a2) (hl : tw_mL own idx yX9_term) (hRm : rmX9_term.frames + 1 ≤ R.frames ∧ 8 + (3 + 11) + rmX9_term.locals ≤ R.locals) (hsz : ls.size = nL) (hW : (rest.map fun v => v.category).sum ≤ 8) (hf : cells + 0 ≤ R.cells ∧ slots + 0 ≤ R.slots) (hdg : decode cc pc = .ok (.invokevirtual idx, 3)) (kk : ∀ (r : Int) (h1 : tm_H) (H1 : Heap) (locs1 : List Loc), tw_Rel G sz h1 H1 → tw_L G locs1 → tm_rg r → F (r, h1) = some x → W p l e R s m args below meth c H1 locs1 (cells + 0) (slots + 0) Q (F0 m (pc + 3) ls (.int (tw_I r) :: rest))) : W p l e R s m args below meth c H locs cells slots Q (F0 m pc ls (.int (tw_I a2) :: .int (tw_I a1) :: .ref this :: rest)) := by
  obtain ⟨r, hr, hF⟩ := Option.bind_eq_some_iff.mp hk
  have ob : ∀ r, fX9_term this a1 a2 h = some r → tm_is h 9 this := fun r hr => by
    unfold fX9_term at hr
    exact (tm_th_is hr).1
  exact tw_backi (tw_runV hC hR (cX9_term_ok l G sz this a1 a2 ga1 ga2 h r hr) (n := 2) (As := [.int (tw_I a1), .int (tw_I a2)]) ⟨tw_in_TB 1058 (by decide +kernel) rfl, tw_in_TB 62 (by decide +kernel) rfl, by decide +kernel⟩ (tw_in_TB 1056 (by decide +kernel) rfl) (tw_in_TB 1057 (by decide +kernel) rfl) hl ⟨rfl, rfl⟩ hRm (ob r hr) (T := TX9) (N := 15) rfl rfl hsz rfl hW hdg hf) hL (fun H1 locs1 a b g => kk r.1 r.2 H1 locs1 a b g hF)
def rmX9_firstUse : Room := { frames := 7, cells := 0, slots := 0, locals := 169 }
set_option maxRecDepth 100000 in
set_option maxHeartbeats 4000000 in
theorem cX9_firstUse_ok (l : Launch) (G : tw_G) (sz : Nat) (this : Nat) (a1 : Int) (a2 : Int) (ga1 : tm_rg a1) (ga2 : tm_rg a2) (h : tm_H) (out : Int × tm_H) (hk : fX9_firstUse this a1 a2 h = some out) : Met l yX9_firstUse (tw_WS yX9_firstUse cX9_firstUse 3 (some .int)) rmX9_firstUse (va_Pc [.ref this, .int (tw_I a1), .int (tw_I a2)] (tw_Pre G sz h)) (tw_Qi G sz out.1 out.2) 0 0 (tw_F G) := by
  refine tw_met (by decide +kernel) (Nat.le_of_ble_eq_true rfl) ?_
  intro p e s m args below meth c H ls hC hnm hR hl
  unfold fX9_firstUse at hk
  obtain ⟨hob, hk⟩ := tm_th_is hk
  have hl : lv_has ls 3 [(0, .ref this), (1, .int (tw_I a1)), (2, .int (tw_I a2))] := hl
  have hL : tw_L G [] := fun q z => by cases z
  generalize hlc : ([] : List Loc) = locs at hL ⊢
  refine lv_aload_n hC.1 hC.2.1 dX9_firstUse_0 rfl (lv_at hl 0 rfl) ?_
  refine lv_iload_n hC.1 hC.2.1 dX9_firstUse_1 rfl (lv_at hl 1 rfl) ?_
  refine kX9_isTerm hC hR hL hk ga1 mlX9_90 ⟨by decide, by decide⟩ hl.1 (Nat.le_of_ble_eq_true rfl) ⟨Nat.zero_le _, Nat.zero_le _⟩ dX9_firstUse_2 (fun v1 H locs hR hL gv1 hk => ?_)
  refine tw_zeq (tgt := 24) hC hk gv1 dX9_firstUse_5 (by decide) (fun _ hk => ?_) (fun _ hk => ?_)
  · refine lv_iconst (v := tw_I (-1)) hC.1 hC.2.1 dX9_firstUse_24 rfl ?_
    cases hk
    exact tw_iret hC hR hL ((tw_rgL rfl)) rfl rfl dX9_firstUse_25
  · refine lv_iload_n hC.1 hC.2.1 dX9_firstUse_8 rfl (lv_at hl 2 rfl) ?_
    refine kX9_isChapter hC hR hL hk ga2 mlX9_53 ⟨by decide, by decide⟩ hl.1 (Nat.le_of_ble_eq_true rfl) ⟨Nat.zero_le _, Nat.zero_le _⟩ dX9_firstUse_9 (fun v2 H locs hR hL gv2 hk => ?_)
    refine tw_zeq (tgt := 24) hC hk gv2 dX9_firstUse_12 (by decide) (fun _ hk => ?_) (fun _ hk => ?_)
    · refine lv_iconst (v := tw_I (-1)) hC.1 hC.2.1 dX9_firstUse_24 rfl ?_
      cases hk
      exact tw_iret hC hR hL ((tw_rgL rfl)) rfl rfl dX9_firstUse_25
    · refine lv_aload_n hC.1 hC.2.1 dX9_firstUse_15 rfl (lv_at hl 0 rfl) ?_
      refine lv_iload_n hC.1 hC.2.1 dX9_firstUse_16 rfl (lv_at hl 1 rfl) ?_
      refine lv_iload_n hC.1 hC.2.1 dX9_firstUse_17 rfl (lv_at hl 2 rfl) ?_
      refine kX9_firstIn hC hR hL hk ga1 ga2 mlX9_179 ⟨by decide, by decide⟩ hl.1 (Nat.le_of_ble_eq_true rfl) ⟨Nat.zero_le _, Nat.zero_le _⟩ dX9_firstUse_18 (fun v3 h3 H locs hR hL gv3 hk => ?_)
      refine lv_goto (tgt := 25) hC.1 hC.2.1 dX9_firstUse_21 (by decide) ?_
      cases hk
      exact tw_iret hC hR hL gv3 rfl rfl dX9_firstUse_25
set_option maxRecDepth 100000 in
theorem kX9_firstUse {l : Launch} {p : Program} {e : Env} {R : Room} {s : State} {m : MethodId} {args : Array Value} {below : List Frame} {meth : Method} {c : Code} {H : Heap} {locs : List Loc} {cells slots : Nat} {Q : State → Prop} {cc : ByteArray} {pc nL idx : Nat} {ls : Array Slot} {rest : List Value} {G : tw_G} {h : tm_H} {own : String} {ret : Option FieldType} {α : Type} {x : α} {sz : Nat} {this : Nat} {a1 : Int} {a2 : Int} (hC : tw_C G p s m args meth c own cc nL ret) (hR : tw_Rel G sz h H) (hL : tw_L G locs) {F : Int × tm_H → Option α} (hk : (fX9_firstUse this a1 a2 h).bind F = some x) (ga1 : tm_rg a1) (ga2 : tm_rg a2) (hl : tw_mL own idx yX9_firstUse) (hRm : rmX9_firstUse.frames + 1 ≤ R.frames ∧ 8 + (3 + 11) + rmX9_firstUse.locals ≤ R.locals) (hsz : ls.size = nL) (hW : (rest.map fun v => v.category).sum ≤ 8) (hf : cells + 0 ≤ R.cells ∧ slots + 0 ≤ R.slots) (hdg : decode cc pc = .ok (.invokevirtual idx, 3)) (kk : ∀ (r : Int) (h1 : tm_H) (H1 : Heap) (locs1 : List Loc), tw_Rel G sz h1 H1 → tw_L G locs1 → tm_rg r → F (r, h1) = some x → W p l e R s m args below meth c H1 locs1 (cells + 0) (slots + 0) Q (F0 m (pc + 3) ls (.int (tw_I r) :: rest))) : W p l e R s m args below meth c H locs cells slots Q (F0 m pc ls (.int (tw_I a2) :: .int (tw_I a1) :: .ref this :: rest)) := by
  obtain ⟨r, hr, hF⟩ := Option.bind_eq_some_iff.mp hk
  have ob : ∀ r, fX9_firstUse this a1 a2 h = some r → tm_is h 9 this := fun r hr => by
    unfold fX9_firstUse at hr
    exact (tm_th_is hr).1
  exact tw_backi (tw_runV hC hR (cX9_firstUse_ok l G sz this a1 a2 ga1 ga2 h r hr) (n := 2) (As := [.int (tw_I a1), .int (tw_I a2)]) ⟨tw_in_TB 1074 (by decide +kernel) rfl, tw_in_TB 62 (by decide +kernel) rfl, by decide +kernel⟩ (tw_in_TB 1072 (by decide +kernel) rfl) (tw_in_TB 1073 (by decide +kernel) rfl) hl ⟨rfl, rfl⟩ hRm (ob r hr) (T := TX9) (N := 15) rfl rfl hsz rfl hW hdg hf) hL (fun H1 locs1 a b g => kk r.1 r.2 H1 locs1 a b g hF)
