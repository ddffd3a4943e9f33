def rmX8_askedLength : Room := { frames := 1, cells := 0, slots := 0, locals := 21 }
set_option maxRecDepth 100000 in
set_option maxHeartbeats 4000000 in
theorem sX8_askedLength_S0 {l : Launch} {p : Program} {e : Env} {s : State} {m : MethodId} {args : Array Value} {below : List Frame} {meth : Method} {c : Code} (G : tw_G) (sz : Nat) (hC : tw_C G p s m args meth c RX8 cX8_askedLength 3 (some .int)) (this : Nat)  (h : tm_H) : ∀ (k : Nat) (st : (Int × Int) ⊕ (Int × Int)) (out : Int), tm_wit (fX8_askedLength_S0 this h) k st = some out → match st with
    | .inl ((x1, x2)) => ∀ (H : Heap) (locs : List Loc) (ls : Array Slot), tm_rg x1 → tm_rg x2 → tw_Rel G sz h H → tw_L G locs → lv_has ls 3 [(0, .ref this), (1, .int (tw_I x1)), (2, .int (tw_I x2))] → W p l e rmX8_askedLength s m args below meth c H locs 0 0 (MQ below (tw_Qi G sz out h) args s 0 0 (tw_F G)) (F0 m 4 ls [])
    | .inr ((x1, x2)) => ∀ (H : Heap) (locs : List Loc) (ls : Array Slot), tm_rg x1 → tm_rg x2 → tw_Rel G sz h H → tw_L G locs → lv_has ls 3 [(0, .ref this), (1, .int (tw_I x1)), (2, .int (tw_I x2))] → W p l e rmX8_askedLength s m args below meth c H locs 0 0 (MQ below (tw_Qi G sz out h) args s 0 0 (tw_F G)) (F0 m 51 ls []) := by
  intro k
  induction k with
  | zero =>
    intro st out hk
    exact absurd hk (by unfold tm_wit; exact fun z => by cases z)
  | succ k ih =>
    intro st out hk
    obtain ⟨X, hk, hf⟩ := tm_wit_succ hk
    obtain ⟨x1, x2⟩ | ⟨x1, x2⟩ := st
    · intro H locs ls gx1 gx2 hR hL hl
      dsimp only [fX8_askedLength_S0] at hk
      refine lv_iload_n hC.1 hC.2.1 dX8_askedLength_4 rfl (lv_at hl 2 rfl) ?_
      refine lv_iconst (v := tw_I 4) hC.1 hC.2.1 dX8_askedLength_5 rfl ?_
      refine tw_cge (tgt := 57) hC hk gx2 ((tw_rgL rfl)) dX8_askedLength_6 (by decide) (fun _ hk => ?_) (fun _ hk => ?_)
      · refine lv_aload_n hC.1 hC.2.1 dX8_askedLength_9 rfl (lv_at hl 0 rfl) ?_
        refine tw_getR hC hR hk flX8_42 dX8_askedLength_10 (fun r1 hk => ?_)
        refine lv_iload_n hC.1 hC.2.1 dX8_askedLength_13 rfl (lv_at hl 2 rfl) ?_
        refine tw_iald hC hR hk dX8_askedLength_14 (fun v2 gv2 hk => ?_)
        refine lv_iconst (v := tw_I (-1)) hC.1 hC.2.1 dX8_askedLength_15 rfl ?_
        refine tw_cne (tgt := 22) hC hk gv2 ((tw_rgL rfl)) dX8_askedLength_16 (by decide) (fun _ hk => ?_) (fun _ hk => ?_)
        · refine lv_goto (tgt := 51) hC.1 hC.2.1 dX8_askedLength_19 (by decide) ?_
          cases hk
          exact ih _ out hf H locs _ gx1 gx2 hR hL (lv_sub hl [0, 1, 2] rfl)
        · refine lv_aload_n hC.1 hC.2.1 dX8_askedLength_22 rfl (lv_at hl 0 rfl) ?_
          refine tw_getR hC hR hk flX8_10 dX8_askedLength_23 (fun r3 hk => ?_)
          refine tw_getR hC hR hk flX8_60 dX8_askedLength_26 (fun r4 hk => ?_)
          refine lv_aload_n hC.1 hC.2.1 dX8_askedLength_29 rfl (lv_at hl 0 rfl) ?_
          refine tw_getR hC hR hk flX8_42 dX8_askedLength_30 (fun r5 hk => ?_)
          refine lv_iload_n hC.1 hC.2.1 dX8_askedLength_33 rfl (lv_at hl 2 rfl) ?_
          refine tw_iald hC hR hk dX8_askedLength_34 (fun v6 gv6 hk => ?_)
          refine kX7_has hC hR hL hk gv6 mlX8_64 ⟨by decide, by decide⟩ hl.1 (Nat.le_of_ble_eq_true rfl) ⟨Nat.zero_le _, Nat.zero_le _⟩ dX8_askedLength_35 (fun v7 H locs hR hL gv7 hk => ?_)
          refine tw_zeq (tgt := 46) hC hk gv7 dX8_askedLength_38 (by decide) (fun _ hk => ?_) (fun _ hk => ?_)
          · refine lv_iconst (v := tw_I (-1)) hC.1 hC.2.1 dX8_askedLength_46 rfl ?_
            cases hk
            cases hf
            exact tw_iret hC hR hL ((tw_rgL rfl)) rfl rfl dX8_askedLength_47
          · refine lv_iload_n hC.1 hC.2.1 dX8_askedLength_41 rfl (lv_at hl 2 rfl) ?_
            refine lv_iload_n hC.1 hC.2.1 dX8_askedLength_42 rfl (lv_at hl 1 rfl) ?_
            refine tw_cle (tgt := 48) hC hk gx2 gx1 dX8_askedLength_43 (by decide) (fun _ hk => ?_) (fun _ hk => ?_)
            · refine lv_iconst (v := tw_I (-1)) hC.1 hC.2.1 dX8_askedLength_46 rfl ?_
              cases hk
              cases hf
              exact tw_iret hC hR hL ((tw_rgL rfl)) rfl rfl dX8_askedLength_47
            · refine tw_iinc (lv' := [(1, .int (tw_I (tm_wr (x1 + 1)))), (0, .ref this), (2, .int (tw_I x2))]) hC dX8_askedLength_48 hl (k := 1) rfl (by decide) rfl (fun ls hl => ?_)
              cases hk
              exact ih _ out hf H locs _ ((tm_wr_rg _)) gx2 hR hL (lv_sub hl [1, 0, 2] rfl)
      · refine lv_iload_n hC.1 hC.2.1 dX8_askedLength_57 rfl (lv_at hl 1 rfl) ?_
        refine tw_zne (tgt := 65) hC hk gx1 dX8_askedLength_58 (by decide) (fun _ hk => ?_) (fun _ hk => ?_)
        · refine lv_iconst (v := tw_I (-1)) hC.1 hC.2.1 dX8_askedLength_61 rfl ?_
          refine lv_goto (tgt := 66) hC.1 hC.2.1 dX8_askedLength_62 (by decide) ?_
          cases hk
          cases hf
          exact tw_iret hC hR hL ((tw_rgL rfl)) rfl rfl dX8_askedLength_66
        · refine lv_iload_n hC.1 hC.2.1 dX8_askedLength_65 rfl (lv_at hl 1 rfl) ?_
          cases hk
          cases hf
          exact tw_iret hC hR hL gx1 rfl rfl dX8_askedLength_66
    · intro H locs ls gx1 gx2 hR hL hl
      dsimp only [fX8_askedLength_S0] at hk
      refine tw_iinc (lv' := [(2, .int (tw_I (tm_wr (x2 + 1)))), (0, .ref this), (1, .int (tw_I x1))]) hC dX8_askedLength_51 hl (k := 2) rfl (by decide) rfl (fun ls hl => ?_)
      refine lv_goto (tgt := 4) hC.1 hC.2.1 dX8_askedLength_54 (by decide) ?_
      cases hk
      exact ih _ out hf H locs _ gx1 ((tm_wr_rg _)) hR hL (lv_sub hl [1, 2, 0] rfl)
theorem sX8_askedLength_L4 {l : Launch} {p : Program} {e : Env} {s : State} {m : MethodId} {args : Array Value} {below : List Frame} {meth : Method} {c : Code} (G : tw_G) (sz : Nat) (hC : tw_C G p s m args meth c RX8 cX8_askedLength 3 (some .int)) (this : Nat)  (h : tm_H) (x1 : Int) (x2 : Int) (gx1 : tm_rg x1) (gx2 : tm_rg x2) (out : Int) (hk : fX8_askedLength_L4 this h x1 x2 = some out) (H : Heap) (locs : List Loc) (ls : Array Slot) (hR : tw_Rel G sz h H) (hL : tw_L G locs) (hl : lv_has ls 3 [(0, .ref this), (1, .int (tw_I x1)), (2, .int (tw_I x2))]) : W p l e rmX8_askedLength s m args below meth c H locs 0 0 (MQ below (tw_Qi G sz out h) args s 0 0 (tw_F G)) (F0 m 4 ls []) := by
  obtain ⟨k, hk⟩ := tm_wl_iff.mp hk
  exact sX8_askedLength_S0 G sz hC this  h k (.inl ((x1, x2))) out hk H locs ls gx1 gx2 hR hL hl
theorem sX8_askedLength_L51 {l : Launch} {p : Program} {e : Env} {s : State} {m : MethodId} {args : Array Value} {below : List Frame} {meth : Method} {c : Code} (G : tw_G) (sz : Nat) (hC : tw_C G p s m args meth c RX8 cX8_askedLength 3 (some .int)) (this : Nat)  (h : tm_H) (x1 : Int) (x2 : Int) (gx1 : tm_rg x1) (gx2 : tm_rg x2) (out : Int) (hk : fX8_askedLength_L51 this h x1 x2 = some out) (H : Heap) (locs : List Loc) (ls : Array Slot) (hR : tw_Rel G sz h H) (hL : tw_L G locs) (hl : lv_has ls 3 [(0, .ref this), (1, .int (tw_I x1)), (2, .int (tw_I x2))]) : W p l e rmX8_askedLength s m args below meth c H locs 0 0 (MQ below (tw_Qi G sz out h) args s 0 0 (tw_F G)) (F0 m 51 ls []) := by
  obtain ⟨k, hk⟩ := tm_wl_iff.mp hk
  exact sX8_askedLength_S0 G sz hC this  h k (.inr ((x1, x2))) out hk H locs ls gx1 gx2 hR hL hl
set_option maxRecDepth 100000 in
set_option maxHeartbeats 4000000 in
theorem cX8_askedLength_ok (l : Launch) (G : tw_G) (sz : Nat) (this : Nat)  (h : tm_H) (out : Int) (hk : fX8_askedLength this h = some out) : Met l yX8_askedLength (tw_WS yX8_askedLength cX8_askedLength 3 (some .int)) rmX8_askedLength (va_Pc [.ref this] (tw_Pre G sz h)) (tw_Qi G sz out h) 0 0 (tw_F G) := by
  refine tw_met (by decide +kernel) (Nat.le_of_ble_eq_true rfl) ?_
  intro p e s m args below meth c H ls hC hnm hR hl
  unfold fX8_askedLength at hk
  obtain ⟨hob, hk⟩ := tm_th_is hk
  have hl : lv_has ls 3 [(0, .ref this)] := hl
  have hL : tw_L G [] := fun q z => by cases z
  generalize hlc : ([] : List Loc) = locs at hL ⊢
  refine lv_iconst (v := tw_I 0) hC.1 hC.2.1 dX8_askedLength_0 rfl ?_
  refine lv_istore_n (lv' := [(1, .int (tw_I 0)), (0, .ref this)]) hC.1 hC.2.1 dX8_askedLength_1 rfl hl (by decide) rfl (fun ls hl => ?_)
  refine lv_iconst (v := tw_I 0) hC.1 hC.2.1 dX8_askedLength_2 rfl ?_
  refine lv_istore_n (lv' := [(2, .int (tw_I 0)), (1, .int (tw_I 0)), (0, .ref this)]) hC.1 hC.2.1 dX8_askedLength_3 rfl hl (by decide) rfl (fun ls hl => ?_)
  exact sX8_askedLength_L4 G sz hC this h 0 0 ((tw_rgL rfl)) ((tw_rgL rfl)) out hk H locs _ hR hL (lv_sub hl [2, 1, 0] rfl)
set_option maxRecDepth 100000 in
theorem kX8_askedLength {l : Launch} {p : Program} {e : Env} {R : Room} {s : State} {m : MethodId} {args : Array Value} {below : List Frame} {meth : Method} {c : Code} {H : Heap} {locs : List Loc} {cells slots : Nat} {Q : State → Prop} {cc : ByteArray} {pc nL idx : Nat} {ls : Array Slot} {rest : List Value} {G : tw_G} {h : tm_H} {own : String} {ret : Option FieldType} {α : Type} {x : α} {sz : Nat} {this : Nat} (hC : tw_C G p s m args meth c own cc nL ret) (hR : tw_Rel G sz h H) (hL : tw_L G locs) {F : Int → Option α} (hk : (fX8_askedLength this h).bind F = some x)  (hl : tw_mL own idx yX8_askedLength) (hRm : rmX8_askedLength.frames + 1 ≤ R.frames ∧ 8 + (3 + 11) + rmX8_askedLength.locals ≤ R.locals) (hsz : ls.size = nL) (hW : (rest.map fun v => v.category).sum ≤ 8) (hf : cells + 0 ≤ R.cells ∧ slots + 0 ≤ R.slots) (hdg : decode cc pc = .ok (.invokevirtual idx, 3)) (kk : ∀ (r : Int) (H1 : Heap) (locs1 : List Loc), tw_Rel G sz h H1 → tw_L G locs1 → tm_rg r → F r = some x → W p l e R s m args below meth c H1 locs1 (cells + 0) (slots + 0) Q (F0 m (pc + 3) ls (.int (tw_I r) :: rest))) : W p l e R s m args below meth c H locs cells slots Q (F0 m pc ls (.ref this :: rest)) := by
  obtain ⟨r, hr, hF⟩ := Option.bind_eq_some_iff.mp hk
  have ob : ∀ r, fX8_askedLength this h = some r → tm_is h 8 this := fun r hr => by
    unfold fX8_askedLength at hr
    exact (tm_th_is hr).1
  exact tw_backi (tw_runV hC hR (cX8_askedLength_ok l G sz this  h r hr) (n := 0) (As := []) ⟨tw_in_TB 428 (by decide +kernel) rfl, tw_in_TB 53 (by decide +kernel) rfl, by decide +kernel⟩ (tw_in_TB 427 (by decide +kernel) rfl) (tw_in_TB 6 (by decide +kernel) rfl) hl ⟨rfl, rfl⟩ hRm (ob r hr) (T := TX8) (N := 6) rfl rfl hsz rfl hW hdg hf) hL (fun H1 locs1 a b g => kk r H1 locs1 a b g hF)
def rmX8_ask : Room := { frames := 3, cells := 0, slots := 0, locals := 69 }
set_option maxRecDepth 100000 in
set_option maxHeartbeats 4000000 in
theorem cX8_ask_ok (l : Launch) (G : tw_G) (sz : Nat) (this : Nat) (a1 : Int) (a2 : Int) (a3 : Int) (a4 : Int) (ga1 : tm_rg a1) (ga2 : tm_rg a2) (ga3 : tm_rg a3) (ga4 : tm_rg a4) (h : tm_H) (out : Int × tm_H) (hk : fX8_ask this a1 a2 a3 a4 h = some out) : Met l yX8_ask (tw_WS yX8_ask cX8_ask 6 (some .int)) rmX8_ask (va_Pc [.ref this, .int (tw_I a1), .int (tw_I a2), .int (tw_I a3), .int (tw_I a4)] (tw_Pre G sz h)) (tw_Qi G sz out.1 out.2) 0 0 (tw_F G) := by
  refine tw_met (by decide +kernel) (Nat.le_of_ble_eq_true rfl) ?_
  intro p e s m args below meth c H ls hC hnm hR hl
  unfold fX8_ask at hk
  obtain ⟨hob, hk⟩ := tm_th_is hk
  have hl : lv_has ls 6 [(0, .ref this), (1, .int (tw_I a1)), (2, .int (tw_I a2)), (3, .int (tw_I a3)), (4, .int (tw_I a4))] := hl
  have hL : tw_L G [] := fun q z => by cases z
  generalize hlc : ([] : List Loc) = locs at hL ⊢
  refine lv_aload_n hC.1 hC.2.1 dX8_ask_0 rfl (lv_at hl 0 rfl) ?_
  refine tw_getR hC hR hk flX8_42 dX8_ask_1 (fun r1 hk => ?_)
  refine lv_iconst (v := tw_I 0) hC.1 hC.2.1 dX8_ask_4 rfl ?_
  refine lv_iload_n hC.1 hC.2.1 dX8_ask_5 rfl (lv_at hl 1 rfl) ?_
  refine tw_iast hC hR hL ga1 hk dX8_ask_6 (fun h2 H locs hR hL hk => ?_)
  refine lv_aload_n hC.1 hC.2.1 dX8_ask_7 rfl (lv_at hl 0 rfl) ?_
  refine tw_getR hC hR hk flX8_42 dX8_ask_8 (fun r3 hk => ?_)
  refine lv_iconst (v := tw_I 1) hC.1 hC.2.1 dX8_ask_11 rfl ?_
  refine lv_iload_n hC.1 hC.2.1 dX8_ask_12 rfl (lv_at hl 2 rfl) ?_
  refine tw_iast hC hR hL ga2 hk dX8_ask_13 (fun h4 H locs hR hL hk => ?_)
  refine lv_aload_n hC.1 hC.2.1 dX8_ask_14 rfl (lv_at hl 0 rfl) ?_
  refine tw_getR hC hR hk flX8_42 dX8_ask_15 (fun r5 hk => ?_)
  refine lv_iconst (v := tw_I 2) hC.1 hC.2.1 dX8_ask_18 rfl ?_
  refine lv_iload_n hC.1 hC.2.1 dX8_ask_19 rfl (lv_at hl 3 rfl) ?_
  refine tw_iast hC hR hL ga3 hk dX8_ask_20 (fun h6 H locs hR hL hk => ?_)
  refine lv_aload_n hC.1 hC.2.1 dX8_ask_21 rfl (lv_at hl 0 rfl) ?_
  refine tw_getR hC hR hk flX8_42 dX8_ask_22 (fun r7 hk => ?_)
  refine lv_iconst (v := tw_I 3) hC.1 hC.2.1 dX8_ask_25 rfl ?_
  refine lv_iload hC.1 hC.2.1 dX8_ask_26 (lv_at hl 4 rfl) ?_
  refine tw_iast hC hR hL ga4 hk dX8_ask_28 (fun h8 H locs hR hL hk => ?_)
  refine lv_aload_n hC.1 hC.2.1 dX8_ask_29 rfl (lv_at hl 0 rfl) ?_
  refine kX8_askedLength hC hR hL hk mlX8_229 ⟨by decide, by decide⟩ hl.1 (Nat.le_of_ble_eq_true rfl) ⟨Nat.zero_le _, Nat.zero_le _⟩ dX8_ask_30 (fun v9 H locs hR hL gv9 hk => ?_)
  refine lv_istore (lv' := [(5, .int (tw_I v9)), (0, .ref this), (1, .int (tw_I a1)), (2, .int (tw_I a2)), (3, .int (tw_I a3)), (4, .int (tw_I a4))]) hC.1 hC.2.1 dX8_ask_33 hl (by decide) rfl (fun ls hl => ?_)
  refine lv_iload hC.1 hC.2.1 dX8_ask_35 (lv_at hl 0 rfl) ?_
  refine tw_zle (tgt := 69) hC hk gv9 dX8_ask_37 (by decide) (fun _ hk => ?_) (fun _ hk => ?_)
  · refine lv_aload_n hC.1 hC.2.1 dX8_ask_40 rfl (lv_at hl 1 rfl) ?_
    refine tw_getR hC hR hk flX8_10 dX8_ask_41 (fun r10 hk => ?_)
    refine tw_getR hC hR hk flX8_102 dX8_ask_44 (fun r11 hk => ?_)
    refine lv_aload_n hC.1 hC.2.1 dX8_ask_47 rfl (lv_at hl 1 rfl) ?_
    refine tw_getR hC hR hk flX8_10 dX8_ask_48 (fun r12 hk => ?_)
    refine tw_getR hC hR hk flX8_60 dX8_ask_51 (fun r13 hk => ?_)
    refine lv_aload_n hC.1 hC.2.1 dX8_ask_54 rfl (lv_at hl 1 rfl) ?_
    refine tw_getR hC hR hk flX8_42 dX8_ask_55 (fun r14 hk => ?_)
    refine lv_iload hC.1 hC.2.1 dX8_ask_58 (lv_at hl 0 rfl) ?_
    refine kX5_hasLike hC hR hL hk gv9 mlX8_232 ⟨by decide, by decide⟩ hl.1 (Nat.le_of_ble_eq_true rfl) ⟨Nat.zero_le _, Nat.zero_le _⟩ dX8_ask_60 (fun v15 H locs hR hL gv15 hk => ?_)
    refine tw_zeq (tgt := 69) hC hk gv15 dX8_ask_63 (by decide) (fun _ hk => ?_) (fun _ hk => ?_)
    · refine lv_iload hC.1 hC.2.1 dX8_ask_69 (lv_at hl 0 rfl) ?_
      cases hk
      exact tw_iret hC hR hL gv9 rfl rfl dX8_ask_71
    · refine lv_bipush (v := tw_I (-2)) hC.1 hC.2.1 dX8_ask_66 (by decide) ?_
      cases hk
      exact tw_iret hC hR hL ((tw_rgL rfl)) rfl rfl dX8_ask_68
  · refine lv_iload hC.1 hC.2.1 dX8_ask_69 (lv_at hl 0 rfl) ?_
    cases hk
    exact tw_iret hC hR hL gv9 rfl rfl dX8_ask_71
set_option maxRecDepth 100000 in
theorem kX8_ask {l : Launch} {p : Program} {e : Env} {R : Room} {s : State} {m : MethodId} {args : Array Value} {below : List Frame} {meth : Method} {c : Code} {H : Heap} {locs : List Loc} {cells slots : Nat} {Q : State → Prop} {cc : ByteArray} {pc nL idx : Nat} {ls : Array Slot} {rest : List Value} {G : tw_G} {h : tm_H} {own : String} {ret : Option FieldType} {α : Type} {x : α} {sz : Nat} {this : Nat} {a1 : Int} {a2 : Int} {a3 : Int} {a4 : Int} (hC : tw_C G p s m args meth c own cc nL ret) (hR : tw_Rel G sz h H) (hL : tw_L G locs) {F : Int × tm_H → Option α} (hk : (fX8_ask this a1 a2 a3 a4 h).bind F = some x) (ga1 : tm_rg a1) (ga2 : tm_rg a2) (ga3 : tm_rg a3) (ga4 : tm_rg a4) (hl : tw_mL own idx yX8_ask) (hRm : rmX8_ask.frames + 1 ≤ R.frames ∧ 8 + (6 + 11) + rmX8_ask.locals ≤ R.locals) (hsz : ls.size = nL) (hW : (rest.map fun v => v.category).sum ≤ 8) (hf : cells + 0 ≤ R.cells ∧ slots + 0 ≤ R.slots) (hdg : decode cc pc = .ok (.invokevirtual idx, 3)) (kk : ∀ (r : Int) (h1 : tm_H) (H1 : Heap) (locs1 : List Loc), tw_Rel G sz h1 H1 → tw_L G locs1 → tm_rg r → F (r, h1) = some x → W p l e R s m args below meth c H1 locs1 (cells + 0) (slots + 0) Q (F0 m (pc + 3) ls (.int (tw_I r) :: rest))) : W p l e R s m args below meth c H locs cells slots Q (F0 m pc ls (.int (tw_I a4) :: .int (tw_I a3) :: .int (tw_I a2) :: .int (tw_I a1) :: .ref this :: rest)) := by
  obtain ⟨r, hr, hF⟩ := Option.bind_eq_some_iff.mp hk
  have ob : ∀ r, fX8_ask this a1 a2 a3 a4 h = some r → tm_is h 8 this := fun r hr => by
    unfold fX8_ask at hr
    exact (tm_th_is hr).1
  exact tw_backi (tw_runV hC hR (cX8_ask_ok l G sz this a1 a2 a3 a4 ga1 ga2 ga3 ga4 h r hr) (n := 4) (As := [.int (tw_I a1), .int (tw_I a2), .int (tw_I a3), .int (tw_I a4)]) ⟨tw_in_TB 424 (by decide +kernel) rfl, tw_in_TB 53 (by decide +kernel) rfl, by decide +kernel⟩ (tw_in_TB 423 (by decide +kernel) rfl) (tw_in_TB 5 (by decide +kernel) rfl) hl ⟨rfl, rfl⟩ hRm (ob r hr) (T := TX8) (N := 6) rfl rfl hsz rfl hW hdg hf) hL (fun H1 locs1 a b g => kk r.1 r.2 H1 locs1 a b g hF)
def rmX8_addTerm : Room := { frames := 4, cells := 0, slots := 0, locals := 94 }
set_option maxRecDepth 100000 in
set_option maxHeartbeats 4000000 in
theorem cX8_addTerm_ok (l : Launch) (G : tw_G) (sz : Nat) (this : Nat) (a1 : Int) (a2 : Int) (a3 : Int) (a4 : Int) (ga1 : tm_rg a1) (ga2 : tm_rg a2) (ga3 : tm_rg a3) (ga4 : tm_rg a4) (h : tm_H) (out : Int × tm_H) (hk : fX8_addTerm this a1 a2 a3 a4 h = some out) : Met l yX8_addTerm (tw_WS yX8_addTerm cX8_addTerm 6 (some .int)) rmX8_addTerm (va_Pc [.ref this, .int (tw_I a1), .int (tw_I a2), .int (tw_I a3), .int (tw_I a4)] (tw_Pre G sz h)) (tw_Qi G sz out.1 out.2) 0 0 (tw_F G) := by
  refine tw_met (by decide +kernel) (Nat.le_of_ble_eq_true rfl) ?_
  intro p e s m args below meth c H ls hC hnm hR hl
  unfold fX8_addTerm at hk
  obtain ⟨hob, hk⟩ := tm_th_is hk
  have hl : lv_has ls 6 [(0, .ref this), (1, .int (tw_I a1)), (2, .int (tw_I a2)), (3, .int (tw_I a3)), (4, .int (tw_I a4))] := hl
  have hL : tw_L G [] := fun q z => by cases z
  generalize hlc : ([] : List Loc) = locs at hL ⊢
  refine lv_aload_n hC.1 hC.2.1 dX8_addTerm_0 rfl (lv_at hl 0 rfl) ?_
  refine lv_iload_n hC.1 hC.2.1 dX8_addTerm_1 rfl (lv_at hl 1 rfl) ?_
  refine lv_iload_n hC.1 hC.2.1 dX8_addTerm_2 rfl (lv_at hl 2 rfl) ?_
  refine lv_iload_n hC.1 hC.2.1 dX8_addTerm_3 rfl (lv_at hl 3 rfl) ?_
  refine lv_iload hC.1 hC.2.1 dX8_addTerm_4 (lv_at hl 4 rfl) ?_
  refine kX8_ask hC hR hL hk ga1 ga2 ga3 ga4 mlX8_98 ⟨by decide, by decide⟩ hl.1 (Nat.le_of_ble_eq_true rfl) ⟨Nat.zero_le _, Nat.zero_le _⟩ dX8_addTerm_6 (fun v1 h1 H locs hR hL gv1 hk => ?_)
  refine lv_istore (lv' := [(5, .int (tw_I v1)), (0, .ref this), (1, .int (tw_I a1)), (2, .int (tw_I a2)), (3, .int (tw_I a3)), (4, .int (tw_I a4))]) hC.1 hC.2.1 dX8_addTerm_9 hl (by decide) rfl (fun ls hl => ?_)
  refine lv_iload hC.1 hC.2.1 dX8_addTerm_11 (lv_at hl 0 rfl) ?_
  refine tw_zge (tgt := 19) hC hk gv1 dX8_addTerm_13 (by decide) (fun _ hk => ?_) (fun _ hk => ?_)
  · refine lv_iload hC.1 hC.2.1 dX8_addTerm_16 (lv_at hl 0 rfl) ?_
    cases hk
    exact tw_iret hC hR hL gv1 rfl rfl dX8_addTerm_18
  · refine lv_aload_n hC.1 hC.2.1 dX8_addTerm_19 rfl (lv_at hl 1 rfl) ?_
    refine tw_getR hC hR hk flX8_10 dX8_addTerm_20 (fun r2 hk => ?_)
    refine tw_getR hC hR hk flX8_102 dX8_addTerm_23 (fun r3 hk => ?_)
    refine kX5_size hC hR hL hk mlX8_106 ⟨by decide, by decide⟩ hl.1 (Nat.le_of_ble_eq_true rfl) ⟨Nat.zero_le _, Nat.zero_le _⟩ dX8_addTerm_26 (fun v4 H locs hR hL gv4 hk => ?_)
    refine lv_bipush (v := tw_I 12) hC.1 hC.2.1 dX8_addTerm_29 (by decide) ?_
    refine tw_clt (tgt := 37) hC hk gv4 ((tw_rgL rfl)) dX8_addTerm_31 (by decide) (fun _ hk => ?_) (fun _ hk => ?_)
    · refine lv_aload_n hC.1 hC.2.1 dX8_addTerm_37 rfl (lv_at hl 1 rfl) ?_
      refine tw_getR hC hR hk flX8_22 dX8_addTerm_38 (fun r5 hk => ?_)
      refine lv_aload_n hC.1 hC.2.1 dX8_addTerm_41 rfl (lv_at hl 1 rfl) ?_
      refine tw_getR hC hR hk flX8_10 dX8_addTerm_42 (fun r6 hk => ?_)
      refine kX1_keep hC hR hL hk mlX8_67 ⟨by decide, by decide⟩ hl.1 (Nat.le_of_ble_eq_true rfl) ⟨Nat.zero_le _, Nat.zero_le _⟩ dX8_addTerm_45 (fun h7 H locs hR hL hk => ?_)
      refine lv_aload_n hC.1 hC.2.1 dX8_addTerm_48 rfl (lv_at hl 1 rfl) ?_
      refine tw_getR hC hR hk flX8_10 dX8_addTerm_49 (fun r8 hk => ?_)
      refine tw_getR hC hR hk flX8_102 dX8_addTerm_52 (fun r9 hk => ?_)
      refine lv_aload_n hC.1 hC.2.1 dX8_addTerm_55 rfl (lv_at hl 1 rfl) ?_
      refine tw_getR hC hR hk flX8_42 dX8_addTerm_56 (fun r10 hk => ?_)
      refine lv_iload hC.1 hC.2.1 dX8_addTerm_59 (lv_at hl 0 rfl) ?_
      refine kX5_add hC hR hL hk gv1 mlX8_109 ⟨by decide, by decide⟩ hl.1 (Nat.le_of_ble_eq_true rfl) ⟨Nat.zero_le _, Nat.zero_le _⟩ dX8_addTerm_61 (fun h11 H locs hR hL hk => ?_)
      refine lv_aload_n hC.1 hC.2.1 dX8_addTerm_64 rfl (lv_at hl 1 rfl) ?_
      refine tw_getR hC hR hk flX8_10 dX8_addTerm_65 (fun r12 hk => ?_)
      refine tw_getR hC hR hk flX8_102 dX8_addTerm_68 (fun r13 hk => ?_)
      refine kX5_size hC hR hL hk mlX8_106 ⟨by decide, by decide⟩ hl.1 (Nat.le_of_ble_eq_true rfl) ⟨Nat.zero_le _, Nat.zero_le _⟩ dX8_addTerm_71 (fun v14 H locs hR hL gv14 hk => ?_)
      refine lv_iconst (v := tw_I 1) hC.1 hC.2.1 dX8_addTerm_74 rfl ?_
      refine tw_isub hC dX8_addTerm_75 ?_
      cases hk
      exact tw_iret hC hR hL ((tm_wr_rg _)) rfl rfl dX8_addTerm_76
    · refine lv_bipush (v := tw_I (-3)) hC.1 hC.2.1 dX8_addTerm_34 (by decide) ?_
      cases hk
      exact tw_iret hC hR hL ((tw_rgL rfl)) rfl rfl dX8_addTerm_36
set_option maxRecDepth 100000 in
theorem kX8_addTerm {l : Launch} {p : Program} {e : Env} {R : Room} {s : State} {m : MethodId} {args : Array Value} {below : List Frame} {meth : Method} {c : Code} {H : Heap} {locs : List Loc} {cells slots : Nat} {Q : State → Prop} {cc : ByteArray} {pc nL idx : Nat} {ls : Array Slot} {rest : List Value} {G : tw_G} {h : tm_H} {own : String} {ret : Option FieldType} {α : Type} {x : α} {sz : Nat} {this : Nat} {a1 : Int} {a2 : Int} {a3 : Int} {a4 : Int} (hC : tw_C G p s m args meth c own cc nL ret) (hR : tw_Rel G sz h H) (hL : tw_L G locs) {F : Int × tm_H → Option α} (hk : (fX8_addTerm this a1 a2 a3 a4 h).bind F = some x) (ga1 : tm_rg a1) (ga2 : tm_rg a2) (ga3 : tm_rg a3) (ga4 : tm_rg a4) (hl : tw_mL own idx yX8_addTerm) (hRm : rmX8_addTerm.frames + 1 ≤ R.frames ∧ 8 + (6 + 11) + rmX8_addTerm.locals ≤ R.locals) (hsz : ls.size = nL) (hW : (rest.map fun v => v.category).sum ≤ 8) (hf : cells + 0 ≤ R.cells ∧ slots + 0 ≤ R.slots) (hdg : decode cc pc = .ok (.invokevirtual idx, 3)) (kk : ∀ (r : Int) (h1 : tm_H) (H1 : Heap) (locs1 : List Loc), tw_Rel G sz h1 H1 → tw_L G locs1 → tm_rg r → F (r, h1) = some x → W p l e R s m args below meth c H1 locs1 (cells + 0) (slots + 0) Q (F0 m (pc + 3) ls (.int (tw_I r) :: rest))) : W p l e R s m args below meth c H locs cells slots Q (F0 m pc ls (.int (tw_I a4) :: .int (tw_I a3) :: .int (tw_I a2) :: .int (tw_I a1) :: .ref this :: rest)) := by
  obtain ⟨r, hr, hF⟩ := Option.bind_eq_some_iff.mp hk
  have ob : ∀ r, fX8_addTerm this a1 a2 a3 a4 h = some r → tm_is h 8 this := fun r hr => by
    unfold fX8_addTerm at hr
    exact (tm_th_is hr).1
  exact tw_backi (tw_runV hC hR (cX8_addTerm_ok l G sz this a1 a2 a3 a4 ga1 ga2 ga3 ga4 h r hr) (n := 4) (As := [.int (tw_I a1), .int (tw_I a2), .int (tw_I a3), .int (tw_I a4)]) ⟨tw_in_TB 420 (by decide +kernel) rfl, tw_in_TB 53 (by decide +kernel) rfl, by decide +kernel⟩ (tw_in_TB 418 (by decide +kernel) rfl) (tw_in_TB 419 (by decide +kernel) rfl) hl ⟨rfl, rfl⟩ hRm (ob r hr) (T := TX8) (N := 6) rfl rfl hsz rfl hW hdg hf) hL (fun H1 locs1 a b g => kk r.1 r.2 H1 locs1 a b g hF)
def rmX8_removeTerm : Room := { frames := 4, cells := 0, slots := 0, locals := 91 }
set_option maxRecDepth 100000 in
set_option maxHeartbeats 4000000 in
theorem cX8_removeTerm_ok (l : Launch) (G : tw_G) (sz : Nat) (this : Nat) (a1 : Int) (ga1 : tm_rg a1) (h : tm_H) (out : Int × tm_H) (hk : fX8_removeTerm this a1 h = some out) : Met l yX8_removeTerm (tw_WS yX8_removeTerm cX8_removeTerm 2 (some .int)) rmX8_removeTerm (va_Pc [.ref this, .int (tw_I a1)] (tw_Pre G sz h)) (tw_Qi G sz out.1 out.2) 0 0 (tw_F G) := by
  refine tw_met (by decide +kernel) (Nat.le_of_ble_eq_true rfl) ?_
  intro p e s m args below meth c H ls hC hnm hR hl
  unfold fX8_removeTerm at hk
  obtain ⟨hob, hk⟩ := tm_th_is hk
  have hl : lv_has ls 2 [(0, .ref this), (1, .int (tw_I a1))] := hl
  have hL : tw_L G [] := fun q z => by cases z
  generalize hlc : ([] : List Loc) = locs at hL ⊢
  refine lv_aload_n hC.1 hC.2.1 dX8_removeTerm_0 rfl (lv_at hl 0 rfl) ?_
  refine tw_getR hC hR hk flX8_10 dX8_removeTerm_1 (fun r1 hk => ?_)
  refine tw_getR hC hR hk flX8_102 dX8_removeTerm_4 (fun r2 hk => ?_)
  refine lv_iload_n hC.1 hC.2.1 dX8_removeTerm_7 rfl (lv_at hl 1 rfl) ?_
  refine kX5_has hC hR hL hk ga1 mlX8_113 ⟨by decide, by decide⟩ hl.1 (Nat.le_of_ble_eq_true rfl) ⟨Nat.zero_le _, Nat.zero_le _⟩ dX8_removeTerm_8 (fun v3 H locs hR hL gv3 hk => ?_)
  refine tw_zne (tgt := 16) hC hk gv3 dX8_removeTerm_11 (by decide) (fun _ hk => ?_) (fun _ hk => ?_)
  · refine lv_iconst (v := tw_I (-1)) hC.1 hC.2.1 dX8_removeTerm_14 rfl ?_
    cases hk
    exact tw_iret hC hR hL ((tw_rgL rfl)) rfl rfl dX8_removeTerm_15
  · refine lv_aload_n hC.1 hC.2.1 dX8_removeTerm_16 rfl (lv_at hl 0 rfl) ?_
    refine tw_getR hC hR hk flX8_22 dX8_removeTerm_17 (fun r4 hk => ?_)
    refine lv_aload_n hC.1 hC.2.1 dX8_removeTerm_20 rfl (lv_at hl 0 rfl) ?_
    refine tw_getR hC hR hk flX8_10 dX8_removeTerm_21 (fun r5 hk => ?_)
    refine kX1_keep hC hR hL hk mlX8_67 ⟨by decide, by decide⟩ hl.1 (Nat.le_of_ble_eq_true rfl) ⟨Nat.zero_le _, Nat.zero_le _⟩ dX8_removeTerm_24 (fun h6 H locs hR hL hk => ?_)
    refine lv_aload_n hC.1 hC.2.1 dX8_removeTerm_27 rfl (lv_at hl 0 rfl) ?_
    refine tw_getR hC hR hk flX8_10 dX8_removeTerm_28 (fun r7 hk => ?_)
    refine tw_getR hC hR hk flX8_102 dX8_removeTerm_31 (fun r8 hk => ?_)
    refine lv_iload_n hC.1 hC.2.1 dX8_removeTerm_34 rfl (lv_at hl 1 rfl) ?_
    refine kX5_drop hC hR hL hk ga1 mlX8_114 ⟨by decide, by decide⟩ hl.1 (Nat.le_of_ble_eq_true rfl) ⟨Nat.zero_le _, Nat.zero_le _⟩ dX8_removeTerm_35 (fun h9 H locs hR hL hk => ?_)
    refine lv_aload_n hC.1 hC.2.1 dX8_removeTerm_38 rfl (lv_at hl 0 rfl) ?_
    refine tw_getR hC hR hk flX8_10 dX8_removeTerm_39 (fun r10 hk => ?_)
    refine tw_getR hC hR hk flX8_102 dX8_removeTerm_42 (fun r11 hk => ?_)
    refine kX5_size hC hR hL hk mlX8_106 ⟨by decide, by decide⟩ hl.1 (Nat.le_of_ble_eq_true rfl) ⟨Nat.zero_le _, Nat.zero_le _⟩ dX8_removeTerm_45 (fun v12 H locs hR hL gv12 hk => ?_)
    cases hk
    exact tw_iret hC hR hL gv12 rfl rfl dX8_removeTerm_48
set_option maxRecDepth 100000 in
theorem kX8_removeTerm {l : Launch} {p : Program} {e : Env} {R : Room} {s : State} {m : MethodId} {args : Array Value} {below : List Frame} {meth : Method} {c : Code} {H : Heap} {locs : List Loc} {cells slots : Nat} {Q : State → Prop} {cc : ByteArray} {pc nL idx : Nat} {ls : Array Slot} {rest : List Value} {G : tw_G} {h : tm_H} {own : String} {ret : Option FieldType} {α : Type} {x : α} {sz : Nat} {this : Nat} {a1 : Int} (hC : tw_C G p s m args meth c own cc nL ret) (hR : tw_Rel G sz h H) (hL : tw_L G locs) {F : Int × tm_H → Option α} (hk : (fX8_removeTerm this a1 h).bind F = some x) (ga1 : tm_rg a1) (hl : tw_mL own idx yX8_removeTerm) (hRm : rmX8_removeTerm.frames + 1 ≤ R.frames ∧ 8 + (2 + 11) + rmX8_removeTerm.locals ≤ R.locals) (hsz : ls.size = nL) (hW : (rest.map fun v => v.category).sum ≤ 8) (hf : cells + 0 ≤ R.cells ∧ slots + 0 ≤ R.slots) (hdg : decode cc pc = .ok (.invokevirtual idx, 3)) (kk : ∀ (r : Int) (h1 : tm_H) (H1 : Heap) (locs1 : List Loc), tw_Rel G sz h1 H1 → tw_L G locs1 → tm_rg r → F (r, h1) = some x → W p l e R s m args below meth c H1 locs1 (cells + 0) (slots + 0) Q (F0 m (pc + 3) ls (.int (tw_I r) :: rest))) : W p l e R s m args below meth c H locs cells slots Q (F0 m pc ls (.int (tw_I a1) :: .ref this :: rest)) := by
  obtain ⟨r, hr, hF⟩ := Option.bind_eq_some_iff.mp hk
  have ob : ∀ r, fX8_removeTerm this a1 h = some r → tm_is h 8 this := fun r hr => by
    unfold fX8_removeTerm at hr
    exact (tm_th_is hr).1
  exact tw_backi (tw_runV hC hR (cX8_removeTerm_ok l G sz this a1 ga1 h r hr) (n := 1) (As := [.int (tw_I a1)]) ⟨tw_in_TB 445 (by decide +kernel) rfl, tw_in_TB 53 (by decide +kernel) rfl, by decide +kernel⟩ (tw_in_TB 443 (by decide +kernel) rfl) (tw_in_TB 444 (by decide +kernel) rfl) hl ⟨rfl, rfl⟩ hRm (ob r hr) (T := TX8) (N := 6) rfl rfl hsz rfl hW hdg hf) hL (fun H1 locs1 a b g => kk r.1 r.2 H1 locs1 a b g hF)
def rmX8_setQuiet : Room := { frames := 6, cells := 0, slots := 0, locals := 139 }
set_option maxRecDepth 100000 in
set_option maxHeartbeats 4000000 in
theorem sX8_setQuiet_L54 {l : Launch} {p : Program} {e : Env} {s : State} {m : MethodId} {args : Array Value} {below : List Frame} {meth : Method} {c : Code} (G : tw_G) (sz : Nat) (hC : tw_C G p s m args meth c RX8 cX8_setQuiet 3 (some .int)) (this : Nat) (a1 : Int) (a2 : Int) (ga1 : tm_rg a1) (ga2 : tm_rg a2) (s0 : Nat) (s1 : Int) (s2 : Int) (h : tm_H) (gs1 : tm_rg s1) (gs2 : tm_rg s2) (out : Int × tm_H) (hk : fX8_setQuiet_L54 this a1 a2 s0 s1 s2 h = some out) (H : Heap) (locs : List Loc) (ls : Array Slot) (hR : tw_Rel G sz h H) (hL : tw_L G locs) (hl : lv_has ls 3 [(0, .ref this), (1, .int (tw_I a1)), (2, .int (tw_I a2))]) : W p l e rmX8_setQuiet s m args below meth c H locs 0 0 (MQ below (tw_Qi G sz out.1 out.2) args s 0 0 (tw_F G)) (F0 m 54 ls [.int (tw_I s2), .int (tw_I s1), .ref s0]) := by
  unfold fX8_setQuiet_L54 at hk
  refine kX5_hush hC hR hL hk gs1 gs2 mlX8_118 ⟨by decide, by decide⟩ hl.1 (Nat.le_of_ble_eq_true rfl) ⟨Nat.zero_le _, Nat.zero_le _⟩ dX8_setQuiet_54 (fun h9 H locs hR hL hk => ?_)
  refine lv_aload_n hC.1 hC.2.1 dX8_setQuiet_57 rfl (lv_at hl 0 rfl) ?_
  refine kX8_readNow hC hR hL hk mlX8_90 ⟨by decide, by decide⟩ hl.1 (Nat.le_of_ble_eq_true rfl) ⟨Nat.zero_le _, Nat.zero_le _⟩ dX8_setQuiet_58 (fun v10 h10 H locs hR hL hk => ?_)
  refine kX3_markCount hC hR hL hk mlX8_94 ⟨by decide, by decide⟩ hl.1 (Nat.le_of_ble_eq_true rfl) ⟨Nat.zero_le _, Nat.zero_le _⟩ dX8_setQuiet_61 (fun v11 H locs hR hL gv11 hk => ?_)
  cases hk
  exact tw_iret hC hR hL gv11 rfl rfl dX8_setQuiet_64
set_option maxRecDepth 100000 in
set_option maxHeartbeats 4000000 in
theorem cX8_setQuiet_ok (l : Launch) (G : tw_G) (sz : Nat) (this : Nat) (a1 : Int) (a2 : Int) (ga1 : tm_rg a1) (ga2 : tm_rg a2) (h : tm_H) (out : Int × tm_H) (hk : fX8_setQuiet this a1 a2 h = some out) : Met l yX8_setQuiet (tw_WS yX8_setQuiet cX8_setQuiet 3 (some .int)) rmX8_setQuiet (va_Pc [.ref this, .int (tw_I a1), .int (tw_I a2)] (tw_Pre G sz h)) (tw_Qi G sz out.1 out.2) 0 0 (tw_F G) := by
  refine tw_met (by decide +kernel) (Nat.le_of_ble_eq_true rfl) ?_
  intro p e s m args below meth c H ls hC hnm hR hl
  unfold fX8_setQuiet at hk
  obtain ⟨hob, hk⟩ := tm_th_is hk
  have hl : lv_has ls 3 [(0, .ref this), (1, .int (tw_I a1)), (2, .int (tw_I a2))] := hl
  have hL : tw_L G [] := fun q z => by cases z
  generalize hlc : ([] : List Loc) = locs at hL ⊢
  refine lv_aload_n hC.1 hC.2.1 dX8_setQuiet_0 rfl (lv_at hl 0 rfl) ?_
  refine tw_getR hC hR hk flX8_10 dX8_setQuiet_1 (fun r1 hk => ?_)
  refine tw_getR hC hR hk flX8_102 dX8_setQuiet_4 (fun r2 hk => ?_)
  refine lv_iload_n hC.1 hC.2.1 dX8_setQuiet_7 rfl (lv_at hl 1 rfl) ?_
  refine kX5_has hC hR hL hk ga1 mlX8_113 ⟨by decide, by decide⟩ hl.1 (Nat.le_of_ble_eq_true rfl) ⟨Nat.zero_le _, Nat.zero_le _⟩ dX8_setQuiet_8 (fun v3 H locs hR hL gv3 hk => ?_)
  refine tw_zeq (tgt := 23) hC hk gv3 dX8_setQuiet_11 (by decide) (fun _ hk => ?_) (fun _ hk => ?_)
  · refine lv_iconst (v := tw_I (-1)) hC.1 hC.2.1 dX8_setQuiet_23 rfl ?_
    cases hk
    exact tw_iret hC hR hL ((tw_rgL rfl)) rfl rfl dX8_setQuiet_24
  · refine lv_iload_n hC.1 hC.2.1 dX8_setQuiet_14 rfl (lv_at hl 2 rfl) ?_
    refine tw_zlt (tgt := 23) hC hk ga2 dX8_setQuiet_15 (by decide) (fun _ hk => ?_) (fun _ hk => ?_)
    · refine lv_iconst (v := tw_I (-1)) hC.1 hC.2.1 dX8_setQuiet_23 rfl ?_
      cases hk
      exact tw_iret hC hR hL ((tw_rgL rfl)) rfl rfl dX8_setQuiet_24
    · refine lv_iload_n hC.1 hC.2.1 dX8_setQuiet_18 rfl (lv_at hl 2 rfl) ?_
      refine lv_iconst (v := tw_I 1) hC.1 hC.2.1 dX8_setQuiet_19 rfl ?_
      refine tw_cle (tgt := 25) hC hk ga2 ((tw_rgL rfl)) dX8_setQuiet_20 (by decide) (fun _ hk => ?_) (fun _ hk => ?_)
      · refine lv_iconst (v := tw_I (-1)) hC.1 hC.2.1 dX8_setQuiet_23 rfl ?_
        cases hk
        exact tw_iret hC hR hL ((tw_rgL rfl)) rfl rfl dX8_setQuiet_24
      · refine lv_aload_n hC.1 hC.2.1 dX8_setQuiet_25 rfl (lv_at hl 0 rfl) ?_
        refine tw_getR hC hR hk flX8_22 dX8_setQuiet_26 (fun r4 hk => ?_)
        refine lv_aload_n hC.1 hC.2.1 dX8_setQuiet_29 rfl (lv_at hl 0 rfl) ?_
        refine tw_getR hC hR hk flX8_10 dX8_setQuiet_30 (fun r5 hk => ?_)
        refine kX1_keep hC hR hL hk mlX8_67 ⟨by decide, by decide⟩ hl.1 (Nat.le_of_ble_eq_true rfl) ⟨Nat.zero_le _, Nat.zero_le _⟩ dX8_setQuiet_33 (fun h6 H locs hR hL hk => ?_)
        refine lv_aload_n hC.1 hC.2.1 dX8_setQuiet_36 rfl (lv_at hl 0 rfl) ?_
        refine tw_getR hC hR hk flX8_10 dX8_setQuiet_37 (fun r7 hk => ?_)
        refine tw_getR hC hR hk flX8_102 dX8_setQuiet_40 (fun r8 hk => ?_)
        refine lv_iload_n hC.1 hC.2.1 dX8_setQuiet_43 rfl (lv_at hl 1 rfl) ?_
        refine lv_iload_n hC.1 hC.2.1 dX8_setQuiet_44 rfl (lv_at hl 2 rfl) ?_
        refine lv_iconst (v := tw_I 1) hC.1 hC.2.1 dX8_setQuiet_45 rfl ?_
        refine tw_cne (tgt := 53) hC hk ga2 ((tw_rgL rfl)) dX8_setQuiet_46 (by decide) (fun _ hk => ?_) (fun _ hk => ?_)
        · refine lv_iconst (v := tw_I 1) hC.1 hC.2.1 dX8_setQuiet_49 rfl ?_
          refine lv_goto (tgt := 54) hC.1 hC.2.1 dX8_setQuiet_50 (by decide) ?_
          exact sX8_setQuiet_L54 G sz hC this a1 a2 ga1 ga2 r8 a1 1 h6 ga1 ((tw_rgL rfl)) out hk H locs _ hR hL (lv_sub hl [0, 1, 2] rfl)
        · refine lv_iconst (v := tw_I 0) hC.1 hC.2.1 dX8_setQuiet_53 rfl ?_
          exact sX8_setQuiet_L54 G sz hC this a1 a2 ga1 ga2 r8 a1 0 h6 ga1 ((tw_rgL rfl)) out hk H locs _ hR hL (lv_sub hl [0, 1, 2] rfl)
set_option maxRecDepth 100000 in
theorem kX8_setQuiet {l : Launch} {p : Program} {e : Env} {R : Room} {s : State} {m : MethodId} {args : Array Value} {below : List Frame} {meth : Method} {c : Code} {H : Heap} {locs : List Loc} {cells slots : Nat} {Q : State → Prop} {cc : ByteArray} {pc nL idx : Nat} {ls : Array Slot} {rest : List Value} {G : tw_G} {h : tm_H} {own : String} {ret : Option FieldType} {α : Type} {x : α} {sz : Nat} {this : Nat} {a1 : Int} {a2 : Int} (hC : tw_C G p s m args meth c own cc nL ret) (hR : tw_Rel G sz h H) (hL : tw_L G locs) {F : Int × tm_H → Option α} (hk : (fX8_setQuiet this a1 a2 h).bind F = some x) (ga1 : tm_rg a1) (ga2 : tm_rg a2) (hl : tw_mL own idx yX8_setQuiet) (hRm : rmX8_setQuiet.frames + 1 ≤ R.frames ∧ 8 + (3 + 11) + rmX8_setQuiet.locals ≤ R.locals) (hsz : ls.size = nL) (hW : (rest.map fun v => v.category).sum ≤ 8) (hf : cells + 0 ≤ R.cells ∧ slots + 0 ≤ R.slots) (hdg : decode cc pc = .ok (.invokevirtual idx, 3)) (kk : ∀ (r : Int) (h1 : tm_H) (H1 : Heap) (locs1 : List Loc), tw_Rel G sz h1 H1 → tw_L G locs1 → tm_rg r → F (r, h1) = some x → W p l e R s m args below meth c H1 locs1 (cells + 0) (slots + 0) Q (F0 m (pc + 3) ls (.int (tw_I r) :: rest))) : W p l e R s m args below meth c H locs cells slots Q (F0 m pc ls (.int (tw_I a2) :: .int (tw_I a1) :: .ref this :: rest)) := by
  obtain ⟨r, hr, hF⟩ := Option.bind_eq_some_iff.mp hk
  have ob : ∀ r, fX8_setQuiet this a1 a2 h = some r → tm_is h 8 this := fun r hr => by
    unfold fX8_setQuiet at hr
    exact (tm_th_is hr).1
  exact tw_backi (tw_runV hC hR (cX8_setQuiet_ok l G sz this a1 a2 ga1 ga2 h r hr) (n := 2) (As := [.int (tw_I a1), .int (tw_I a2)]) ⟨tw_in_TB 454 (by decide +kernel) rfl, tw_in_TB 53 (by decide +kernel) rfl, by decide +kernel⟩ (tw_in_TB 452 (by decide +kernel) rfl) (tw_in_TB 453 (by decide +kernel) rfl) hl ⟨rfl, rfl⟩ hRm (ob r hr) (T := TX8) (N := 6) rfl rfl hsz rfl hW hdg hf) hL (fun H1 locs1 a b g => kk r.1 r.2 H1 locs1 a b g hF)
def rmX8_setBase : Room := { frames := 4, cells := 0, slots := 0, locals := 92 }
set_option maxRecDepth 100000 in
set_option maxHeartbeats 4000000 in
theorem cX8_setBase_ok (l : Launch) (G : tw_G) (sz : Nat) (this : Nat) (a1 : Int) (a2 : Int) (ga1 : tm_rg a1) (ga2 : tm_rg a2) (h : tm_H) (out : Int × tm_H) (hk : fX8_setBase this a1 a2 h = some out) : Met l yX8_setBase (tw_WS yX8_setBase cX8_setBase 4 (some .int)) rmX8_setBase (va_Pc [.ref this, .int (tw_I a1), .int (tw_I a2)] (tw_Pre G sz h)) (tw_Qi G sz out.1 out.2) 0 0 (tw_F G) := by
  refine tw_met (by decide +kernel) (Nat.le_of_ble_eq_true rfl) ?_
  intro p e s m args below meth c H ls hC hnm hR hl
  unfold fX8_setBase at hk
  obtain ⟨hob, hk⟩ := tm_th_is hk
  have hl : lv_has ls 4 [(0, .ref this), (1, .int (tw_I a1)), (2, .int (tw_I a2))] := hl
  have hL : tw_L G [] := fun q z => by cases z
  generalize hlc : ([] : List Loc) = locs at hL ⊢
  refine lv_aload_n hC.1 hC.2.1 dX8_setBase_0 rfl (lv_at hl 0 rfl) ?_
  refine tw_getR hC hR hk flX8_10 dX8_setBase_1 (fun r1 hk => ?_)
  refine tw_getR hC hR hk flX8_60 dX8_setBase_4 (fun r2 hk => ?_)
  refine lv_iload_n hC.1 hC.2.1 dX8_setBase_7 rfl (lv_at hl 1 rfl) ?_
  refine kX7_has hC hR hL hk ga1 mlX8_64 ⟨by decide, by decide⟩ hl.1 (Nat.le_of_ble_eq_true rfl) ⟨Nat.zero_le _, Nat.zero_le _⟩ dX8_setBase_8 (fun v3 H locs hR hL gv3 hk => ?_)
  refine tw_zeq (tgt := 28) hC hk gv3 dX8_setBase_11 (by decide) (fun _ hk => ?_) (fun _ hk => ?_)
  · refine lv_iconst (v := tw_I (-1)) hC.1 hC.2.1 dX8_setBase_28 rfl ?_
    cases hk
    exact tw_iret hC hR hL ((tw_rgL rfl)) rfl rfl dX8_setBase_29
  · refine lv_aload_n hC.1 hC.2.1 dX8_setBase_14 rfl (lv_at hl 0 rfl) ?_
    refine tw_getR hC hR hk flX8_10 dX8_setBase_15 (fun r4 hk => ?_)
    refine tw_getR hC hR hk flX8_60 dX8_setBase_18 (fun r5 hk => ?_)
    refine lv_iload_n hC.1 hC.2.1 dX8_setBase_21 rfl (lv_at hl 2 rfl) ?_
    refine kX7_has hC hR hL hk ga2 mlX8_64 ⟨by decide, by decide⟩ hl.1 (Nat.le_of_ble_eq_true rfl) ⟨Nat.zero_le _, Nat.zero_le _⟩ dX8_setBase_22 (fun v6 H locs hR hL gv6 hk => ?_)
    refine tw_zne (tgt := 30) hC hk gv6 dX8_setBase_25 (by decide) (fun _ hk => ?_) (fun _ hk => ?_)
    · refine lv_iconst (v := tw_I (-1)) hC.1 hC.2.1 dX8_setBase_28 rfl ?_
      cases hk
      exact tw_iret hC hR hL ((tw_rgL rfl)) rfl rfl dX8_setBase_29
    · refine lv_aload_n hC.1 hC.2.1 dX8_setBase_30 rfl (lv_at hl 0 rfl) ?_
      refine tw_getR hC hR hk flX8_10 dX8_setBase_31 (fun r7 hk => ?_)
      refine lv_iload_n hC.1 hC.2.1 dX8_setBase_34 rfl (lv_at hl 1 rfl) ?_
      refine lv_iload_n hC.1 hC.2.1 dX8_setBase_35 rfl (lv_at hl 2 rfl) ?_
      refine kX4_mayHaveBase hC hR hL hk ga1 ga2 mlX8_122 ⟨by decide, by decide⟩ hl.1 (Nat.le_of_ble_eq_true rfl) ⟨Nat.zero_le _, Nat.zero_le _⟩ dX8_setBase_36 (fun v8 h8 H locs hR hL gv8 hk => ?_)
      refine tw_zne (tgt := 45) hC hk gv8 dX8_setBase_39 (by decide) (fun _ hk => ?_) (fun _ hk => ?_)
      · refine lv_bipush (v := tw_I (-2)) hC.1 hC.2.1 dX8_setBase_42 (by decide) ?_
        cases hk
        exact tw_iret hC hR hL ((tw_rgL rfl)) rfl rfl dX8_setBase_44
      · refine lv_aload_n hC.1 hC.2.1 dX8_setBase_45 rfl (lv_at hl 0 rfl) ?_
        refine tw_getR hC hR hk flX8_22 dX8_setBase_46 (fun r9 hk => ?_)
        refine lv_aload_n hC.1 hC.2.1 dX8_setBase_49 rfl (lv_at hl 0 rfl) ?_
        refine tw_getR hC hR hk flX8_10 dX8_setBase_50 (fun r10 hk => ?_)
        refine kX1_keep hC hR hL hk mlX8_67 ⟨by decide, by decide⟩ hl.1 (Nat.le_of_ble_eq_true rfl) ⟨Nat.zero_le _, Nat.zero_le _⟩ dX8_setBase_53 (fun h11 H locs hR hL hk => ?_)
        refine lv_aload_n hC.1 hC.2.1 dX8_setBase_56 rfl (lv_at hl 0 rfl) ?_
        refine tw_getR hC hR hk flX8_10 dX8_setBase_57 (fun r12 hk => ?_)
        refine tw_getR hC hR hk flX8_60 dX8_setBase_60 (fun r13 hk => ?_)
        refine lv_iload_n hC.1 hC.2.1 dX8_setBase_63 rfl (lv_at hl 1 rfl) ?_
        refine kX7_baseOf hC hR hL hk ga1 mlX8_125 ⟨by decide, by decide⟩ hl.1 (Nat.le_of_ble_eq_true rfl) ⟨Nat.zero_le _, Nat.zero_le _⟩ dX8_setBase_64 (fun v14 H locs hR hL gv14 hk => ?_)
        refine lv_istore_n (lv' := [(3, .int (tw_I v14)), (0, .ref this), (1, .int (tw_I a1)), (2, .int (tw_I a2))]) hC.1 hC.2.1 dX8_setBase_67 rfl hl (by decide) rfl (fun ls hl => ?_)
        refine lv_aload_n hC.1 hC.2.1 dX8_setBase_68 rfl (lv_at hl 1 rfl) ?_
        refine tw_getR hC hR hk flX8_10 dX8_setBase_69 (fun r15 hk => ?_)
        refine tw_getR hC hR hk flX8_60 dX8_setBase_72 (fun r16 hk => ?_)
        refine lv_iload_n hC.1 hC.2.1 dX8_setBase_75 rfl (lv_at hl 2 rfl) ?_
        refine lv_iload_n hC.1 hC.2.1 dX8_setBase_76 rfl (lv_at hl 3 rfl) ?_
        refine kX7_putBase hC hR hL hk ga1 ga2 mlX8_128 ⟨by decide, by decide⟩ hl.1 (Nat.le_of_ble_eq_true rfl) ⟨Nat.zero_le _, Nat.zero_le _⟩ dX8_setBase_77 (fun h17 H locs hR hL hk => ?_)
        refine lv_iload_n hC.1 hC.2.1 dX8_setBase_80 rfl (lv_at hl 0 rfl) ?_
        cases hk
        exact tw_iret hC hR hL gv14 rfl rfl dX8_setBase_81
set_option maxRecDepth 100000 in
theorem kX8_setBase {l : Launch} {p : Program} {e : Env} {R : Room} {s : State} {m : MethodId} {args : Array Value} {below : List Frame} {meth : Method} {c : Code} {H : Heap} {locs : List Loc} {cells slots : Nat} {Q : State → Prop} {cc : ByteArray} {pc nL idx : Nat} {ls : Array Slot} {rest : List Value} {G : tw_G} {h : tm_H} {own : String} {ret : Option FieldType} {α : Type} {x : α} {sz : Nat} {this : Nat} {a1 : Int} {a2 : Int} (hC : tw_C G p s m args meth c own cc nL ret) (hR : tw_Rel G sz h H) (hL : tw_L G locs) {F : Int × tm_H → Option α} (hk : (fX8_setBase this a1 a2 h).bind F = some x) (ga1 : tm_rg a1) (ga2 : tm_rg a2) (hl : tw_mL own idx yX8_setBase) (hRm : rmX8_setBase.frames + 1 ≤ R.frames ∧ 8 + (4 + 11) + rmX8_setBase.locals ≤ R.locals) (hsz : ls.size = nL) (hW : (rest.map fun v => v.category).sum ≤ 8) (hf : cells + 0 ≤ R.cells ∧ slots + 0 ≤ R.slots) (hdg : decode cc pc = .ok (.invokevirtual idx, 3)) (kk : ∀ (r : Int) (h1 : tm_H) (H1 : Heap) (locs1 : List Loc), tw_Rel G sz h1 H1 → tw_L G locs1 → tm_rg r → F (r, h1) = some x → W p l e R s m args below meth c H1 locs1 (cells + 0) (slots + 0) Q (F0 m (pc + 3) ls (.int (tw_I r) :: rest))) : W p l e R s m args below meth c H locs cells slots Q (F0 m pc ls (.int (tw_I a2) :: .int (tw_I a1) :: .ref this :: rest)) := by
  obtain ⟨r, hr, hF⟩ := Option.bind_eq_some_iff.mp hk
  have ob : ∀ r, fX8_setBase this a1 a2 h = some r → tm_is h 8 this := fun r hr => by
    unfold fX8_setBase at hr
    exact (tm_th_is hr).1
  exact tw_backi (tw_runV hC hR (cX8_setBase_ok l G sz this a1 a2 ga1 ga2 h r hr) (n := 2) (As := [.int (tw_I a1), .int (tw_I a2)]) ⟨tw_in_TB 462 (by decide +kernel) rfl, tw_in_TB 53 (by decide +kernel) rfl, by decide +kernel⟩ (tw_in_TB 460 (by decide +kernel) rfl) (tw_in_TB 461 (by decide +kernel) rfl) hl ⟨rfl, rfl⟩ hRm (ob r hr) (T := TX8) (N := 6) rfl rfl hsz rfl hW hdg hf) hL (fun H1 locs1 a b g => kk r.1 r.2 H1 locs1 a b g hF)
def rmX8_take : Room := { frames := 4, cells := 0, slots := 0, locals := 91 }
set_option maxRecDepth 100000 in
set_option maxHeartbeats 4000000 in
theorem cX8_take_ok (l : Launch) (G : tw_G) (sz : Nat) (this : Nat) (a1 : Int) (ga1 : tm_rg a1) (h : tm_H) (out : Int × tm_H) (hk : fX8_take this a1 h = some out) : Met l yX8_take (tw_WS yX8_take cX8_take 2 (some .int)) rmX8_take (va_Pc [.ref this, .int (tw_I a1)] (tw_Pre G sz h)) (tw_Qi G sz out.1 out.2) 0 0 (tw_F G) := by
  refine tw_met (by decide +kernel) (Nat.le_of_ble_eq_true rfl) ?_
  intro p e s m args below meth c H ls hC hnm hR hl
  unfold fX8_take at hk
  obtain ⟨hob, hk⟩ := tm_th_is hk
  have hl : lv_has ls 2 [(0, .ref this), (1, .int (tw_I a1))] := hl
  have hL : tw_L G [] := fun q z => by cases z
  generalize hlc : ([] : List Loc) = locs at hL ⊢
  refine lv_aload_n hC.1 hC.2.1 dX8_take_0 rfl (lv_at hl 0 rfl) ?_
  refine tw_getR hC hR hk flX8_10 dX8_take_1 (fun r1 hk => ?_)
  refine lv_iload_n hC.1 hC.2.1 dX8_take_4 rfl (lv_at hl 1 rfl) ?_
  refine kX4_hasSlot hC hR hL hk ga1 mlX8_131 ⟨by decide, by decide⟩ hl.1 (Nat.le_of_ble_eq_true rfl) ⟨Nat.zero_le _, Nat.zero_le _⟩ dX8_take_5 (fun v2 H locs hR hL gv2 hk => ?_)
  refine tw_zne (tgt := 13) hC hk gv2 dX8_take_8 (by decide) (fun _ hk => ?_) (fun _ hk => ?_)
  · refine lv_iconst (v := tw_I (-1)) hC.1 hC.2.1 dX8_take_11 rfl ?_
    cases hk
    exact tw_iret hC hR hL ((tw_rgL rfl)) rfl rfl dX8_take_12
  · refine lv_aload_n hC.1 hC.2.1 dX8_take_13 rfl (lv_at hl 0 rfl) ?_
    refine tw_getR hC hR hk flX8_22 dX8_take_14 (fun r3 hk => ?_)
    refine lv_aload_n hC.1 hC.2.1 dX8_take_17 rfl (lv_at hl 0 rfl) ?_
    refine tw_getR hC hR hk flX8_10 dX8_take_18 (fun r4 hk => ?_)
    refine kX1_keep hC hR hL hk mlX8_67 ⟨by decide, by decide⟩ hl.1 (Nat.le_of_ble_eq_true rfl) ⟨Nat.zero_le _, Nat.zero_le _⟩ dX8_take_21 (fun h5 H locs hR hL hk => ?_)
    refine lv_aload_n hC.1 hC.2.1 dX8_take_24 rfl (lv_at hl 0 rfl) ?_
    refine tw_getR hC hR hk flX8_10 dX8_take_25 (fun r6 hk => ?_)
    refine lv_iload_n hC.1 hC.2.1 dX8_take_28 rfl (lv_at hl 1 rfl) ?_
    refine kX4_keepChapters hC hR hL hk ga1 mlX8_134 ⟨by decide, by decide⟩ hl.1 (Nat.le_of_ble_eq_true rfl) ⟨Nat.zero_le _, Nat.zero_le _⟩ dX8_take_29 (fun h7 H locs hR hL hk => ?_)
    refine lv_aload_n hC.1 hC.2.1 dX8_take_32 rfl (lv_at hl 0 rfl) ?_
    refine tw_getR hC hR hk flX8_10 dX8_take_33 (fun r8 hk => ?_)
    refine tw_getR hC hR hk flX8_46 dX8_take_36 (fun r9 hk => ?_)
    refine kX0_total hC hR hL hk mlX8_137 ⟨by decide, by decide⟩ hl.1 (Nat.le_of_ble_eq_true rfl) ⟨Nat.zero_le _, Nat.zero_le _⟩ dX8_take_39 (fun v10 H locs hR hL gv10 hk => ?_)
    cases hk
    exact tw_iret hC hR hL gv10 rfl rfl dX8_take_42
set_option maxRecDepth 100000 in
theorem kX8_take {l : Launch} {p : Program} {e : Env} {R : Room} {s : State} {m : MethodId} {args : Array Value} {below : List Frame} {meth : Method} {c : Code} {H : Heap} {locs : List Loc} {cells slots : Nat} {Q : State → Prop} {cc : ByteArray} {pc nL idx : Nat} {ls : Array Slot} {rest : List Value} {G : tw_G} {h : tm_H} {own : String} {ret : Option FieldType} {α : Type} {x : α} {sz : Nat} {this : Nat} {a1 : Int} (hC : tw_C G p s m args meth c own cc nL ret) (hR : tw_Rel G sz h H) (hL : tw_L G locs) {F : Int × tm_H → Option α} (hk : (fX8_take this a1 h).bind F = some x) (ga1 : tm_rg a1) (hl : tw_mL own idx yX8_take) (hRm : rmX8_take.frames + 1 ≤ R.frames ∧ 8 + (2 + 11) + rmX8_take.locals ≤ R.locals) (hsz : ls.size = nL) (hW : (rest.map fun v => v.category).sum ≤ 8) (hf : cells + 0 ≤ R.cells ∧ slots + 0 ≤ R.slots) (hdg : decode cc pc = .ok (.invokevirtual idx, 3)) (kk : ∀ (r : Int) (h1 : tm_H) (H1 : Heap) (locs1 : List Loc), tw_Rel G sz h1 H1 → tw_L G locs1 → tm_rg r → F (r, h1) = some x → W p l e R s m args below meth c H1 locs1 (cells + 0) (slots + 0) Q (F0 m (pc + 3) ls (.int (tw_I r) :: rest))) : W p l e R s m args below meth c H locs cells slots Q (F0 m pc ls (.int (tw_I a1) :: .ref this :: rest)) := by
  obtain ⟨r, hr, hF⟩ := Option.bind_eq_some_iff.mp hk
  have ob : ∀ r, fX8_take this a1 h = some r → tm_is h 8 this := fun r hr => by
    unfold fX8_take at hr
    exact (tm_th_is hr).1
  exact tw_backi (tw_runV hC hR (cX8_take_ok l G sz this a1 ga1 h r hr) (n := 1) (As := [.int (tw_I a1)]) ⟨tw_in_TB 490 (by decide +kernel) rfl, tw_in_TB 53 (by decide +kernel) rfl, by decide +kernel⟩ (tw_in_TB 488 (by decide +kernel) rfl) (tw_in_TB 489 (by decide +kernel) rfl) hl ⟨rfl, rfl⟩ hRm (ob r hr) (T := TX8) (N := 6) rfl rfl hsz rfl hW hdg hf) hL (fun H1 locs1 a b g => kk r.1 r.2 H1 locs1 a b g hF)
def rmX8_restore : Room := { frames := 4, cells := 0, slots := 0, locals := 91 }
set_option maxRecDepth 100000 in
set_option maxHeartbeats 4000000 in
theorem cX8_restore_ok (l : Launch) (G : tw_G) (sz : Nat) (this : Nat) (a1 : Int) (ga1 : tm_rg a1) (h : tm_H) (out : Int × tm_H) (hk : fX8_restore this a1 h = some out) : Met l yX8_restore (tw_WS yX8_restore cX8_restore 2 (some .int)) rmX8_restore (va_Pc [.ref this, .int (tw_I a1)] (tw_Pre G sz h)) (tw_Qi G sz out.1 out.2) 0 0 (tw_F G) := by
  refine tw_met (by decide +kernel) (Nat.le_of_ble_eq_true rfl) ?_
  intro p e s m args below meth c H ls hC hnm hR hl
  unfold fX8_restore at hk
  obtain ⟨hob, hk⟩ := tm_th_is hk
  have hl : lv_has ls 2 [(0, .ref this), (1, .int (tw_I a1))] := hl
  have hL : tw_L G [] := fun q z => by cases z
  generalize hlc : ([] : List Loc) = locs at hL ⊢
  refine lv_aload_n hC.1 hC.2.1 dX8_restore_0 rfl (lv_at hl 0 rfl) ?_
  refine tw_getR hC hR hk flX8_10 dX8_restore_1 (fun r1 hk => ?_)
  refine lv_iload_n hC.1 hC.2.1 dX8_restore_4 rfl (lv_at hl 1 rfl) ?_
  refine kX4_hasSlot hC hR hL hk ga1 mlX8_131 ⟨by decide, by decide⟩ hl.1 (Nat.le_of_ble_eq_true rfl) ⟨Nat.zero_le _, Nat.zero_le _⟩ dX8_restore_5 (fun v2 H locs hR hL gv2 hk => ?_)
  refine tw_zne (tgt := 13) hC hk gv2 dX8_restore_8 (by decide) (fun _ hk => ?_) (fun _ hk => ?_)
  · refine lv_iconst (v := tw_I (-1)) hC.1 hC.2.1 dX8_restore_11 rfl ?_
    cases hk
    exact tw_iret hC hR hL ((tw_rgL rfl)) rfl rfl dX8_restore_12
  · refine lv_aload_n hC.1 hC.2.1 dX8_restore_13 rfl (lv_at hl 0 rfl) ?_
    refine tw_getR hC hR hk flX8_10 dX8_restore_14 (fun r3 hk => ?_)
    refine lv_iload_n hC.1 hC.2.1 dX8_restore_17 rfl (lv_at hl 1 rfl) ?_
    refine kX4_isTaken hC hR hL hk ga1 mlX8_140 ⟨by decide, by decide⟩ hl.1 (Nat.le_of_ble_eq_true rfl) ⟨Nat.zero_le _, Nat.zero_le _⟩ dX8_restore_18 (fun v4 H locs hR hL gv4 hk => ?_)
    refine tw_zne (tgt := 27) hC hk gv4 dX8_restore_21 (by decide) (fun _ hk => ?_) (fun _ hk => ?_)
    · refine lv_bipush (v := tw_I (-2)) hC.1 hC.2.1 dX8_restore_24 (by decide) ?_
      cases hk
      exact tw_iret hC hR hL ((tw_rgL rfl)) rfl rfl dX8_restore_26
    · refine lv_aload_n hC.1 hC.2.1 dX8_restore_27 rfl (lv_at hl 0 rfl) ?_
      refine tw_getR hC hR hk flX8_22 dX8_restore_28 (fun r5 hk => ?_)
      refine lv_aload_n hC.1 hC.2.1 dX8_restore_31 rfl (lv_at hl 0 rfl) ?_
      refine tw_getR hC hR hk flX8_10 dX8_restore_32 (fun r6 hk => ?_)
      refine kX1_keep hC hR hL hk mlX8_67 ⟨by decide, by decide⟩ hl.1 (Nat.le_of_ble_eq_true rfl) ⟨Nat.zero_le _, Nat.zero_le _⟩ dX8_restore_35 (fun h7 H locs hR hL hk => ?_)
      refine lv_aload_n hC.1 hC.2.1 dX8_restore_38 rfl (lv_at hl 0 rfl) ?_
      refine tw_getR hC hR hk flX8_10 dX8_restore_39 (fun r8 hk => ?_)
      refine lv_iload_n hC.1 hC.2.1 dX8_restore_42 rfl (lv_at hl 1 rfl) ?_
      refine kX4_bringChapters hC hR hL hk ga1 mlX8_143 ⟨by decide, by decide⟩ hl.1 (Nat.le_of_ble_eq_true rfl) ⟨Nat.zero_le _, Nat.zero_le _⟩ dX8_restore_43 (fun h9 H locs hR hL hk => ?_)
      refine lv_aload_n hC.1 hC.2.1 dX8_restore_46 rfl (lv_at hl 0 rfl) ?_
      refine tw_getR hC hR hk flX8_10 dX8_restore_47 (fun r10 hk => ?_)
      refine tw_getR hC hR hk flX8_46 dX8_restore_50 (fun r11 hk => ?_)
      refine kX0_total hC hR hL hk mlX8_137 ⟨by decide, by decide⟩ hl.1 (Nat.le_of_ble_eq_true rfl) ⟨Nat.zero_le _, Nat.zero_le _⟩ dX8_restore_53 (fun v12 H locs hR hL gv12 hk => ?_)
      cases hk
      exact tw_iret hC hR hL gv12 rfl rfl dX8_restore_56
set_option maxRecDepth 100000 in
theorem kX8_restore {l : Launch} {p : Program} {e : Env} {R : Room} {s : State} {m : MethodId} {args : Array Value} {below : List Frame} {meth : Method} {c : Code} {H : Heap} {locs : List Loc} {cells slots : Nat} {Q : State → Prop} {cc : ByteArray} {pc nL idx : Nat} {ls : Array Slot} {rest : List Value} {G : tw_G} {h : tm_H} {own : String} {ret : Option FieldType} {α : Type} {x : α} {sz : Nat} {this : Nat} {a1 : Int} (hC : tw_C G p s m args meth c own cc nL ret) (hR : tw_Rel G sz h H) (hL : tw_L G locs) {F : Int × tm_H → Option α} (hk : (fX8_restore this a1 h).bind F = some x) (ga1 : tm_rg a1) (hl : tw_mL own idx yX8_restore) (hRm : rmX8_restore.frames + 1 ≤ R.frames ∧ 8 + (2 + 11) + rmX8_restore.locals ≤ R.locals) (hsz : ls.size = nL) (hW : (rest.map fun v => v.category).sum ≤ 8) (hf : cells + 0 ≤ R.cells ∧ slots + 0 ≤ R.slots) (hdg : decode cc pc = .ok (.invokevirtual idx, 3)) (kk : ∀ (r : Int) (h1 : tm_H) (H1 : Heap) (locs1 : List Loc), tw_Rel G sz h1 H1 → tw_L G locs1 → tm_rg r → F (r, h1) = some x → W p l e R s m args below meth c H1 locs1 (cells + 0) (slots + 0) Q (F0 m (pc + 3) ls (.int (tw_I r) :: rest))) : W p l e R s m args below meth c H locs cells slots Q (F0 m pc ls (.int (tw_I a1) :: .ref this :: rest)) := by
  obtain ⟨r, hr, hF⟩ := Option.bind_eq_some_iff.mp hk
  have ob : ∀ r, fX8_restore this a1 h = some r → tm_is h 8 this := fun r hr => by
    unfold fX8_restore at hr
    exact (tm_th_is hr).1
  exact tw_backi (tw_runV hC hR (cX8_restore_ok l G sz this a1 ga1 h r hr) (n := 1) (As := [.int (tw_I a1)]) ⟨tw_in_TB 507 (by decide +kernel) rfl, tw_in_TB 53 (by decide +kernel) rfl, by decide +kernel⟩ (tw_in_TB 505 (by decide +kernel) rfl) (tw_in_TB 506 (by decide +kernel) rfl) hl ⟨rfl, rfl⟩ hRm (ob r hr) (T := TX8) (N := 6) rfl rfl hsz rfl hW hdg hf) hL (fun H1 locs1 a b g => kk r.1 r.2 H1 locs1 a b g hF)
def rmX8_undo : Room := { frames := 4, cells := 0, slots := 0, locals := 91 }
set_option maxRecDepth 100000 in
set_option maxHeartbeats 4000000 in
theorem cX8_undo_ok (l : Launch) (G : tw_G) (sz : Nat) (this : Nat)  (h : tm_H) (out : Int × tm_H) (hk : fX8_undo this h = some out) : Met l yX8_undo (tw_WS yX8_undo cX8_undo 1 (some .int)) rmX8_undo (va_Pc [.ref this] (tw_Pre G sz h)) (tw_Qi G sz out.1 out.2) 0 0 (tw_F G) := by
  refine tw_met (by decide +kernel) (Nat.le_of_ble_eq_true rfl) ?_
  intro p e s m args below meth c H ls hC hnm hR hl
  unfold fX8_undo at hk
  obtain ⟨hob, hk⟩ := tm_th_is hk
  have hl : lv_has ls 1 [(0, .ref this)] := hl
  have hL : tw_L G [] := fun q z => by cases z
  generalize hlc : ([] : List Loc) = locs at hL ⊢
  refine lv_aload_n hC.1 hC.2.1 dX8_undo_0 rfl (lv_at hl 0 rfl) ?_
  refine tw_getR hC hR hk flX8_22 dX8_undo_1 (fun r1 hk => ?_)
  refine kX1_size hC hR hL hk mlX8_146 ⟨by decide, by decide⟩ hl.1 (Nat.le_of_ble_eq_true rfl) ⟨Nat.zero_le _, Nat.zero_le _⟩ dX8_undo_4 (fun v2 H locs hR hL gv2 hk => ?_)
  refine tw_zne (tgt := 13) hC hk gv2 dX8_undo_7 (by decide) (fun _ hk => ?_) (fun _ hk => ?_)
  · refine lv_bipush (v := tw_I (-2)) hC.1 hC.2.1 dX8_undo_10 (by decide) ?_
    cases hk
    exact tw_iret hC hR hL ((tw_rgL rfl)) rfl rfl dX8_undo_12
  · refine lv_aload_n hC.1 hC.2.1 dX8_undo_13 rfl (lv_at hl 0 rfl) ?_
    refine tw_getR hC hR hk flX8_22 dX8_undo_14 (fun r3 hk => ?_)
    refine lv_aload_n hC.1 hC.2.1 dX8_undo_17 rfl (lv_at hl 0 rfl) ?_
    refine tw_getR hC hR hk flX8_10 dX8_undo_18 (fun r4 hk => ?_)
    refine kX1_giveBack hC hR hL hk mlX8_147 ⟨by decide, by decide⟩ hl.1 (Nat.le_of_ble_eq_true rfl) ⟨Nat.zero_le _, Nat.zero_le _⟩ dX8_undo_21 (fun h5 H locs hR hL hk => ?_)
    refine lv_aload_n hC.1 hC.2.1 dX8_undo_24 rfl (lv_at hl 0 rfl) ?_
    refine tw_getR hC hR hk flX8_22 dX8_undo_25 (fun r6 hk => ?_)
    refine kX1_size hC hR hL hk mlX8_146 ⟨by decide, by decide⟩ hl.1 (Nat.le_of_ble_eq_true rfl) ⟨Nat.zero_le _, Nat.zero_le _⟩ dX8_undo_28 (fun v7 H locs hR hL gv7 hk => ?_)
    cases hk
    exact tw_iret hC hR hL gv7 rfl rfl dX8_undo_31
set_option maxRecDepth 100000 in
theorem kX8_undo {l : Launch} {p : Program} {e : Env} {R : Room} {s : State} {m : MethodId} {args : Array Value} {below : List Frame} {meth : Method} {c : Code} {H : Heap} {locs : List Loc} {cells slots : Nat} {Q : State → Prop} {cc : ByteArray} {pc nL idx : Nat} {ls : Array Slot} {rest : List Value} {G : tw_G} {h : tm_H} {own : String} {ret : Option FieldType} {α : Type} {x : α} {sz : Nat} {this : Nat} (hC : tw_C G p s m args meth c own cc nL ret) (hR : tw_Rel G sz h H) (hL : tw_L G locs) {F : Int × tm_H → Option α} (hk : (fX8_undo this h).bind F = some x)  (hl : tw_mL own idx yX8_undo) (hRm : rmX8_undo.frames + 1 ≤ R.frames ∧ 8 + (1 + 11) + rmX8_undo.locals ≤ R.locals) (hsz : ls.size = nL) (hW : (rest.map fun v => v.category).sum ≤ 8) (hf : cells + 0 ≤ R.cells ∧ slots + 0 ≤ R.slots) (hdg : decode cc pc = .ok (.invokevirtual idx, 3)) (kk : ∀ (r : Int) (h1 : tm_H) (H1 : Heap) (locs1 : List Loc), tw_Rel G sz h1 H1 → tw_L G locs1 → tm_rg r → F (r, h1) = some x → W p l e R s m args below meth c H1 locs1 (cells + 0) (slots + 0) Q (F0 m (pc + 3) ls (.int (tw_I r) :: rest))) : W p l e R s m args below meth c H locs cells slots Q (F0 m pc ls (.ref this :: rest)) := by
  obtain ⟨r, hr, hF⟩ := Option.bind_eq_some_iff.mp hk
  have ob : ∀ r, fX8_undo this h = some r → tm_is h 8 this := fun r hr => by
    unfold fX8_undo at hr
    exact (tm_th_is hr).1
  exact tw_backi (tw_runV hC hR (cX8_undo_ok l G sz this  h r hr) (n := 0) (As := []) ⟨tw_in_TB 520 (by decide +kernel) rfl, tw_in_TB 53 (by decide +kernel) rfl, by decide +kernel⟩ (tw_in_TB 518 (by decide +kernel) rfl) (tw_in_TB 519 (by decide +kernel) rfl) hl ⟨rfl, rfl⟩ hRm (ob r hr) (T := TX8) (N := 6) rfl rfl hsz rfl hW hdg hf) hL (fun H1 locs1 a b g => kk r.1 r.2 H1 locs1 a b g hF)
def rmX8_append : Room := { frames := 1, cells := 0, slots := 0, locals := 21 }
set_option maxRecDepth 100000 in
set_option maxHeartbeats 4000000 in
theorem cX8_append_ok (l : Launch) (G : tw_G) (sz : Nat) (this : Nat) (a1 : Int) (ga1 : tm_rg a1) (h : tm_H) (out : Int × tm_H) (hk : fX8_append this a1 h = some out) : Met l yX8_append (tw_WS yX8_append cX8_append 2 (some .int)) rmX8_append (va_Pc [.ref this, .int (tw_I a1)] (tw_Pre G sz h)) (tw_Qi G sz out.1 out.2) 0 0 (tw_F G) := by
  refine tw_met (by decide +kernel) (Nat.le_of_ble_eq_true rfl) ?_
  intro p e s m args below meth c H ls hC hnm hR hl
  unfold fX8_append at hk
  obtain ⟨hob, hk⟩ := tm_th_is hk
  have hl : lv_has ls 2 [(0, .ref this), (1, .int (tw_I a1))] := hl
  have hL : tw_L G [] := fun q z => by cases z
  generalize hlc : ([] : List Loc) = locs at hL ⊢
  refine lv_iload_n hC.1 hC.2.1 dX8_append_0 rfl (lv_at hl 1 rfl) ?_
  refine lv_iconst (v := tw_I 1) hC.1 hC.2.1 dX8_append_1 rfl ?_
  refine tw_clt (tgt := 12) hC hk ga1 ((tw_rgL rfl)) dX8_append_2 (by decide) (fun _ hk => ?_) (fun _ hk => ?_)
  · refine lv_iconst (v := tw_I (-1)) hC.1 hC.2.1 dX8_append_12 rfl ?_
    cases hk
    exact tw_iret hC hR hL ((tw_rgL rfl)) rfl rfl dX8_append_13
  · refine lv_iload_n hC.1 hC.2.1 dX8_append_5 rfl (lv_at hl 1 rfl) ?_
    refine lv_sipush (v := tw_I 255) hC.1 hC.2.1 dX8_append_6 (by decide) ?_
    refine tw_cle (tgt := 14) hC hk ga1 ((tw_rgL rfl)) dX8_append_9 (by decide) (fun _ hk => ?_) (fun _ hk => ?_)
    · refine lv_iconst (v := tw_I (-1)) hC.1 hC.2.1 dX8_append_12 rfl ?_
      cases hk
      exact tw_iret hC hR hL ((tw_rgL rfl)) rfl rfl dX8_append_13
    · refine lv_aload_n hC.1 hC.2.1 dX8_append_14 rfl (lv_at hl 0 rfl) ?_
      refine tw_getR hC hR hk flX8_29 dX8_append_15 (fun r1 hk => ?_)
      refine tw_getR hC hR hk flX8_150 dX8_append_18 (fun r2 hk => ?_)
      refine kX6_length hC hR hL hk mlX8_154 ⟨by decide, by decide⟩ hl.1 (Nat.le_of_ble_eq_true rfl) ⟨Nat.zero_le _, Nat.zero_le _⟩ dX8_append_21 (fun v3 H locs hR hL gv3 hk => ?_)
      refine lv_sipush (v := tw_I 140) hC.1 hC.2.1 dX8_append_24 (by decide) ?_
      refine tw_clt (tgt := 33) hC hk gv3 ((tw_rgL rfl)) dX8_append_27 (by decide) (fun _ hk => ?_) (fun _ hk => ?_)
      · refine lv_aload_n hC.1 hC.2.1 dX8_append_33 rfl (lv_at hl 0 rfl) ?_
        refine tw_getR hC hR hk flX8_29 dX8_append_34 (fun r4 hk => ?_)
        refine tw_getR hC hR hk flX8_150 dX8_append_37 (fun r5 hk => ?_)
        refine lv_iload_n hC.1 hC.2.1 dX8_append_40 rfl (lv_at hl 1 rfl) ?_
        refine kX6_add hC hR hL hk ga1 mlX8_159 ⟨by decide, by decide⟩ hl.1 (Nat.le_of_ble_eq_true rfl) ⟨Nat.zero_le _, Nat.zero_le _⟩ dX8_append_41 (fun h6 H locs hR hL hk => ?_)
        refine lv_aload_n hC.1 hC.2.1 dX8_append_44 rfl (lv_at hl 0 rfl) ?_
        refine tw_getR hC hR hk flX8_29 dX8_append_45 (fun r7 hk => ?_)
        refine tw_getR hC hR hk flX8_150 dX8_append_48 (fun r8 hk => ?_)
        refine kX6_length hC hR hL hk mlX8_154 ⟨by decide, by decide⟩ hl.1 (Nat.le_of_ble_eq_true rfl) ⟨Nat.zero_le _, Nat.zero_le _⟩ dX8_append_51 (fun v9 H locs hR hL gv9 hk => ?_)
        cases hk
        exact tw_iret hC hR hL gv9 rfl rfl dX8_append_54
      · refine lv_bipush (v := tw_I (-3)) hC.1 hC.2.1 dX8_append_30 (by decide) ?_
        cases hk
        exact tw_iret hC hR hL ((tw_rgL rfl)) rfl rfl dX8_append_32
set_option maxRecDepth 100000 in
theorem kX8_append {l : Launch} {p : Program} {e : Env} {R : Room} {s : State} {m : MethodId} {args : Array Value} {below : List Frame} {meth : Method} {c : Code} {H : Heap} {locs : List Loc} {cells slots : Nat} {Q : State → Prop} {cc : ByteArray} {pc nL idx : Nat} {ls : Array Slot} {rest : List Value} {G : tw_G} {h : tm_H} {own : String} {ret : Option FieldType} {α : Type} {x : α} {sz : Nat} {this : Nat} {a1 : Int} (hC : tw_C G p s m args meth c own cc nL ret) (hR : tw_Rel G sz h H) (hL : tw_L G locs) {F : Int × tm_H → Option α} (hk : (fX8_append this a1 h).bind F = some x) (ga1 : tm_rg a1) (hl : tw_mL own idx yX8_append) (hRm : rmX8_append.frames + 1 ≤ R.frames ∧ 8 + (2 + 11) + rmX8_append.locals ≤ R.locals) (hsz : ls.size = nL) (hW : (rest.map fun v => v.category).sum ≤ 8) (hf : cells + 0 ≤ R.cells ∧ slots + 0 ≤ R.slots) (hdg : decode cc pc = .ok (.invokevirtual idx, 3)) (kk : ∀ (r : Int) (h1 : tm_H) (H1 : Heap) (locs1 : List Loc), tw_Rel G sz h1 H1 → tw_L G locs1 → tm_rg r → F (r, h1) = some x → W p l e R s m args below meth c H1 locs1 (cells + 0) (slots + 0) Q (F0 m (pc + 3) ls (.int (tw_I r) :: rest))) : W p l e R s m args below meth c H locs cells slots Q (F0 m pc ls (.int (tw_I a1) :: .ref this :: rest)) := by
  obtain ⟨r, hr, hF⟩ := Option.bind_eq_some_iff.mp hk
  have ob : ∀ r, fX8_append this a1 h = some r → tm_is h 8 this := fun r hr => by
    unfold fX8_append at hr
    exact (tm_th_is hr).1
  exact tw_backi (tw_runV hC hR (cX8_append_ok l G sz this a1 ga1 h r hr) (n := 1) (As := [.int (tw_I a1)]) ⟨tw_in_TB 532 (by decide +kernel) rfl, tw_in_TB 53 (by decide +kernel) rfl, by decide +kernel⟩ (tw_in_TB 530 (by decide +kernel) rfl) (tw_in_TB 531 (by decide +kernel) rfl) hl ⟨rfl, rfl⟩ hRm (ob r hr) (T := TX8) (N := 6) rfl rfl hsz rfl hW hdg hf) hL (fun H1 locs1 a b g => kk r.1 r.2 H1 locs1 a b g hF)
def rmX8_clearText : Room := { frames := 1, cells := 0, slots := 0, locals := 20 }
set_option maxRecDepth 100000 in
set_option maxHeartbeats 4000000 in
theorem cX8_clearText_ok (l : Launch) (G : tw_G) (sz : Nat) (this : Nat)  (h : tm_H) (out : Int × tm_H) (hk : fX8_clearText this h = some out) : Met l yX8_clearText (tw_WS yX8_clearText cX8_clearText 2 (some .int)) rmX8_clearText (va_Pc [.ref this] (tw_Pre G sz h)) (tw_Qi G sz out.1 out.2) 0 0 (tw_F G) := by
  refine tw_met (by decide +kernel) (Nat.le_of_ble_eq_true rfl) ?_
  intro p e s m args below meth c H ls hC hnm hR hl
  unfold fX8_clearText at hk
  obtain ⟨hob, hk⟩ := tm_th_is hk
  have hl : lv_has ls 2 [(0, .ref this)] := hl
  have hL : tw_L G [] := fun q z => by cases z
  generalize hlc : ([] : List Loc) = locs at hL ⊢
  refine lv_aload_n hC.1 hC.2.1 dX8_clearText_0 rfl (lv_at hl 0 rfl) ?_
  refine tw_getR hC hR hk flX8_29 dX8_clearText_1 (fun r1 hk => ?_)
  refine tw_getR hC hR hk flX8_150 dX8_clearText_4 (fun r2 hk => ?_)
  refine kX6_length hC hR hL hk mlX8_154 ⟨by decide, by decide⟩ hl.1 (Nat.le_of_ble_eq_true rfl) ⟨Nat.zero_le _, Nat.zero_le _⟩ dX8_clearText_7 (fun v3 H locs hR hL gv3 hk => ?_)
  refine lv_istore_n (lv' := [(1, .int (tw_I v3)), (0, .ref this)]) hC.1 hC.2.1 dX8_clearText_10 rfl hl (by decide) rfl (fun ls hl => ?_)
  refine lv_aload_n hC.1 hC.2.1 dX8_clearText_11 rfl (lv_at hl 1 rfl) ?_
  refine tw_getR hC hR hk flX8_29 dX8_clearText_12 (fun r4 hk => ?_)
  refine tw_getR hC hR hk flX8_150 dX8_clearText_15 (fun r5 hk => ?_)
  refine kX6_empty hC hR hL hk mlX8_161 ⟨by decide, by decide⟩ hl.1 (Nat.le_of_ble_eq_true rfl) ⟨Nat.zero_le _, Nat.zero_le _⟩ dX8_clearText_18 (fun h6 H locs hR hL hk => ?_)
  refine lv_iload_n hC.1 hC.2.1 dX8_clearText_21 rfl (lv_at hl 0 rfl) ?_
  cases hk
  exact tw_iret hC hR hL gv3 rfl rfl dX8_clearText_22
set_option maxRecDepth 100000 in
theorem kX8_clearText {l : Launch} {p : Program} {e : Env} {R : Room} {s : State} {m : MethodId} {args : Array Value} {below : List Frame} {meth : Method} {c : Code} {H : Heap} {locs : List Loc} {cells slots : Nat} {Q : State → Prop} {cc : ByteArray} {pc nL idx : Nat} {ls : Array Slot} {rest : List Value} {G : tw_G} {h : tm_H} {own : String} {ret : Option FieldType} {α : Type} {x : α} {sz : Nat} {this : Nat} (hC : tw_C G p s m args meth c own cc nL ret) (hR : tw_Rel G sz h H) (hL : tw_L G locs) {F : Int × tm_H → Option α} (hk : (fX8_clearText this h).bind F = some x)  (hl : tw_mL own idx yX8_clearText) (hRm : rmX8_clearText.frames + 1 ≤ R.frames ∧ 8 + (2 + 11) + rmX8_clearText.locals ≤ R.locals) (hsz : ls.size = nL) (hW : (rest.map fun v => v.category).sum ≤ 8) (hf : cells + 0 ≤ R.cells ∧ slots + 0 ≤ R.slots) (hdg : decode cc pc = .ok (.invokevirtual idx, 3)) (kk : ∀ (r : Int) (h1 : tm_H) (H1 : Heap) (locs1 : List Loc), tw_Rel G sz h1 H1 → tw_L G locs1 → tm_rg r → F (r, h1) = some x → W p l e R s m args below meth c H1 locs1 (cells + 0) (slots + 0) Q (F0 m (pc + 3) ls (.int (tw_I r) :: rest))) : W p l e R s m args below meth c H locs cells slots Q (F0 m pc ls (.ref this :: rest)) := by
  obtain ⟨r, hr, hF⟩ := Option.bind_eq_some_iff.mp hk
  have ob : ∀ r, fX8_clearText this h = some r → tm_is h 8 this := fun r hr => by
    unfold fX8_clearText at hr
    exact (tm_th_is hr).1
  exact tw_backi (tw_runV hC hR (cX8_clearText_ok l G sz this  h r hr) (n := 0) (As := []) ⟨tw_in_TB 544 (by decide +kernel) rfl, tw_in_TB 53 (by decide +kernel) rfl, by decide +kernel⟩ (tw_in_TB 542 (by decide +kernel) rfl) (tw_in_TB 543 (by decide +kernel) rfl) hl ⟨rfl, rfl⟩ hRm (ob r hr) (T := TX8) (N := 6) rfl rfl hsz rfl hW hdg hf) hL (fun H1 locs1 a b g => kk r.1 r.2 H1 locs1 a b g hF)
def rmX8_load : Room := { frames := 7, cells := 0, slots := 0, locals := 151 }
set_option maxRecDepth 100000 in
set_option maxHeartbeats 4000000 in
theorem cX8_load_ok (l : Launch) (G : tw_G) (sz : Nat) (this : Nat)  (h : tm_H) (out : Int × tm_H) (hk : fX8_load this h = some out) : Met l yX8_load (tw_WS yX8_load cX8_load 2 (some .int)) rmX8_load (va_Pc [.ref this] (tw_Pre G sz h)) (tw_Qi G sz out.1 out.2) 0 0 (tw_F G) := by
  refine tw_met (by decide +kernel) (Nat.le_of_ble_eq_true rfl) ?_
  intro p e s m args below meth c H ls hC hnm hR hl
  unfold fX8_load at hk
  obtain ⟨hob, hk⟩ := tm_th_is hk
  have hl : lv_has ls 2 [(0, .ref this)] := hl
  have hL : tw_L G [] := fun q z => by cases z
  generalize hlc : ([] : List Loc) = locs at hL ⊢
  refine lv_aload_n hC.1 hC.2.1 dX8_load_0 rfl (lv_at hl 0 rfl) ?_
  refine tw_getR hC hR hk flX8_29 dX8_load_1 (fun r1 hk => ?_)
  refine lv_aload_n hC.1 hC.2.1 dX8_load_4 rfl (lv_at hl 0 rfl) ?_
  refine tw_getR hC hR hk flX8_10 dX8_load_5 (fun r2 hk => ?_)
  refine kX2_read hC hR hL hk mlX8_164 ⟨by decide, by decide⟩ hl.1 (Nat.le_of_ble_eq_true rfl) ⟨Nat.zero_le _, Nat.zero_le _⟩ dX8_load_8 (fun v3 h3 H locs hR hL gv3 hk => ?_)
  refine lv_istore_n (lv' := [(1, .int (tw_I v3)), (0, .ref this)]) hC.1 hC.2.1 dX8_load_11 rfl hl (by decide) rfl (fun ls hl => ?_)
  refine lv_iload_n hC.1 hC.2.1 dX8_load_12 rfl (lv_at hl 0 rfl) ?_
  refine tw_zge (tgt := 18) hC hk gv3 dX8_load_13 (by decide) (fun _ hk => ?_) (fun _ hk => ?_)
  · refine lv_iload_n hC.1 hC.2.1 dX8_load_16 rfl (lv_at hl 0 rfl) ?_
    cases hk
    exact tw_iret hC hR hL gv3 rfl rfl dX8_load_17
  · refine lv_aload_n hC.1 hC.2.1 dX8_load_18 rfl (lv_at hl 1 rfl) ?_
    refine tw_getR hC hR hk flX8_22 dX8_load_19 (fun r4 hk => ?_)
    refine lv_aload_n hC.1 hC.2.1 dX8_load_22 rfl (lv_at hl 1 rfl) ?_
    refine tw_getR hC hR hk flX8_10 dX8_load_23 (fun r5 hk => ?_)
    refine kX1_keep hC hR hL hk mlX8_67 ⟨by decide, by decide⟩ hl.1 (Nat.le_of_ble_eq_true rfl) ⟨Nat.zero_le _, Nat.zero_le _⟩ dX8_load_26 (fun h6 H locs hR hL hk => ?_)
    refine lv_aload_n hC.1 hC.2.1 dX8_load_29 rfl (lv_at hl 1 rfl) ?_
    refine tw_getR hC hR hk flX8_10 dX8_load_30 (fun r7 hk => ?_)
    refine lv_aload_n hC.1 hC.2.1 dX8_load_33 rfl (lv_at hl 1 rfl) ?_
    refine tw_getR hC hR hk flX8_29 dX8_load_34 (fun r8 hk => ?_)
    refine tw_getR hC hR hk flX8_168 dX8_load_37 (fun r9 hk => ?_)
    refine kX4_copyFrom hC hR hL hk mlX8_169 ⟨by decide, by decide⟩ hl.1 (Nat.le_of_ble_eq_true rfl) ⟨Nat.zero_le _, Nat.zero_le _⟩ dX8_load_40 (fun h10 H locs hR hL hk => ?_)
    refine lv_aload_n hC.1 hC.2.1 dX8_load_43 rfl (lv_at hl 1 rfl) ?_
    refine tw_getR hC hR hk flX8_29 dX8_load_44 (fun r11 hk => ?_)
    refine tw_getR hC hR hk flX8_150 dX8_load_47 (fun r12 hk => ?_)
    refine kX6_empty hC hR hL hk mlX8_161 ⟨by decide, by decide⟩ hl.1 (Nat.le_of_ble_eq_true rfl) ⟨Nat.zero_le _, Nat.zero_le _⟩ dX8_load_50 (fun h13 H locs hR hL hk => ?_)
    refine lv_iload_n hC.1 hC.2.1 dX8_load_53 rfl (lv_at hl 0 rfl) ?_
    cases hk
    exact tw_iret hC hR hL gv3 rfl rfl dX8_load_54
set_option maxRecDepth 100000 in
theorem kX8_load {l : Launch} {p : Program} {e : Env} {R : Room} {s : State} {m : MethodId} {args : Array Value} {below : List Frame} {meth : Method} {c : Code} {H : Heap} {locs : List Loc} {cells slots : Nat} {Q : State → Prop} {cc : ByteArray} {pc nL idx : Nat} {ls : Array Slot} {rest : List Value} {G : tw_G} {h : tm_H} {own : String} {ret : Option FieldType} {α : Type} {x : α} {sz : Nat} {this : Nat} (hC : tw_C G p s m args meth c own cc nL ret) (hR : tw_Rel G sz h H) (hL : tw_L G locs) {F : Int × tm_H → Option α} (hk : (fX8_load this h).bind F = some x)  (hl : tw_mL own idx yX8_load) (hRm : rmX8_load.frames + 1 ≤ R.frames ∧ 8 + (2 + 11) + rmX8_load.locals ≤ R.locals) (hsz : ls.size = nL) (hW : (rest.map fun v => v.category).sum ≤ 8) (hf : cells + 0 ≤ R.cells ∧ slots + 0 ≤ R.slots) (hdg : decode cc pc = .ok (.invokevirtual idx, 3)) (kk : ∀ (r : Int) (h1 : tm_H) (H1 : Heap) (locs1 : List Loc), tw_Rel G sz h1 H1 → tw_L G locs1 → tm_rg r → F (r, h1) = some x → W p l e R s m args below meth c H1 locs1 (cells + 0) (slots + 0) Q (F0 m (pc + 3) ls (.int (tw_I r) :: rest))) : W p l e R s m args below meth c H locs cells slots Q (F0 m pc ls (.ref this :: rest)) := by
  obtain ⟨r, hr, hF⟩ := Option.bind_eq_some_iff.mp hk
  have ob : ∀ r, fX8_load this h = some r → tm_is h 8 this := fun r hr => by
    unfold fX8_load at hr
    exact (tm_th_is hr).1
  exact tw_backi (tw_runV hC hR (cX8_load_ok l G sz this  h r hr) (n := 0) (As := []) ⟨tw_in_TB 552 (by decide +kernel) rfl, tw_in_TB 53 (by decide +kernel) rfl, by decide +kernel⟩ (tw_in_TB 550 (by decide +kernel) rfl) (tw_in_TB 551 (by decide +kernel) rfl) hl ⟨rfl, rfl⟩ hRm (ob r hr) (T := TX8) (N := 6) rfl rfl hsz rfl hW hdg hf) hL (fun H1 locs1 a b g => kk r.1 r.2 H1 locs1 a b g hF)
def rmX8_count : Room := { frames := 6, cells := 0, slots := 0, locals := 139 }
set_option maxRecDepth 100000 in
set_option maxHeartbeats 4000000 in
theorem cX8_count_ok (l : Launch) (G : tw_G) (sz : Nat) (this : Nat) (a1 : Int) (ga1 : tm_rg a1) (h : tm_H) (out : Int × tm_H) (hk : fX8_count this a1 h = some out) : Met l yX8_count (tw_WS yX8_count cX8_count 2 (some .int)) rmX8_count (va_Pc [.ref this, .int (tw_I a1)] (tw_Pre G sz h)) (tw_Qi G sz out.1 out.2) 0 0 (tw_F G) := by
  refine tw_met (by decide +kernel) (Nat.le_of_ble_eq_true rfl) ?_
  intro p e s m args below meth c H ls hC hnm hR hl
  unfold fX8_count at hk
  obtain ⟨hob, hk⟩ := tm_th_is hk
  have hl : lv_has ls 2 [(0, .ref this), (1, .int (tw_I a1))] := hl
  have hL : tw_L G [] := fun q z => by cases z
  generalize hlc : ([] : List Loc) = locs at hL ⊢
  refine lv_iload_n hC.1 hC.2.1 dX8_count_0 rfl (lv_at hl 1 rfl) ?_
  by_cases q4 : a1 = 0
  · rw [if_pos q4] at hk
    refine tw_tsIn (tgt := 56) hC 0 q4 (tw_rgL rfl) dX8_count_1 (by decide) (by decide) rfl (by decide) ?_
    refine lv_aload_n hC.1 hC.2.1 dX8_count_56 rfl (lv_at hl 0 rfl) ?_
    refine tw_getR hC hR hk flX8_10 dX8_count_57 (fun r1 hk => ?_)
    refine tw_getR hC hR hk flX8_60 dX8_count_60 (fun r2 hk => ?_)
    refine kX7_size hC hR hL hk mlX8_172 ⟨by decide, by decide⟩ hl.1 (Nat.le_of_ble_eq_true rfl) ⟨Nat.zero_le _, Nat.zero_le _⟩ dX8_count_63 (fun v3 H locs hR hL gv3 hk => ?_)
    cases hk
    exact tw_iret hC hR hL gv3 rfl rfl dX8_count_66
  · rw [if_neg q4] at hk
    by_cases q8 : a1 = 1
    · rw [if_pos q8] at hk
      refine tw_tsIn (tgt := 67) hC 1 q8 (tw_rgL rfl) dX8_count_1 (by decide) (by decide) rfl (by decide) ?_
      refine lv_aload_n hC.1 hC.2.1 dX8_count_67 rfl (lv_at hl 0 rfl) ?_
      refine tw_getR hC hR hk flX8_10 dX8_count_68 (fun r5 hk => ?_)
      refine tw_getR hC hR hk flX8_46 dX8_count_71 (fun r6 hk => ?_)
      refine kX0_total hC hR hL hk mlX8_137 ⟨by decide, by decide⟩ hl.1 (Nat.le_of_ble_eq_true rfl) ⟨Nat.zero_le _, Nat.zero_le _⟩ dX8_count_74 (fun v7 H locs hR hL gv7 hk => ?_)
      cases hk
      exact tw_iret hC hR hL gv7 rfl rfl dX8_count_77
    · rw [if_neg q8] at hk
      by_cases q12 : a1 = 2
      · rw [if_pos q12] at hk
        refine tw_tsIn (tgt := 78) hC 2 q12 (tw_rgL rfl) dX8_count_1 (by decide) (by decide) rfl (by decide) ?_
        refine lv_aload_n hC.1 hC.2.1 dX8_count_78 rfl (lv_at hl 0 rfl) ?_
        refine tw_getR hC hR hk flX8_10 dX8_count_79 (fun r9 hk => ?_)
        refine tw_getR hC hR hk flX8_102 dX8_count_82 (fun r10 hk => ?_)
        refine kX5_size hC hR hL hk mlX8_106 ⟨by decide, by decide⟩ hl.1 (Nat.le_of_ble_eq_true rfl) ⟨Nat.zero_le _, Nat.zero_le _⟩ dX8_count_85 (fun v11 H locs hR hL gv11 hk => ?_)
        cases hk
        exact tw_iret hC hR hL gv11 rfl rfl dX8_count_88
      · rw [if_neg q12] at hk
        by_cases q16 : a1 = 3
        · rw [if_pos q16] at hk
          refine tw_tsIn (tgt := 89) hC 3 q16 (tw_rgL rfl) dX8_count_1 (by decide) (by decide) rfl (by decide) ?_
          refine lv_aload_n hC.1 hC.2.1 dX8_count_89 rfl (lv_at hl 0 rfl) ?_
          refine tw_getR hC hR hk flX8_10 dX8_count_90 (fun r13 hk => ?_)
          refine tw_getR hC hR hk flX8_102 dX8_count_93 (fun r14 hk => ?_)
          refine kX5_quietCount hC hR hL hk mlX8_173 ⟨by decide, by decide⟩ hl.1 (Nat.le_of_ble_eq_true rfl) ⟨Nat.zero_le _, Nat.zero_le _⟩ dX8_count_96 (fun v15 H locs hR hL gv15 hk => ?_)
          cases hk
          exact tw_iret hC hR hL gv15 rfl rfl dX8_count_99
        · rw [if_neg q16] at hk
          by_cases q19 : a1 = 4
          · rw [if_pos q19] at hk
            refine tw_tsIn (tgt := 100) hC 4 q19 (tw_rgL rfl) dX8_count_1 (by decide) (by decide) rfl (by decide) ?_
            refine lv_aload_n hC.1 hC.2.1 dX8_count_100 rfl (lv_at hl 0 rfl) ?_
            refine kX8_readNow hC hR hL hk mlX8_90 ⟨by decide, by decide⟩ hl.1 (Nat.le_of_ble_eq_true rfl) ⟨Nat.zero_le _, Nat.zero_le _⟩ dX8_count_101 (fun v17 h17 H locs hR hL hk => ?_)
            refine kX3_markCount hC hR hL hk mlX8_94 ⟨by decide, by decide⟩ hl.1 (Nat.le_of_ble_eq_true rfl) ⟨Nat.zero_le _, Nat.zero_le _⟩ dX8_count_104 (fun v18 H locs hR hL gv18 hk => ?_)
            cases hk
            exact tw_iret hC hR hL gv18 rfl rfl dX8_count_107
          · rw [if_neg q19] at hk
            by_cases q22 : a1 = 5
            · rw [if_pos q22] at hk
              refine tw_tsIn (tgt := 108) hC 5 q22 (tw_rgL rfl) dX8_count_1 (by decide) (by decide) rfl (by decide) ?_
              refine lv_aload_n hC.1 hC.2.1 dX8_count_108 rfl (lv_at hl 0 rfl) ?_
              refine kX8_readNow hC hR hL hk mlX8_90 ⟨by decide, by decide⟩ hl.1 (Nat.le_of_ble_eq_true rfl) ⟨Nat.zero_le _, Nat.zero_le _⟩ dX8_count_109 (fun v20 h20 H locs hR hL hk => ?_)
              refine kX3_readingCount hC hR hL hk mlX8_176 ⟨by decide, by decide⟩ hl.1 (Nat.le_of_ble_eq_true rfl) ⟨Nat.zero_le _, Nat.zero_le _⟩ dX8_count_112 (fun v21 H locs hR hL gv21 hk => ?_)
              cases hk
              exact tw_iret hC hR hL gv21 rfl rfl dX8_count_115
            · rw [if_neg q22] at hk
              by_cases q26 : a1 = 6
              · rw [if_pos q26] at hk
                refine tw_tsIn (tgt := 116) hC 6 q26 (tw_rgL rfl) dX8_count_1 (by decide) (by decide) rfl (by decide) ?_
                refine lv_aload_n hC.1 hC.2.1 dX8_count_116 rfl (lv_at hl 0 rfl) ?_
                refine tw_getR hC hR hk flX8_10 dX8_count_117 (fun r23 hk => ?_)
                refine tw_getR hC hR hk flX8_60 dX8_count_120 (fun r24 hk => ?_)
                refine kX7_formCount hC hR hL hk mlX8_179 ⟨by decide, by decide⟩ hl.1 (Nat.le_of_ble_eq_true rfl) ⟨Nat.zero_le _, Nat.zero_le _⟩ dX8_count_123 (fun v25 H locs hR hL gv25 hk => ?_)
                cases hk
                exact tw_iret hC hR hL gv25 rfl rfl dX8_count_126
              · rw [if_neg q26] at hk
                by_cases q29 : a1 = 7
                · rw [if_pos q29] at hk
                  refine tw_tsIn (tgt := 127) hC 7 q29 (tw_rgL rfl) dX8_count_1 (by decide) (by decide) rfl (by decide) ?_
                  refine lv_aload_n hC.1 hC.2.1 dX8_count_127 rfl (lv_at hl 0 rfl) ?_
                  refine tw_getR hC hR hk flX8_10 dX8_count_128 (fun r27 hk => ?_)
                  refine kX4_takenCount hC hR hL hk mlX8_182 ⟨by decide, by decide⟩ hl.1 (Nat.le_of_ble_eq_true rfl) ⟨Nat.zero_le _, Nat.zero_le _⟩ dX8_count_131 (fun v28 H locs hR hL gv28 hk => ?_)
                  cases hk
                  exact tw_iret hC hR hL gv28 rfl rfl dX8_count_134
                · rw [if_neg q29] at hk
                  by_cases q32 : a1 = 8
                  · rw [if_pos q32] at hk
                    refine tw_tsIn (tgt := 135) hC 8 q32 (tw_rgL rfl) dX8_count_1 (by decide) (by decide) rfl (by decide) ?_
                    refine lv_aload_n hC.1 hC.2.1 dX8_count_135 rfl (lv_at hl 0 rfl) ?_
                    refine tw_getR hC hR hk flX8_22 dX8_count_136 (fun r30 hk => ?_)
                    refine kX1_size hC hR hL hk mlX8_146 ⟨by decide, by decide⟩ hl.1 (Nat.le_of_ble_eq_true rfl) ⟨Nat.zero_le _, Nat.zero_le _⟩ dX8_count_139 (fun v31 H locs hR hL gv31 hk => ?_)
                    cases hk
                    exact tw_iret hC hR hL gv31 rfl rfl dX8_count_142
                  · rw [if_neg q32] at hk
                    by_cases q36 : a1 = 9
                    · rw [if_pos q36] at hk
                      refine tw_tsIn (tgt := 143) hC 9 q36 (tw_rgL rfl) dX8_count_1 (by decide) (by decide) rfl (by decide) ?_
                      refine lv_aload_n hC.1 hC.2.1 dX8_count_143 rfl (lv_at hl 0 rfl) ?_
                      refine tw_getR hC hR hk flX8_29 dX8_count_144 (fun r33 hk => ?_)
                      refine tw_getR hC hR hk flX8_150 dX8_count_147 (fun r34 hk => ?_)
                      refine kX6_length hC hR hL hk mlX8_154 ⟨by decide, by decide⟩ hl.1 (Nat.le_of_ble_eq_true rfl) ⟨Nat.zero_le _, Nat.zero_le _⟩ dX8_count_150 (fun v35 H locs hR hL gv35 hk => ?_)
                      cases hk
                      exact tw_iret hC hR hL gv35 rfl rfl dX8_count_153
                    · rw [if_neg q36] at hk
                      refine tw_tsOut (tgt := 154) hC ga1 dX8_count_1 (by omega) (by decide) ?_
                      refine lv_iconst (v := tw_I (-1)) hC.1 hC.2.1 dX8_count_154 rfl ?_
                      cases hk
                      exact tw_iret hC hR hL ((tw_rgL rfl)) rfl rfl dX8_count_155
set_option maxRecDepth 100000 in
theorem kX8_count {l : Launch} {p : Program} {e : Env} {R : Room} {s : State} {m : MethodId} {args : Array Value} {below : List Frame} {meth : Method} {c : Code} {H : Heap} {locs : List Loc} {cells slots : Nat} {Q : State → Prop} {cc : ByteArray} {pc nL idx : Nat} {ls : Array Slot} {rest : List Value} {G : tw_G} {h : tm_H} {own : String} {ret : Option FieldType} {α : Type} {x : α} {sz : Nat} {this : Nat} {a1 : Int} (hC : tw_C G p s m args meth c own cc nL ret) (hR : tw_Rel G sz h H) (hL : tw_L G locs) {F : Int × tm_H → Option α} (hk : (fX8_count this a1 h).bind F = some x) (ga1 : tm_rg a1) (hl : tw_mL own idx yX8_count) (hRm : rmX8_count.frames + 1 ≤ R.frames ∧ 8 + (2 + 11) + rmX8_count.locals ≤ R.locals) (hsz : ls.size = nL) (hW : (rest.map fun v => v.category).sum ≤ 8) (hf : cells + 0 ≤ R.cells ∧ slots + 0 ≤ R.slots) (hdg : decode cc pc = .ok (.invokevirtual idx, 3)) (kk : ∀ (r : Int) (h1 : tm_H) (H1 : Heap) (locs1 : List Loc), tw_Rel G sz h1 H1 → tw_L G locs1 → tm_rg r → F (r, h1) = some x → W p l e R s m args below meth c H1 locs1 (cells + 0) (slots + 0) Q (F0 m (pc + 3) ls (.int (tw_I r) :: rest))) : W p l e R s m args below meth c H locs cells slots Q (F0 m pc ls (.int (tw_I a1) :: .ref this :: rest)) := by
  obtain ⟨r, hr, hF⟩ := Option.bind_eq_some_iff.mp hk
  have ob : ∀ r, fX8_count this a1 h = some r → tm_is h 8 this := fun r hr => by
    unfold fX8_count at hr
    exact (tm_th_is hr).1
  exact tw_backi (tw_runV hC hR (cX8_count_ok l G sz this a1 ga1 h r hr) (n := 1) (As := [.int (tw_I a1)]) ⟨tw_in_TB 674 (by decide +kernel) rfl, tw_in_TB 53 (by decide +kernel) rfl, by decide +kernel⟩ (tw_in_TB 672 (by decide +kernel) rfl) (tw_in_TB 673 (by decide +kernel) rfl) hl ⟨rfl, rfl⟩ hRm (ob r hr) (T := TX8) (N := 6) rfl rfl hsz rfl hW hdg hf) hL (fun H1 locs1 a b g => kk r.1 r.2 H1 locs1 a b g hF)
def rmX8_letter : Room := { frames := 2, cells := 0, slots := 0, locals := 44 }
set_option maxRecDepth 100000 in
set_option maxHeartbeats 4000000 in
theorem cX8_letter_ok (l : Launch) (G : tw_G) (sz : Nat) (this : Nat) (a1 : Int) (a2 : Int) (ga1 : tm_rg a1) (ga2 : tm_rg a2) (h : tm_H) (out : Int) (hk : fX8_letter this a1 a2 h = some out) : Met l yX8_letter (tw_WS yX8_letter cX8_letter 3 (some .int)) rmX8_letter (va_Pc [.ref this, .int (tw_I a1), .int (tw_I a2)] (tw_Pre G sz h)) (tw_Qi G sz out h) 0 0 (tw_F G) := by
  refine tw_met (by decide +kernel) (Nat.le_of_ble_eq_true rfl) ?_
  intro p e s m args below meth c H ls hC hnm hR hl
  unfold fX8_letter at hk
  obtain ⟨hob, hk⟩ := tm_th_is hk
  have hl : lv_has ls 3 [(0, .ref this), (1, .int (tw_I a1)), (2, .int (tw_I a2))] := hl
  have hL : tw_L G [] := fun q z => by cases z
  generalize hlc : ([] : List Loc) = locs at hL ⊢
  refine lv_aload_n hC.1 hC.2.1 dX8_letter_0 rfl (lv_at hl 0 rfl) ?_
  refine tw_getR hC hR hk flX8_10 dX8_letter_1 (fun r1 hk => ?_)
  refine tw_getR hC hR hk flX8_60 dX8_letter_4 (fun r2 hk => ?_)
  refine lv_iload_n hC.1 hC.2.1 dX8_letter_7 rfl (lv_at hl 1 rfl) ?_
  refine kX7_has hC hR hL hk ga1 mlX8_64 ⟨by decide, by decide⟩ hl.1 (Nat.le_of_ble_eq_true rfl) ⟨Nat.zero_le _, Nat.zero_le _⟩ dX8_letter_8 (fun v3 H locs hR hL gv3 hk => ?_)
  refine tw_zeq (tgt := 18) hC hk gv3 dX8_letter_11 (by decide) (fun _ hk => ?_) (fun _ hk => ?_)
  · refine lv_iconst (v := tw_I (-1)) hC.1 hC.2.1 dX8_letter_18 rfl ?_
    cases hk
    exact tw_iret hC hR hL ((tw_rgL rfl)) rfl rfl dX8_letter_19
  · refine lv_iload_n hC.1 hC.2.1 dX8_letter_14 rfl (lv_at hl 2 rfl) ?_
    refine tw_zge (tgt := 20) hC hk ga2 dX8_letter_15 (by decide) (fun _ hk => ?_) (fun _ hk => ?_)
    · refine lv_iconst (v := tw_I (-1)) hC.1 hC.2.1 dX8_letter_18 rfl ?_
      cases hk
      exact tw_iret hC hR hL ((tw_rgL rfl)) rfl rfl dX8_letter_19
    · refine lv_aload_n hC.1 hC.2.1 dX8_letter_20 rfl (lv_at hl 0 rfl) ?_
      refine tw_getR hC hR hk flX8_10 dX8_letter_21 (fun r4 hk => ?_)
      refine tw_getR hC hR hk flX8_60 dX8_letter_24 (fun r5 hk => ?_)
      refine lv_iload_n hC.1 hC.2.1 dX8_letter_27 rfl (lv_at hl 1 rfl) ?_
      refine lv_iload_n hC.1 hC.2.1 dX8_letter_28 rfl (lv_at hl 2 rfl) ?_
      refine kX7_letterAt hC hR hL hk ga1 ga2 mlX8_185 ⟨by decide, by decide⟩ hl.1 (Nat.le_of_ble_eq_true rfl) ⟨Nat.zero_le _, Nat.zero_le _⟩ dX8_letter_29 (fun v6 H locs hR hL gv6 hk => ?_)
      cases hk
      exact tw_iret hC hR hL gv6 rfl rfl dX8_letter_32
set_option maxRecDepth 100000 in
theorem kX8_letter {l : Launch} {p : Program} {e : Env} {R : Room} {s : State} {m : MethodId} {args : Array Value} {below : List Frame} {meth : Method} {c : Code} {H : Heap} {locs : List Loc} {cells slots : Nat} {Q : State → Prop} {cc : ByteArray} {pc nL idx : Nat} {ls : Array Slot} {rest : List Value} {G : tw_G} {h : tm_H} {own : String} {ret : Option FieldType} {α : Type} {x : α} {sz : Nat} {this : Nat} {a1 : Int} {a2 : Int} (hC : tw_C G p s m args meth c own cc nL ret) (hR : tw_Rel G sz h H) (hL : tw_L G locs) {F : Int → Option α} (hk : (fX8_letter this a1 a2 h).bind F = some x) (ga1 : tm_rg a1) (ga2 : tm_rg a2) (hl : tw_mL own idx yX8_letter) (hRm : rmX8_letter.frames + 1 ≤ R.frames ∧ 8 + (3 + 11) + rmX8_letter.locals ≤ R.locals) (hsz : ls.size = nL) (hW : (rest.map fun v => v.category).sum ≤ 8) (hf : cells + 0 ≤ R.cells ∧ slots + 0 ≤ R.slots) (hdg : decode cc pc = .ok (.invokevirtual idx, 3)) (kk : ∀ (r : Int) (H1 : Heap) (locs1 : List Loc), tw_Rel G sz h H1 → tw_L G locs1 → tm_rg r → F r = some x → W p l e R s m args below meth c H1 locs1 (cells + 0) (slots + 0) Q (F0 m (pc + 3) ls (.int (tw_I r) :: rest))) : W p l e R s m args below meth c H locs cells slots Q (F0 m pc ls (.int (tw_I a2) :: .int (tw_I a1) :: .ref this :: rest)) := by
  obtain ⟨r, hr, hF⟩ := Option.bind_eq_some_iff.mp hk
  have ob : ∀ r, fX8_letter this a1 a2 h = some r → tm_is h 8 this := fun r hr => by
    unfold fX8_letter at hr
    exact (tm_th_is hr).1
  exact tw_backi (tw_runV hC hR (cX8_letter_ok l G sz this a1 a2 ga1 ga2 h r hr) (n := 2) (As := [.int (tw_I a1), .int (tw_I a2)]) ⟨tw_in_TB 698 (by decide +kernel) rfl, tw_in_TB 53 (by decide +kernel) rfl, by decide +kernel⟩ (tw_in_TB 696 (by decide +kernel) rfl) (tw_in_TB 697 (by decide +kernel) rfl) hl ⟨rfl, rfl⟩ hRm (ob r hr) (T := TX8) (N := 6) rfl rfl hsz rfl hW hdg hf) hL (fun H1 locs1 a b g => kk r H1 locs1 a b g hF)
def rmX8_base : Room := { frames := 1, cells := 0, slots := 0, locals := 21 }
set_option maxRecDepth 100000 in
set_option maxHeartbeats 4000000 in
theorem cX8_base_ok (l : Launch) (G : tw_G) (sz : Nat) (this : Nat) (a1 : Int) (ga1 : tm_rg a1) (h : tm_H) (out : Int) (hk : fX8_base this a1 h = some out) : Met l yX8_base (tw_WS yX8_base cX8_base 2 (some .int)) rmX8_base (va_Pc [.ref this, .int (tw_I a1)] (tw_Pre G sz h)) (tw_Qi G sz out h) 0 0 (tw_F G) := by
  refine tw_met (by decide +kernel) (Nat.le_of_ble_eq_true rfl) ?_
  intro p e s m args below meth c H ls hC hnm hR hl
  unfold fX8_base at hk
  obtain ⟨hob, hk⟩ := tm_th_is hk
  have hl : lv_has ls 2 [(0, .ref this), (1, .int (tw_I a1))] := hl
  have hL : tw_L G [] := fun q z => by cases z
  generalize hlc : ([] : List Loc) = locs at hL ⊢
  refine lv_aload_n hC.1 hC.2.1 dX8_base_0 rfl (lv_at hl 0 rfl) ?_
  refine tw_getR hC hR hk flX8_10 dX8_base_1 (fun r1 hk => ?_)
  refine tw_getR hC hR hk flX8_60 dX8_base_4 (fun r2 hk => ?_)
  refine lv_iload_n hC.1 hC.2.1 dX8_base_7 rfl (lv_at hl 1 rfl) ?_
  refine kX7_has hC hR hL hk ga1 mlX8_64 ⟨by decide, by decide⟩ hl.1 (Nat.le_of_ble_eq_true rfl) ⟨Nat.zero_le _, Nat.zero_le _⟩ dX8_base_8 (fun v3 H locs hR hL gv3 hk => ?_)
  refine tw_zeq (tgt := 28) hC hk gv3 dX8_base_11 (by decide) (fun _ hk => ?_) (fun _ hk => ?_)
  · refine lv_iconst (v := tw_I (-1)) hC.1 hC.2.1 dX8_base_28 rfl ?_
    cases hk
    exact tw_iret hC hR hL ((tw_rgL rfl)) rfl rfl dX8_base_29
  · refine lv_aload_n hC.1 hC.2.1 dX8_base_14 rfl (lv_at hl 0 rfl) ?_
    refine tw_getR hC hR hk flX8_10 dX8_base_15 (fun r4 hk => ?_)
    refine tw_getR hC hR hk flX8_60 dX8_base_18 (fun r5 hk => ?_)
    refine lv_iload_n hC.1 hC.2.1 dX8_base_21 rfl (lv_at hl 1 rfl) ?_
    refine kX7_baseOf hC hR hL hk ga1 mlX8_125 ⟨by decide, by decide⟩ hl.1 (Nat.le_of_ble_eq_true rfl) ⟨Nat.zero_le _, Nat.zero_le _⟩ dX8_base_22 (fun v6 H locs hR hL gv6 hk => ?_)
    refine lv_goto (tgt := 29) hC.1 hC.2.1 dX8_base_25 (by decide) ?_
    cases hk
    exact tw_iret hC hR hL gv6 rfl rfl dX8_base_29
set_option maxRecDepth 100000 in
theorem kX8_base {l : Launch} {p : Program} {e : Env} {R : Room} {s : State} {m : MethodId} {args : Array Value} {below : List Frame} {meth : Method} {c : Code} {H : Heap} {locs : List Loc} {cells slots : Nat} {Q : State → Prop} {cc : ByteArray} {pc nL idx : Nat} {ls : Array Slot} {rest : List Value} {G : tw_G} {h : tm_H} {own : String} {ret : Option FieldType} {α : Type} {x : α} {sz : Nat} {this : Nat} {a1 : Int} (hC : tw_C G p s m args meth c own cc nL ret) (hR : tw_Rel G sz h H) (hL : tw_L G locs) {F : Int → Option α} (hk : (fX8_base this a1 h).bind F = some x) (ga1 : tm_rg a1) (hl : tw_mL own idx yX8_base) (hRm : rmX8_base.frames + 1 ≤ R.frames ∧ 8 + (2 + 11) + rmX8_base.locals ≤ R.locals) (hsz : ls.size = nL) (hW : (rest.map fun v => v.category).sum ≤ 8) (hf : cells + 0 ≤ R.cells ∧ slots + 0 ≤ R.slots) (hdg : decode cc pc = .ok (.invokevirtual idx, 3)) (kk : ∀ (r : Int) (H1 : Heap) (locs1 : List Loc), tw_Rel G sz h H1 → tw_L G locs1 → tm_rg r → F r = some x → W p l e R s m args below meth c H1 locs1 (cells + 0) (slots + 0) Q (F0 m (pc + 3) ls (.int (tw_I r) :: rest))) : W p l e R s m args below meth c H locs cells slots Q (F0 m pc ls (.int (tw_I a1) :: .ref this :: rest)) := by
  obtain ⟨r, hr, hF⟩ := Option.bind_eq_some_iff.mp hk
  have ob : ∀ r, fX8_base this a1 h = some r → tm_is h 8 this := fun r hr => by
    unfold fX8_base at hr
    exact (tm_th_is hr).1
  exact tw_backi (tw_runV hC hR (cX8_base_ok l G sz this a1 ga1 h r hr) (n := 1) (As := [.int (tw_I a1)]) ⟨tw_in_TB 706 (by decide +kernel) rfl, tw_in_TB 53 (by decide +kernel) rfl, by decide +kernel⟩ (tw_in_TB 704 (by decide +kernel) rfl) (tw_in_TB 705 (by decide +kernel) rfl) hl ⟨rfl, rfl⟩ hRm (ob r hr) (T := TX8) (N := 6) rfl rfl hsz rfl hW hdg hf) hL (fun H1 locs1 a b g => kk r H1 locs1 a b g hF)
def rmX8_place : Room := { frames := 6, cells := 0, slots := 0, locals := 139 }
set_option maxRecDepth 100000 in
set_option maxHeartbeats 4000000 in
theorem cX8_place_ok (l : Launch) (G : tw_G) (sz : Nat) (this : Nat) (a1 : Int) (a2 : Int) (a3 : Int) (ga1 : tm_rg a1) (ga2 : tm_rg a2) (ga3 : tm_rg a3) (h : tm_H) (out : Int × tm_H) (hk : fX8_place this a1 a2 a3 h = some out) : Met l yX8_place (tw_WS yX8_place cX8_place 4 (some .int)) rmX8_place (va_Pc [.ref this, .int (tw_I a1), .int (tw_I a2), .int (tw_I a3)] (tw_Pre G sz h)) (tw_Qi G sz out.1 out.2) 0 0 (tw_F G) := by
  refine tw_met (by decide +kernel) (Nat.le_of_ble_eq_true rfl) ?_
  intro p e s m args below meth c H ls hC hnm hR hl
  unfold fX8_place at hk
  obtain ⟨hob, hk⟩ := tm_th_is hk
  have hl : lv_has ls 4 [(0, .ref this), (1, .int (tw_I a1)), (2, .int (tw_I a2)), (3, .int (tw_I a3))] := hl
  have hL : tw_L G [] := fun q z => by cases z
  generalize hlc : ([] : List Loc) = locs at hL ⊢
  refine lv_aload_n hC.1 hC.2.1 dX8_place_0 rfl (lv_at hl 0 rfl) ?_
  refine tw_getR hC hR hk flX8_10 dX8_place_1 (fun r1 hk => ?_)
  refine tw_getR hC hR hk flX8_46 dX8_place_4 (fun r2 hk => ?_)
  refine lv_iload_n hC.1 hC.2.1 dX8_place_7 rfl (lv_at hl 1 rfl) ?_
  refine kX0_has hC hR hL hk ga1 mlX8_50 ⟨by decide, by decide⟩ hl.1 (Nat.le_of_ble_eq_true rfl) ⟨Nat.zero_le _, Nat.zero_le _⟩ dX8_place_8 (fun v3 H locs hR hL gv3 hk => ?_)
  refine tw_zeq (tgt := 27) hC hk gv3 dX8_place_11 (by decide) (fun _ hk => ?_) (fun _ hk => ?_)
  · refine lv_iconst (v := tw_I (-1)) hC.1 hC.2.1 dX8_place_27 rfl ?_
    cases hk
    exact tw_iret hC hR hL ((tw_rgL rfl)) rfl rfl dX8_place_28
  · refine lv_iload_n hC.1 hC.2.1 dX8_place_14 rfl (lv_at hl 2 rfl) ?_
    refine tw_zlt (tgt := 27) hC hk ga2 dX8_place_15 (by decide) (fun _ hk => ?_) (fun _ hk => ?_)
    · refine lv_iconst (v := tw_I (-1)) hC.1 hC.2.1 dX8_place_27 rfl ?_
      cases hk
      exact tw_iret hC hR hL ((tw_rgL rfl)) rfl rfl dX8_place_28
    · refine lv_iload_n hC.1 hC.2.1 dX8_place_18 rfl (lv_at hl 3 rfl) ?_
      refine tw_zlt (tgt := 27) hC hk ga3 dX8_place_19 (by decide) (fun _ hk => ?_) (fun _ hk => ?_)
      · refine lv_iconst (v := tw_I (-1)) hC.1 hC.2.1 dX8_place_27 rfl ?_
        cases hk
        exact tw_iret hC hR hL ((tw_rgL rfl)) rfl rfl dX8_place_28
      · refine lv_iload_n hC.1 hC.2.1 dX8_place_22 rfl (lv_at hl 3 rfl) ?_
        refine lv_iconst (v := tw_I 3) hC.1 hC.2.1 dX8_place_23 rfl ?_
        refine tw_cle (tgt := 29) hC hk ga3 ((tw_rgL rfl)) dX8_place_24 (by decide) (fun _ hk => ?_) (fun _ hk => ?_)
        · refine lv_iconst (v := tw_I (-1)) hC.1 hC.2.1 dX8_place_27 rfl ?_
          cases hk
          exact tw_iret hC hR hL ((tw_rgL rfl)) rfl rfl dX8_place_28
        · refine lv_aload_n hC.1 hC.2.1 dX8_place_29 rfl (lv_at hl 0 rfl) ?_
          refine tw_getR hC hR hk flX8_10 dX8_place_30 (fun r4 hk => ?_)
          refine tw_getR hC hR hk flX8_46 dX8_place_33 (fun r5 hk => ?_)
          refine lv_iload_n hC.1 hC.2.1 dX8_place_36 rfl (lv_at hl 1 rfl) ?_
          refine lv_iload_n hC.1 hC.2.1 dX8_place_37 rfl (lv_at hl 2 rfl) ?_
          refine kX0_hasPlace hC hR hL hk ga1 ga2 mlX8_75 ⟨by decide, by decide⟩ hl.1 (Nat.le_of_ble_eq_true rfl) ⟨Nat.zero_le _, Nat.zero_le _⟩ dX8_place_38 (fun v6 H locs hR hL gv6 hk => ?_)
          refine tw_zne (tgt := 47) hC hk gv6 dX8_place_41 (by decide) (fun _ hk => ?_) (fun _ hk => ?_)
          · refine lv_bipush (v := tw_I (-99)) hC.1 hC.2.1 dX8_place_44 (by decide) ?_
            cases hk
            exact tw_iret hC hR hL ((tw_rgL rfl)) rfl rfl dX8_place_46
          · refine lv_iload_n hC.1 hC.2.1 dX8_place_47 rfl (lv_at hl 3 rfl) ?_
            by_cases q10 : a3 = 0
            · rw [if_pos q10] at hk
              refine tw_tsIn (tgt := 76) hC 0 q10 (tw_rgL rfl) dX8_place_48 (by decide) (by decide) rfl (by decide) ?_
              refine lv_aload_n hC.1 hC.2.1 dX8_place_76 rfl (lv_at hl 0 rfl) ?_
              refine tw_getR hC hR hk flX8_10 dX8_place_77 (fun r7 hk => ?_)
              refine tw_getR hC hR hk flX8_46 dX8_place_80 (fun r8 hk => ?_)
              refine lv_iload_n hC.1 hC.2.1 dX8_place_83 rfl (lv_at hl 1 rfl) ?_
              refine lv_iload_n hC.1 hC.2.1 dX8_place_84 rfl (lv_at hl 2 rfl) ?_
              refine kX0_wordAt hC hR hL hk ga1 ga2 mlX8_188 ⟨by decide, by decide⟩ hl.1 (Nat.le_of_ble_eq_true rfl) ⟨Nat.zero_le _, Nat.zero_le _⟩ dX8_place_85 (fun v9 H locs hR hL gv9 hk => ?_)
              cases hk
              exact tw_iret hC hR hL gv9 rfl rfl dX8_place_88
            · rw [if_neg q10] at hk
              by_cases q13 : a3 = 1
              · rw [if_pos q13] at hk
                refine tw_tsIn (tgt := 89) hC 1 q13 (tw_rgL rfl) dX8_place_48 (by decide) (by decide) rfl (by decide) ?_
                refine lv_aload_n hC.1 hC.2.1 dX8_place_89 rfl (lv_at hl 0 rfl) ?_
                refine kX8_readNow hC hR hL hk mlX8_90 ⟨by decide, by decide⟩ hl.1 (Nat.le_of_ble_eq_true rfl) ⟨Nat.zero_le _, Nat.zero_le _⟩ dX8_place_90 (fun v11 h11 H locs hR hL hk => ?_)
                refine lv_iload_n hC.1 hC.2.1 dX8_place_93 rfl (lv_at hl 1 rfl) ?_
                refine lv_iload_n hC.1 hC.2.1 dX8_place_94 rfl (lv_at hl 2 rfl) ?_
                refine kX3_termOver hC hR hL hk ga1 ga2 mlX8_191 ⟨by decide, by decide⟩ hl.1 (Nat.le_of_ble_eq_true rfl) ⟨Nat.zero_le _, Nat.zero_le _⟩ dX8_place_95 (fun v12 H locs hR hL gv12 hk => ?_)
                cases hk
                exact tw_iret hC hR hL gv12 rfl rfl dX8_place_98
              · rw [if_neg q13] at hk
                by_cases q16 : a3 = 2
                · rw [if_pos q16] at hk
                  refine tw_tsIn (tgt := 99) hC 2 q16 (tw_rgL rfl) dX8_place_48 (by decide) (by decide) rfl (by decide) ?_
                  refine lv_aload_n hC.1 hC.2.1 dX8_place_99 rfl (lv_at hl 0 rfl) ?_
                  refine kX8_readNow hC hR hL hk mlX8_90 ⟨by decide, by decide⟩ hl.1 (Nat.le_of_ble_eq_true rfl) ⟨Nat.zero_le _, Nat.zero_le _⟩ dX8_place_100 (fun v14 h14 H locs hR hL hk => ?_)
                  refine lv_iload_n hC.1 hC.2.1 dX8_place_103 rfl (lv_at hl 1 rfl) ?_
                  refine lv_iload_n hC.1 hC.2.1 dX8_place_104 rfl (lv_at hl 2 rfl) ?_
                  refine kX3_stepOver hC hR hL hk ga1 ga2 mlX8_194 ⟨by decide, by decide⟩ hl.1 (Nat.le_of_ble_eq_true rfl) ⟨Nat.zero_le _, Nat.zero_le _⟩ dX8_place_105 (fun v15 H locs hR hL gv15 hk => ?_)
                  cases hk
                  exact tw_iret hC hR hL gv15 rfl rfl dX8_place_108
                · rw [if_neg q16] at hk
                  refine tw_tsOut (tgt := 109) hC ga3 dX8_place_48 (by omega) (by decide) ?_
                  refine lv_aload_n hC.1 hC.2.1 dX8_place_109 rfl (lv_at hl 0 rfl) ?_
                  refine kX8_readNow hC hR hL hk mlX8_90 ⟨by decide, by decide⟩ hl.1 (Nat.le_of_ble_eq_true rfl) ⟨Nat.zero_le _, Nat.zero_le _⟩ dX8_place_110 (fun v17 h17 H locs hR hL hk => ?_)
                  refine lv_iload_n hC.1 hC.2.1 dX8_place_113 rfl (lv_at hl 1 rfl) ?_
                  refine lv_iload_n hC.1 hC.2.1 dX8_place_114 rfl (lv_at hl 2 rfl) ?_
                  refine kX3_hasMark hC hR hL hk ga1 ga2 mlX8_197 ⟨by decide, by decide⟩ hl.1 (Nat.le_of_ble_eq_true rfl) ⟨Nat.zero_le _, Nat.zero_le _⟩ dX8_place_115 (fun v18 H locs hR hL gv18 hk => ?_)
                  refine tw_zeq (tgt := 125) hC hk gv18 dX8_place_118 (by decide) (fun _ hk => ?_) (fun _ hk => ?_)
                  · refine lv_iconst (v := tw_I 0) hC.1 hC.2.1 dX8_place_125 rfl ?_
                    cases hk
                    exact tw_iret hC hR hL ((tw_rgL rfl)) rfl rfl dX8_place_126
                  · refine lv_iconst (v := tw_I 1) hC.1 hC.2.1 dX8_place_121 rfl ?_
                    refine lv_goto (tgt := 126) hC.1 hC.2.1 dX8_place_122 (by decide) ?_
                    cases hk
                    exact tw_iret hC hR hL ((tw_rgL rfl)) rfl rfl dX8_place_126
set_option maxRecDepth 100000 in
theorem kX8_place {l : Launch} {p : Program} {e : Env} {R : Room} {s : State} {m : MethodId} {args : Array Value} {below : List Frame} {meth : Method} {c : Code} {H : Heap} {locs : List Loc} {cells slots : Nat} {Q : State → Prop} {cc : ByteArray} {pc nL idx : Nat} {ls : Array Slot} {rest : List Value} {G : tw_G} {h : tm_H} {own : String} {ret : Option FieldType} {α : Type} {x : α} {sz : Nat} {this : Nat} {a1 : Int} {a2 : Int} {a3 : Int} (hC : tw_C G p s m args meth c own cc nL ret) (hR : tw_Rel G sz h H) (hL : tw_L G locs) {F : Int × tm_H → Option α} (hk : (fX8_place this a1 a2 a3 h).bind F = some x) (ga1 : tm_rg a1) (ga2 : tm_rg a2) (ga3 : tm_rg a3) (hl : tw_mL own idx yX8_place) (hRm : rmX8_place.frames + 1 ≤ R.frames ∧ 8 + (4 + 11) + rmX8_place.locals ≤ R.locals) (hsz : ls.size = nL) (hW : (rest.map fun v => v.category).sum ≤ 8) (hf : cells + 0 ≤ R.cells ∧ slots + 0 ≤ R.slots) (hdg : decode cc pc = .ok (.invokevirtual idx, 3)) (kk : ∀ (r : Int) (h1 : tm_H) (H1 : Heap) (locs1 : List Loc), tw_Rel G sz h1 H1 → tw_L G locs1 → tm_rg r → F (r, h1) = some x → W p l e R s m args below meth c H1 locs1 (cells + 0) (slots + 0) Q (F0 m (pc + 3) ls (.int (tw_I r) :: rest))) : W p l e R s m args below meth c H locs cells slots Q (F0 m pc ls (.int (tw_I a3) :: .int (tw_I a2) :: .int (tw_I a1) :: .ref this :: rest)) := by
  obtain ⟨r, hr, hF⟩ := Option.bind_eq_some_iff.mp hk
  have ob : ∀ r, fX8_place this a1 a2 a3 h = some r → tm_is h 8 this := fun r hr => by
    unfold fX8_place at hr
    exact (tm_th_is hr).1
  exact tw_backi (tw_runV hC hR (cX8_place_ok l G sz this a1 a2 a3 ga1 ga2 ga3 h r hr) (n := 3) (As := [.int (tw_I a1), .int (tw_I a2), .int (tw_I a3)]) ⟨tw_in_TB 710 (by decide +kernel) rfl, tw_in_TB 53 (by decide +kernel) rfl, by decide +kernel⟩ (tw_in_TB 708 (by decide +kernel) rfl) (tw_in_TB 709 (by decide +kernel) rfl) hl ⟨rfl, rfl⟩ hRm (ob r hr) (T := TX8) (N := 6) rfl rfl hsz rfl hW hdg hf) hL (fun H1 locs1 a b g => kk r.1 r.2 H1 locs1 a b g hF)
def rmX8_term : Room := { frames := 6, cells := 0, slots := 0, locals := 139 }
set_option maxRecDepth 100000 in
set_option maxHeartbeats 4000000 in
theorem cX8_term_ok (l : Launch) (G : tw_G) (sz : Nat) (this : Nat) (a1 : Int) (a2 : Int) (ga1 : tm_rg a1) (ga2 : tm_rg a2) (h : tm_H) (out : Int × tm_H) (hk : fX8_term this a1 a2 h = some out) : Met l yX8_term (tw_WS yX8_term cX8_term 3 (some .int)) rmX8_term (va_Pc [.ref this, .int (tw_I a1), .int (tw_I a2)] (tw_Pre G sz h)) (tw_Qi G sz out.1 out.2) 0 0 (tw_F G) := by
  refine tw_met (by decide +kernel) (Nat.le_of_ble_eq_true rfl) ?_
  intro p e s m args below meth c H ls hC hnm hR hl
  unfold fX8_term at hk
  obtain ⟨hob, hk⟩ := tm_th_is hk
  have hl : lv_has ls 3 [(0, .ref this), (1, .int (tw_I a1)), (2, .int (tw_I a2))] := hl
  have hL : tw_L G [] := fun q z => by cases z
  generalize hlc : ([] : List Loc) = locs at hL ⊢
  refine lv_aload_n hC.1 hC.2.1 dX8_term_0 rfl (lv_at hl 0 rfl) ?_
  refine tw_getR hC hR hk flX8_10 dX8_term_1 (fun r1 hk => ?_)
  refine tw_getR hC hR hk flX8_102 dX8_term_4 (fun r2 hk => ?_)
  refine lv_iload_n hC.1 hC.2.1 dX8_term_7 rfl (lv_at hl 1 rfl) ?_
  refine kX5_has hC hR hL hk ga1 mlX8_113 ⟨by decide, by decide⟩ hl.1 (Nat.le_of_ble_eq_true rfl) ⟨Nat.zero_le _, Nat.zero_le _⟩ dX8_term_8 (fun v3 H locs hR hL gv3 hk => ?_)
  refine tw_zne (tgt := 16) hC hk gv3 dX8_term_11 (by decide) (fun _ hk => ?_) (fun _ hk => ?_)
  · refine lv_iconst (v := tw_I (-1)) hC.1 hC.2.1 dX8_term_14 rfl ?_
    cases hk
    exact tw_iret hC hR hL ((tw_rgL rfl)) rfl rfl dX8_term_15
  · refine lv_iload_n hC.1 hC.2.1 dX8_term_16 rfl (lv_at hl 2 rfl) ?_
    by_cases q7 : a2 = 0
    · rw [if_pos q7] at hk
      refine tw_tsIn (tgt := 68) hC 0 q7 (tw_rgL rfl) dX8_term_17 (by decide) (by decide) rfl (by decide) ?_
      refine lv_aload_n hC.1 hC.2.1 dX8_term_68 rfl (lv_at hl 0 rfl) ?_
      refine tw_getR hC hR hk flX8_10 dX8_term_69 (fun r4 hk => ?_)
      refine tw_getR hC hR hk flX8_102 dX8_term_72 (fun r5 hk => ?_)
      refine lv_iload_n hC.1 hC.2.1 dX8_term_75 rfl (lv_at hl 1 rfl) ?_
      refine kX5_lengthOf hC hR hL hk ga1 mlX8_200 ⟨by decide, by decide⟩ hl.1 (Nat.le_of_ble_eq_true rfl) ⟨Nat.zero_le _, Nat.zero_le _⟩ dX8_term_76 (fun v6 H locs hR hL gv6 hk => ?_)
      cases hk
      exact tw_iret hC hR hL gv6 rfl rfl dX8_term_79
    · rw [if_neg q7] at hk
      by_cases q11 : a2 = 1
      · rw [if_pos q11] at hk
        refine tw_tsIn (tgt := 80) hC 1 q11 (tw_rgL rfl) dX8_term_17 (by decide) (by decide) rfl (by decide) ?_
        refine lv_aload_n hC.1 hC.2.1 dX8_term_80 rfl (lv_at hl 0 rfl) ?_
        refine tw_getR hC hR hk flX8_10 dX8_term_81 (fun r8 hk => ?_)
        refine tw_getR hC hR hk flX8_102 dX8_term_84 (fun r9 hk => ?_)
        refine lv_iload_n hC.1 hC.2.1 dX8_term_87 rfl (lv_at hl 1 rfl) ?_
        refine lv_iload_n hC.1 hC.2.1 dX8_term_88 rfl (lv_at hl 2 rfl) ?_
        refine lv_iconst (v := tw_I 1) hC.1 hC.2.1 dX8_term_89 rfl ?_
        refine tw_isub hC dX8_term_90 ?_
        refine kX5_wordAt hC hR hL hk ga1 ((tm_wr_rg _)) mlX8_201 ⟨by decide, by decide⟩ hl.1 (Nat.le_of_ble_eq_true rfl) ⟨Nat.zero_le _, Nat.zero_le _⟩ dX8_term_91 (fun v10 H locs hR hL gv10 hk => ?_)
        cases hk
        exact tw_iret hC hR hL gv10 rfl rfl dX8_term_94
      · rw [if_neg q11] at hk
        by_cases q15 : a2 = 2
        · rw [if_pos q15] at hk
          refine tw_tsIn (tgt := 80) hC 2 q15 (tw_rgL rfl) dX8_term_17 (by decide) (by decide) rfl (by decide) ?_
          refine lv_aload_n hC.1 hC.2.1 dX8_term_80 rfl (lv_at hl 0 rfl) ?_
          refine tw_getR hC hR hk flX8_10 dX8_term_81 (fun r12 hk => ?_)
          refine tw_getR hC hR hk flX8_102 dX8_term_84 (fun r13 hk => ?_)
          refine lv_iload_n hC.1 hC.2.1 dX8_term_87 rfl (lv_at hl 1 rfl) ?_
          refine lv_iload_n hC.1 hC.2.1 dX8_term_88 rfl (lv_at hl 2 rfl) ?_
          refine lv_iconst (v := tw_I 1) hC.1 hC.2.1 dX8_term_89 rfl ?_
          refine tw_isub hC dX8_term_90 ?_
          refine kX5_wordAt hC hR hL hk ga1 ((tm_wr_rg _)) mlX8_201 ⟨by decide, by decide⟩ hl.1 (Nat.le_of_ble_eq_true rfl) ⟨Nat.zero_le _, Nat.zero_le _⟩ dX8_term_91 (fun v14 H locs hR hL gv14 hk => ?_)
          cases hk
          exact tw_iret hC hR hL gv14 rfl rfl dX8_term_94
        · rw [if_neg q15] at hk
          by_cases q19 : a2 = 3
          · rw [if_pos q19] at hk
            refine tw_tsIn (tgt := 80) hC 3 q19 (tw_rgL rfl) dX8_term_17 (by decide) (by decide) rfl (by decide) ?_
            refine lv_aload_n hC.1 hC.2.1 dX8_term_80 rfl (lv_at hl 0 rfl) ?_
            refine tw_getR hC hR hk flX8_10 dX8_term_81 (fun r16 hk => ?_)
            refine tw_getR hC hR hk flX8_102 dX8_term_84 (fun r17 hk => ?_)
            refine lv_iload_n hC.1 hC.2.1 dX8_term_87 rfl (lv_at hl 1 rfl) ?_
            refine lv_iload_n hC.1 hC.2.1 dX8_term_88 rfl (lv_at hl 2 rfl) ?_
            refine lv_iconst (v := tw_I 1) hC.1 hC.2.1 dX8_term_89 rfl ?_
            refine tw_isub hC dX8_term_90 ?_
            refine kX5_wordAt hC hR hL hk ga1 ((tm_wr_rg _)) mlX8_201 ⟨by decide, by decide⟩ hl.1 (Nat.le_of_ble_eq_true rfl) ⟨Nat.zero_le _, Nat.zero_le _⟩ dX8_term_91 (fun v18 H locs hR hL gv18 hk => ?_)
            cases hk
            exact tw_iret hC hR hL gv18 rfl rfl dX8_term_94
          · rw [if_neg q19] at hk
            by_cases q23 : a2 = 4
            · rw [if_pos q23] at hk
              refine tw_tsIn (tgt := 80) hC 4 q23 (tw_rgL rfl) dX8_term_17 (by decide) (by decide) rfl (by decide) ?_
              refine lv_aload_n hC.1 hC.2.1 dX8_term_80 rfl (lv_at hl 0 rfl) ?_
              refine tw_getR hC hR hk flX8_10 dX8_term_81 (fun r20 hk => ?_)
              refine tw_getR hC hR hk flX8_102 dX8_term_84 (fun r21 hk => ?_)
              refine lv_iload_n hC.1 hC.2.1 dX8_term_87 rfl (lv_at hl 1 rfl) ?_
              refine lv_iload_n hC.1 hC.2.1 dX8_term_88 rfl (lv_at hl 2 rfl) ?_
              refine lv_iconst (v := tw_I 1) hC.1 hC.2.1 dX8_term_89 rfl ?_
              refine tw_isub hC dX8_term_90 ?_
              refine kX5_wordAt hC hR hL hk ga1 ((tm_wr_rg _)) mlX8_201 ⟨by decide, by decide⟩ hl.1 (Nat.le_of_ble_eq_true rfl) ⟨Nat.zero_le _, Nat.zero_le _⟩ dX8_term_91 (fun v22 H locs hR hL gv22 hk => ?_)
              cases hk
              exact tw_iret hC hR hL gv22 rfl rfl dX8_term_94
            · rw [if_neg q23] at hk
              by_cases q27 : a2 = 5
              · rw [if_pos q27] at hk
                refine tw_tsIn (tgt := 95) hC 5 q27 (tw_rgL rfl) dX8_term_17 (by decide) (by decide) rfl (by decide) ?_
                refine lv_aload_n hC.1 hC.2.1 dX8_term_95 rfl (lv_at hl 0 rfl) ?_
                refine tw_getR hC hR hk flX8_10 dX8_term_96 (fun r24 hk => ?_)
                refine tw_getR hC hR hk flX8_102 dX8_term_99 (fun r25 hk => ?_)
                refine lv_iload_n hC.1 hC.2.1 dX8_term_102 rfl (lv_at hl 1 rfl) ?_
                refine kX5_isQuiet hC hR hL hk ga1 mlX8_202 ⟨by decide, by decide⟩ hl.1 (Nat.le_of_ble_eq_true rfl) ⟨Nat.zero_le _, Nat.zero_le _⟩ dX8_term_103 (fun v26 H locs hR hL gv26 hk => ?_)
                refine tw_zeq (tgt := 113) hC hk gv26 dX8_term_106 (by decide) (fun _ hk => ?_) (fun _ hk => ?_)
                · refine lv_iconst (v := tw_I 0) hC.1 hC.2.1 dX8_term_113 rfl ?_
                  cases hk
                  exact tw_iret hC hR hL ((tw_rgL rfl)) rfl rfl dX8_term_114
                · refine lv_iconst (v := tw_I 1) hC.1 hC.2.1 dX8_term_109 rfl ?_
                  refine lv_goto (tgt := 114) hC.1 hC.2.1 dX8_term_110 (by decide) ?_
                  cases hk
                  exact tw_iret hC hR hL ((tw_rgL rfl)) rfl rfl dX8_term_114
              · rw [if_neg q27] at hk
                by_cases q30 : a2 = 6
                · rw [if_pos q30] at hk
                  refine tw_tsIn (tgt := 115) hC 6 q30 (tw_rgL rfl) dX8_term_17 (by decide) (by decide) rfl (by decide) ?_
                  refine lv_aload_n hC.1 hC.2.1 dX8_term_115 rfl (lv_at hl 0 rfl) ?_
                  refine kX8_readNow hC hR hL hk mlX8_90 ⟨by decide, by decide⟩ hl.1 (Nat.le_of_ble_eq_true rfl) ⟨Nat.zero_le _, Nat.zero_le _⟩ dX8_term_116 (fun v28 h28 H locs hR hL hk => ?_)
                  refine lv_iload_n hC.1 hC.2.1 dX8_term_119 rfl (lv_at hl 1 rfl) ?_
                  refine kX3_timesRead hC hR hL hk ga1 mlX8_205 ⟨by decide, by decide⟩ hl.1 (Nat.le_of_ble_eq_true rfl) ⟨Nat.zero_le _, Nat.zero_le _⟩ dX8_term_120 (fun v29 H locs hR hL gv29 hk => ?_)
                  cases hk
                  exact tw_iret hC hR hL gv29 rfl rfl dX8_term_123
                · rw [if_neg q30] at hk
                  by_cases q33 : a2 = 7
                  · rw [if_pos q33] at hk
                    refine tw_tsIn (tgt := 124) hC 7 q33 (tw_rgL rfl) dX8_term_17 (by decide) (by decide) rfl (by decide) ?_
                    refine lv_aload_n hC.1 hC.2.1 dX8_term_124 rfl (lv_at hl 0 rfl) ?_
                    refine tw_getR hC hR hk flX8_10 dX8_term_125 (fun r31 hk => ?_)
                    refine lv_iload_n hC.1 hC.2.1 dX8_term_128 rfl (lv_at hl 1 rfl) ?_
                    refine kX4_occurrences hC hR hL hk ga1 mlX8_208 ⟨by decide, by decide⟩ hl.1 (Nat.le_of_ble_eq_true rfl) ⟨Nat.zero_le _, Nat.zero_le _⟩ dX8_term_129 (fun v32 H locs hR hL gv32 hk => ?_)
                    cases hk
                    exact tw_iret hC hR hL gv32 rfl rfl dX8_term_132
                  · rw [if_neg q33] at hk
                    by_cases q36 : a2 = 8
                    · rw [if_pos q36] at hk
                      refine tw_tsIn (tgt := 133) hC 8 q36 (tw_rgL rfl) dX8_term_17 (by decide) (by decide) rfl (by decide) ?_
                      refine lv_aload_n hC.1 hC.2.1 dX8_term_133 rfl (lv_at hl 0 rfl) ?_
                      refine kX8_readNow hC hR hL hk mlX8_90 ⟨by decide, by decide⟩ hl.1 (Nat.le_of_ble_eq_true rfl) ⟨Nat.zero_le _, Nat.zero_le _⟩ dX8_term_134 (fun v34 h34 H locs hR hL hk => ?_)
                      refine lv_iload_n hC.1 hC.2.1 dX8_term_137 rfl (lv_at hl 1 rfl) ?_
                      refine kX3_marksOf hC hR hL hk ga1 mlX8_211 ⟨by decide, by decide⟩ hl.1 (Nat.le_of_ble_eq_true rfl) ⟨Nat.zero_le _, Nat.zero_le _⟩ dX8_term_138 (fun v35 H locs hR hL gv35 hk => ?_)
                      cases hk
                      exact tw_iret hC hR hL gv35 rfl rfl dX8_term_141
                    · rw [if_neg q36] at hk
                      refine tw_tsOut (tgt := 142) hC ga2 dX8_term_17 (by omega) (by decide) ?_
                      refine lv_iconst (v := tw_I (-1)) hC.1 hC.2.1 dX8_term_142 rfl ?_
                      cases hk
                      exact tw_iret hC hR hL ((tw_rgL rfl)) rfl rfl dX8_term_143
set_option maxRecDepth 100000 in
theorem kX8_term {l : Launch} {p : Program} {e : Env} {R : Room} {s : State} {m : MethodId} {args : Array Value} {below : List Frame} {meth : Method} {c : Code} {H : Heap} {locs : List Loc} {cells slots : Nat} {Q : State → Prop} {cc : ByteArray} {pc nL idx : Nat} {ls : Array Slot} {rest : List Value} {G : tw_G} {h : tm_H} {own : String} {ret : Option FieldType} {α : Type} {x : α} {sz : Nat} {this : Nat} {a1 : Int} {a2 : Int} (hC : tw_C G p s m args meth c own cc nL ret) (hR : tw_Rel G sz h H) (hL : tw_L G locs) {F : Int × tm_H → Option α} (hk : (fX8_term this a1 a2 h).bind F = some x) (ga1 : tm_rg a1) (ga2 : tm_rg a2) (hl : tw_mL own idx yX8_term) (hRm : rmX8_term.frames + 1 ≤ R.frames ∧ 8 + (3 + 11) + rmX8_term.locals ≤ R.locals) (hsz : ls.size = nL) (hW : (rest.map fun v => v.category).sum ≤ 8) (hf : cells + 0 ≤ R.cells ∧ slots + 0 ≤ R.slots) (hdg : decode cc pc = .ok (.invokevirtual idx, 3)) (kk : ∀ (r : Int) (h1 : tm_H) (H1 : Heap) (locs1 : List Loc), tw_Rel G sz h1 H1 → tw_L G locs1 → tm_rg r → F (r, h1) = some x → W p l e R s m args below meth c H1 locs1 (cells + 0) (slots + 0) Q (F0 m (pc + 3) ls (.int (tw_I r) :: rest))) : W p l e R s m args below meth c H locs cells slots Q (F0 m pc ls (.int (tw_I a2) :: .int (tw_I a1) :: .ref this :: rest)) := by
  obtain ⟨r, hr, hF⟩ := Option.bind_eq_some_iff.mp hk
  have ob : ∀ r, fX8_term this a1 a2 h = some r → tm_is h 8 this := fun r hr => by
    unfold fX8_term at hr
    exact (tm_th_is hr).1
  exact tw_backi (tw_runV hC hR (cX8_term_ok l G sz this a1 a2 ga1 ga2 h r hr) (n := 2) (As := [.int (tw_I a1), .int (tw_I a2)]) ⟨tw_in_TB 730 (by decide +kernel) rfl, tw_in_TB 53 (by decide +kernel) rfl, by decide +kernel⟩ (tw_in_TB 728 (by decide +kernel) rfl) (tw_in_TB 729 (by decide +kernel) rfl) hl ⟨rfl, rfl⟩ hRm (ob r hr) (T := TX8) (N := 6) rfl rfl hsz rfl hW hdg hf) hL (fun H1 locs1 a b g => kk r.1 r.2 H1 locs1 a b g hF)
def rmX8_firstUse : Room := { frames := 6, cells := 0, slots := 0, locals := 139 }
set_option maxRecDepth 100000 in
set_option maxHeartbeats 4000000 in
theorem cX8_firstUse_ok (l : Launch) (G : tw_G) (sz : Nat) (this : Nat) (a1 : Int) (a2 : Int) (ga1 : tm_rg a1) (ga2 : tm_rg a2) (h : tm_H) (out : Int × tm_H) (hk : fX8_firstUse this a1 a2 h = some out) : Met l yX8_firstUse (tw_WS yX8_firstUse cX8_firstUse 3 (some .int)) rmX8_firstUse (va_Pc [.ref this, .int (tw_I a1), .int (tw_I a2)] (tw_Pre G sz h)) (tw_Qi G sz out.1 out.2) 0 0 (tw_F G) := by
  refine tw_met (by decide +kernel) (Nat.le_of_ble_eq_true rfl) ?_
  intro p e s m args below meth c H ls hC hnm hR hl
  unfold fX8_firstUse at hk
  obtain ⟨hob, hk⟩ := tm_th_is hk
  have hl : lv_has ls 3 [(0, .ref this), (1, .int (tw_I a1)), (2, .int (tw_I a2))] := hl
  have hL : tw_L G [] := fun q z => by cases z
  generalize hlc : ([] : List Loc) = locs at hL ⊢
  refine lv_aload_n hC.1 hC.2.1 dX8_firstUse_0 rfl (lv_at hl 0 rfl) ?_
  refine tw_getR hC hR hk flX8_10 dX8_firstUse_1 (fun r1 hk => ?_)
  refine tw_getR hC hR hk flX8_102 dX8_firstUse_4 (fun r2 hk => ?_)
  refine lv_iload_n hC.1 hC.2.1 dX8_firstUse_7 rfl (lv_at hl 1 rfl) ?_
  refine kX5_has hC hR hL hk ga1 mlX8_113 ⟨by decide, by decide⟩ hl.1 (Nat.le_of_ble_eq_true rfl) ⟨Nat.zero_le _, Nat.zero_le _⟩ dX8_firstUse_8 (fun v3 H locs hR hL gv3 hk => ?_)
  refine tw_zeq (tgt := 28) hC hk gv3 dX8_firstUse_11 (by decide) (fun _ hk => ?_) (fun _ hk => ?_)
  · refine lv_iconst (v := tw_I (-1)) hC.1 hC.2.1 dX8_firstUse_28 rfl ?_
    cases hk
    exact tw_iret hC hR hL ((tw_rgL rfl)) rfl rfl dX8_firstUse_29
  · refine lv_aload_n hC.1 hC.2.1 dX8_firstUse_14 rfl (lv_at hl 0 rfl) ?_
    refine tw_getR hC hR hk flX8_10 dX8_firstUse_15 (fun r4 hk => ?_)
    refine tw_getR hC hR hk flX8_46 dX8_firstUse_18 (fun r5 hk => ?_)
    refine lv_iload_n hC.1 hC.2.1 dX8_firstUse_21 rfl (lv_at hl 2 rfl) ?_
    refine kX0_has hC hR hL hk ga2 mlX8_50 ⟨by decide, by decide⟩ hl.1 (Nat.le_of_ble_eq_true rfl) ⟨Nat.zero_le _, Nat.zero_le _⟩ dX8_firstUse_22 (fun v6 H locs hR hL gv6 hk => ?_)
    refine tw_zne (tgt := 30) hC hk gv6 dX8_firstUse_25 (by decide) (fun _ hk => ?_) (fun _ hk => ?_)
    · refine lv_iconst (v := tw_I (-1)) hC.1 hC.2.1 dX8_firstUse_28 rfl ?_
      cases hk
      exact tw_iret hC hR hL ((tw_rgL rfl)) rfl rfl dX8_firstUse_29
    · refine lv_aload_n hC.1 hC.2.1 dX8_firstUse_30 rfl (lv_at hl 0 rfl) ?_
      refine kX8_readNow hC hR hL hk mlX8_90 ⟨by decide, by decide⟩ hl.1 (Nat.le_of_ble_eq_true rfl) ⟨Nat.zero_le _, Nat.zero_le _⟩ dX8_firstUse_31 (fun v7 h7 H locs hR hL hk => ?_)
      refine lv_iload_n hC.1 hC.2.1 dX8_firstUse_34 rfl (lv_at hl 1 rfl) ?_
      refine lv_iload_n hC.1 hC.2.1 dX8_firstUse_35 rfl (lv_at hl 2 rfl) ?_
      refine kX3_firstPlace hC hR hL hk ga1 ga2 mlX8_214 ⟨by decide, by decide⟩ hl.1 (Nat.le_of_ble_eq_true rfl) ⟨Nat.zero_le _, Nat.zero_le _⟩ dX8_firstUse_36 (fun v8 H locs hR hL gv8 hk => ?_)
      cases hk
      exact tw_iret hC hR hL gv8 rfl rfl dX8_firstUse_39
set_option maxRecDepth 100000 in
theorem kX8_firstUse {l : Launch} {p : Program} {e : Env} {R : Room} {s : State} {m : MethodId} {args : Array Value} {below : List Frame} {meth : Method} {c : Code} {H : Heap} {locs : List Loc} {cells slots : Nat} {Q : State → Prop} {cc : ByteArray} {pc nL idx : Nat} {ls : Array Slot} {rest : List Value} {G : tw_G} {h : tm_H} {own : String} {ret : Option FieldType} {α : Type} {x : α} {sz : Nat} {this : Nat} {a1 : Int} {a2 : Int} (hC : tw_C G p s m args meth c own cc nL ret) (hR : tw_Rel G sz h H) (hL : tw_L G locs) {F : Int × tm_H → Option α} (hk : (fX8_firstUse this a1 a2 h).bind F = some x) (ga1 : tm_rg a1) (ga2 : tm_rg a2) (hl : tw_mL own idx yX8_firstUse) (hRm : rmX8_firstUse.frames + 1 ≤ R.frames ∧ 8 + (3 + 11) + rmX8_firstUse.locals ≤ R.locals) (hsz : ls.size = nL) (hW : (rest.map fun v => v.category).sum ≤ 8) (hf : cells + 0 ≤ R.cells ∧ slots + 0 ≤ R.slots) (hdg : decode cc pc = .ok (.invokevirtual idx, 3)) (kk : ∀ (r : Int) (h1 : tm_H) (H1 : Heap) (locs1 : List Loc), tw_Rel G sz h1 H1 → tw_L G locs1 → tm_rg r → F (r, h1) = some x → W p l e R s m args below meth c H1 locs1 (cells + 0) (slots + 0) Q (F0 m (pc + 3) ls (.int (tw_I r) :: rest))) : W p l e R s m args below meth c H locs cells slots Q (F0 m pc ls (.int (tw_I a2) :: .int (tw_I a1) :: .ref this :: rest)) := by
  obtain ⟨r, hr, hF⟩ := Option.bind_eq_some_iff.mp hk
  have ob : ∀ r, fX8_firstUse this a1 a2 h = some r → tm_is h 8 this := fun r hr => by
    unfold fX8_firstUse at hr
    exact (tm_th_is hr).1
  exact tw_backi (tw_runV hC hR (cX8_firstUse_ok l G sz this a1 a2 ga1 ga2 h r hr) (n := 2) (As := [.int (tw_I a1), .int (tw_I a2)]) ⟨tw_in_TB 749 (by decide +kernel) rfl, tw_in_TB 53 (by decide +kernel) rfl, by decide +kernel⟩ (tw_in_TB 747 (by decide +kernel) rfl) (tw_in_TB 748 (by decide +kernel) rfl) hl ⟨rfl, rfl⟩ hRm (ob r hr) (T := TX8) (N := 6) rfl rfl hsz rfl hW hdg hf) hL (fun H1 locs1 a b g => kk r.1 r.2 H1 locs1 a b g hF)
def rmX8_mark : Room := { frames := 6, cells := 0, slots := 0, locals := 139 }
set_option maxRecDepth 100000 in
set_option maxHeartbeats 4000000 in
theorem cX8_mark_ok (l : Launch) (G : tw_G) (sz : Nat) (this : Nat) (a1 : Int) (a2 : Int) (ga1 : tm_rg a1) (ga2 : tm_rg a2) (h : tm_H) (out : Int × tm_H) (hk : fX8_mark this a1 a2 h = some out) : Met l yX8_mark (tw_WS yX8_mark cX8_mark 3 (some .int)) rmX8_mark (va_Pc [.ref this, .int (tw_I a1), .int (tw_I a2)] (tw_Pre G sz h)) (tw_Qi G sz out.1 out.2) 0 0 (tw_F G) := by
  refine tw_met (by decide +kernel) (Nat.le_of_ble_eq_true rfl) ?_
  intro p e s m args below meth c H ls hC hnm hR hl
  unfold fX8_mark at hk
  obtain ⟨hob, hk⟩ := tm_th_is hk
  have hl : lv_has ls 3 [(0, .ref this), (1, .int (tw_I a1)), (2, .int (tw_I a2))] := hl
  have hL : tw_L G [] := fun q z => by cases z
  generalize hlc : ([] : List Loc) = locs at hL ⊢
  refine lv_iload_n hC.1 hC.2.1 dX8_mark_0 rfl (lv_at hl 1 rfl) ?_
  refine tw_zlt (tgt := 13) hC hk ga1 dX8_mark_1 (by decide) (fun _ hk => ?_) (fun _ hk => ?_)
  · refine lv_iconst (v := tw_I (-1)) hC.1 hC.2.1 dX8_mark_13 rfl ?_
    cases hk
    exact tw_iret hC hR hL ((tw_rgL rfl)) rfl rfl dX8_mark_14
  · refine lv_iload_n hC.1 hC.2.1 dX8_mark_4 rfl (lv_at hl 2 rfl) ?_
    refine tw_zlt (tgt := 13) hC hk ga2 dX8_mark_5 (by decide) (fun _ hk => ?_) (fun _ hk => ?_)
    · refine lv_iconst (v := tw_I (-1)) hC.1 hC.2.1 dX8_mark_13 rfl ?_
      cases hk
      exact tw_iret hC hR hL ((tw_rgL rfl)) rfl rfl dX8_mark_14
    · refine lv_iload_n hC.1 hC.2.1 dX8_mark_8 rfl (lv_at hl 2 rfl) ?_
      refine lv_iconst (v := tw_I 2) hC.1 hC.2.1 dX8_mark_9 rfl ?_
      refine tw_cle (tgt := 15) hC hk ga2 ((tw_rgL rfl)) dX8_mark_10 (by decide) (fun _ hk => ?_) (fun _ hk => ?_)
      · refine lv_iconst (v := tw_I (-1)) hC.1 hC.2.1 dX8_mark_13 rfl ?_
        cases hk
        exact tw_iret hC hR hL ((tw_rgL rfl)) rfl rfl dX8_mark_14
      · refine lv_aload_n hC.1 hC.2.1 dX8_mark_15 rfl (lv_at hl 0 rfl) ?_
        refine kX8_readNow hC hR hL hk mlX8_90 ⟨by decide, by decide⟩ hl.1 (Nat.le_of_ble_eq_true rfl) ⟨Nat.zero_le _, Nat.zero_le _⟩ dX8_mark_16 (fun v1 h1 H locs hR hL hk => ?_)
        refine lv_iload_n hC.1 hC.2.1 dX8_mark_19 rfl (lv_at hl 1 rfl) ?_
        refine lv_iload_n hC.1 hC.2.1 dX8_mark_20 rfl (lv_at hl 2 rfl) ?_
        refine kX3_markPart hC hR hL hk ga1 ga2 mlX8_217 ⟨by decide, by decide⟩ hl.1 (Nat.le_of_ble_eq_true rfl) ⟨Nat.zero_le _, Nat.zero_le _⟩ dX8_mark_21 (fun v2 H locs hR hL gv2 hk => ?_)
        cases hk
        exact tw_iret hC hR hL gv2 rfl rfl dX8_mark_24
set_option maxRecDepth 100000 in
theorem kX8_mark {l : Launch} {p : Program} {e : Env} {R : Room} {s : State} {m : MethodId} {args : Array Value} {below : List Frame} {meth : Method} {c : Code} {H : Heap} {locs : List Loc} {cells slots : Nat} {Q : State → Prop} {cc : ByteArray} {pc nL idx : Nat} {ls : Array Slot} {rest : List Value} {G : tw_G} {h : tm_H} {own : String} {ret : Option FieldType} {α : Type} {x : α} {sz : Nat} {this : Nat} {a1 : Int} {a2 : Int} (hC : tw_C G p s m args meth c own cc nL ret) (hR : tw_Rel G sz h H) (hL : tw_L G locs) {F : Int × tm_H → Option α} (hk : (fX8_mark this a1 a2 h).bind F = some x) (ga1 : tm_rg a1) (ga2 : tm_rg a2) (hl : tw_mL own idx yX8_mark) (hRm : rmX8_mark.frames + 1 ≤ R.frames ∧ 8 + (3 + 11) + rmX8_mark.locals ≤ R.locals) (hsz : ls.size = nL) (hW : (rest.map fun v => v.category).sum ≤ 8) (hf : cells + 0 ≤ R.cells ∧ slots + 0 ≤ R.slots) (hdg : decode cc pc = .ok (.invokevirtual idx, 3)) (kk : ∀ (r : Int) (h1 : tm_H) (H1 : Heap) (locs1 : List Loc), tw_Rel G sz h1 H1 → tw_L G locs1 → tm_rg r → F (r, h1) = some x → W p l e R s m args below meth c H1 locs1 (cells + 0) (slots + 0) Q (F0 m (pc + 3) ls (.int (tw_I r) :: rest))) : W p l e R s m args below meth c H locs cells slots Q (F0 m pc ls (.int (tw_I a2) :: .int (tw_I a1) :: .ref this :: rest)) := by
  obtain ⟨r, hr, hF⟩ := Option.bind_eq_some_iff.mp hk
  have ob : ∀ r, fX8_mark this a1 a2 h = some r → tm_is h 8 this := fun r hr => by
    unfold fX8_mark at hr
    exact (tm_th_is hr).1
  exact tw_backi (tw_runV hC hR (cX8_mark_ok l G sz this a1 a2 ga1 ga2 h r hr) (n := 2) (As := [.int (tw_I a1), .int (tw_I a2)]) ⟨tw_in_TB 757 (by decide +kernel) rfl, tw_in_TB 53 (by decide +kernel) rfl, by decide +kernel⟩ (tw_in_TB 755 (by decide +kernel) rfl) (tw_in_TB 756 (by decide +kernel) rfl) hl ⟨rfl, rfl⟩ hRm (ob r hr) (T := TX8) (N := 6) rfl rfl hsz rfl hW hdg hf) hL (fun H1 locs1 a b g => kk r.1 r.2 H1 locs1 a b g hF)
def rmX8_why : Room := { frames := 6, cells := 0, slots := 0, locals := 139 }
set_option maxRecDepth 100000 in
set_option maxHeartbeats 4000000 in
theorem cX8_why_ok (l : Launch) (G : tw_G) (sz : Nat) (this : Nat) (a1 : Int) (a2 : Int) (a3 : Int) (ga1 : tm_rg a1) (ga2 : tm_rg a2) (ga3 : tm_rg a3) (h : tm_H) (out : Int × tm_H) (hk : fX8_why this a1 a2 a3 h = some out) : Met l yX8_why (tw_WS yX8_why cX8_why 5 (some .int)) rmX8_why (va_Pc [.ref this, .int (tw_I a1), .int (tw_I a2), .int (tw_I a3)] (tw_Pre G sz h)) (tw_Qi G sz out.1 out.2) 0 0 (tw_F G) := by
  refine tw_met (by decide +kernel) (Nat.le_of_ble_eq_true rfl) ?_
  intro p e s m args below meth c H ls hC hnm hR hl
  unfold fX8_why at hk
  obtain ⟨hob, hk⟩ := tm_th_is hk
  have hl : lv_has ls 5 [(0, .ref this), (1, .int (tw_I a1)), (2, .int (tw_I a2)), (3, .int (tw_I a3))] := hl
  have hL : tw_L G [] := fun q z => by cases z
  generalize hlc : ([] : List Loc) = locs at hL ⊢
  refine lv_aload_n hC.1 hC.2.1 dX8_why_0 rfl (lv_at hl 0 rfl) ?_
  refine tw_getR hC hR hk flX8_10 dX8_why_1 (fun r1 hk => ?_)
  refine tw_getR hC hR hk flX8_46 dX8_why_4 (fun r2 hk => ?_)
  refine lv_iload_n hC.1 hC.2.1 dX8_why_7 rfl (lv_at hl 1 rfl) ?_
  refine lv_iload_n hC.1 hC.2.1 dX8_why_8 rfl (lv_at hl 2 rfl) ?_
  refine kX0_hasPlace hC hR hL hk ga1 ga2 mlX8_75 ⟨by decide, by decide⟩ hl.1 (Nat.le_of_ble_eq_true rfl) ⟨Nat.zero_le _, Nat.zero_le _⟩ dX8_why_9 (fun v3 H locs hR hL gv3 hk => ?_)
  refine tw_zeq (tgt := 29) hC hk gv3 dX8_why_12 (by decide) (fun _ hk => ?_) (fun _ hk => ?_)
  · refine lv_iconst (v := tw_I (-1)) hC.1 hC.2.1 dX8_why_29 rfl ?_
    cases hk
    exact tw_iret hC hR hL ((tw_rgL rfl)) rfl rfl dX8_why_30
  · refine lv_aload_n hC.1 hC.2.1 dX8_why_15 rfl (lv_at hl 0 rfl) ?_
    refine tw_getR hC hR hk flX8_10 dX8_why_16 (fun r4 hk => ?_)
    refine tw_getR hC hR hk flX8_102 dX8_why_19 (fun r5 hk => ?_)
    refine lv_iload_n hC.1 hC.2.1 dX8_why_22 rfl (lv_at hl 3 rfl) ?_
    refine kX5_has hC hR hL hk ga3 mlX8_113 ⟨by decide, by decide⟩ hl.1 (Nat.le_of_ble_eq_true rfl) ⟨Nat.zero_le _, Nat.zero_le _⟩ dX8_why_23 (fun v6 H locs hR hL gv6 hk => ?_)
    refine tw_zne (tgt := 31) hC hk gv6 dX8_why_26 (by decide) (fun _ hk => ?_) (fun _ hk => ?_)
    · refine lv_iconst (v := tw_I (-1)) hC.1 hC.2.1 dX8_why_29 rfl ?_
      cases hk
      exact tw_iret hC hR hL ((tw_rgL rfl)) rfl rfl dX8_why_30
    · refine lv_aload_n hC.1 hC.2.1 dX8_why_31 rfl (lv_at hl 0 rfl) ?_
      refine tw_getR hC hR hk flX8_10 dX8_why_32 (fun r7 hk => ?_)
      refine lv_iload_n hC.1 hC.2.1 dX8_why_35 rfl (lv_at hl 3 rfl) ?_
      refine lv_iload_n hC.1 hC.2.1 dX8_why_36 rfl (lv_at hl 1 rfl) ?_
      refine lv_iload_n hC.1 hC.2.1 dX8_why_37 rfl (lv_at hl 2 rfl) ?_
      refine kX4_occursAt hC hR hL hk ga3 ga1 ga2 mlX8_220 ⟨by decide, by decide⟩ hl.1 (Nat.le_of_ble_eq_true rfl) ⟨Nat.zero_le _, Nat.zero_le _⟩ dX8_why_38 (fun v8 H locs hR hL gv8 hk => ?_)
      refine tw_zne (tgt := 46) hC hk gv8 dX8_why_41 (by decide) (fun _ hk => ?_) (fun _ hk => ?_)
      · refine lv_iconst (v := tw_I 1) hC.1 hC.2.1 dX8_why_44 rfl ?_
        cases hk
        exact tw_iret hC hR hL ((tw_rgL rfl)) rfl rfl dX8_why_45
      · refine lv_aload_n hC.1 hC.2.1 dX8_why_46 rfl (lv_at hl 0 rfl) ?_
        refine kX8_readNow hC hR hL hk mlX8_90 ⟨by decide, by decide⟩ hl.1 (Nat.le_of_ble_eq_true rfl) ⟨Nat.zero_le _, Nat.zero_le _⟩ dX8_why_47 (fun v9 h9 H locs hR hL hk => ?_)
        refine lv_astore (lv' := [(4, .ref v9), (0, .ref this), (1, .int (tw_I a1)), (2, .int (tw_I a2)), (3, .int (tw_I a3))]) hC.1 hC.2.1 dX8_why_50 hl (by decide) rfl (fun ls hl => ?_)
        refine lv_aload hC.1 hC.2.1 dX8_why_52 (lv_at hl 0 rfl) ?_
        refine lv_iload_n hC.1 hC.2.1 dX8_why_54 rfl (lv_at hl 2 rfl) ?_
        refine lv_iload_n hC.1 hC.2.1 dX8_why_55 rfl (lv_at hl 3 rfl) ?_
        refine kX3_stepOver hC hR hL hk ga1 ga2 mlX8_194 ⟨by decide, by decide⟩ hl.1 (Nat.le_of_ble_eq_true rfl) ⟨Nat.zero_le _, Nat.zero_le _⟩ dX8_why_56 (fun v10 H locs hR hL gv10 hk => ?_)
        refine tw_zle (tgt := 64) hC hk gv10 dX8_why_59 (by decide) (fun _ hk => ?_) (fun _ hk => ?_)
        · refine lv_iconst (v := tw_I 3) hC.1 hC.2.1 dX8_why_62 rfl ?_
          cases hk
          exact tw_iret hC hR hL ((tw_rgL rfl)) rfl rfl dX8_why_63
        · refine lv_aload hC.1 hC.2.1 dX8_why_64 (lv_at hl 0 rfl) ?_
          refine lv_iload_n hC.1 hC.2.1 dX8_why_66 rfl (lv_at hl 2 rfl) ?_
          refine lv_iload_n hC.1 hC.2.1 dX8_why_67 rfl (lv_at hl 3 rfl) ?_
          refine kX3_termOver hC hR hL hk ga1 ga2 mlX8_191 ⟨by decide, by decide⟩ hl.1 (Nat.le_of_ble_eq_true rfl) ⟨Nat.zero_le _, Nat.zero_le _⟩ dX8_why_68 (fun v11 H locs hR hL gv11 hk => ?_)
          refine lv_iload_n hC.1 hC.2.1 dX8_why_71 rfl (lv_at hl 4 rfl) ?_
          refine tw_ceq (tgt := 77) hC hk gv11 ga3 dX8_why_72 (by decide) (fun _ hk => ?_) (fun _ hk => ?_)
          · refine lv_aload_n hC.1 hC.2.1 dX8_why_77 rfl (lv_at hl 1 rfl) ?_
            refine tw_getR hC hR hk flX8_10 dX8_why_78 (fun r12 hk => ?_)
            refine tw_getR hC hR hk flX8_102 dX8_why_81 (fun r13 hk => ?_)
            refine lv_iload_n hC.1 hC.2.1 dX8_why_84 rfl (lv_at hl 4 rfl) ?_
            refine kX5_isQuiet hC hR hL hk ga3 mlX8_202 ⟨by decide, by decide⟩ hl.1 (Nat.le_of_ble_eq_true rfl) ⟨Nat.zero_le _, Nat.zero_le _⟩ dX8_why_85 (fun v14 H locs hR hL gv14 hk => ?_)
            refine tw_zeq (tgt := 93) hC hk gv14 dX8_why_88 (by decide) (fun _ hk => ?_) (fun _ hk => ?_)
            · refine lv_aload hC.1 hC.2.1 dX8_why_93 (lv_at hl 0 rfl) ?_
              refine lv_iload_n hC.1 hC.2.1 dX8_why_95 rfl (lv_at hl 4 rfl) ?_
              refine lv_iload_n hC.1 hC.2.1 dX8_why_96 rfl (lv_at hl 2 rfl) ?_
              refine kX3_firstPlace hC hR hL hk ga3 ga1 mlX8_214 ⟨by decide, by decide⟩ hl.1 (Nat.le_of_ble_eq_true rfl) ⟨Nat.zero_le _, Nat.zero_le _⟩ dX8_why_97 (fun v15 H locs hR hL gv15 hk => ?_)
              refine lv_iload_n hC.1 hC.2.1 dX8_why_100 rfl (lv_at hl 3 rfl) ?_
              refine tw_cne (tgt := 108) hC hk gv15 ga2 dX8_why_101 (by decide) (fun _ hk => ?_) (fun _ hk => ?_)
              · refine lv_iconst (v := tw_I 0) hC.1 hC.2.1 dX8_why_104 rfl ?_
                refine lv_goto (tgt := 109) hC.1 hC.2.1 dX8_why_105 (by decide) ?_
                cases hk
                exact tw_iret hC hR hL ((tw_rgL rfl)) rfl rfl dX8_why_109
              · refine lv_iconst (v := tw_I 5) hC.1 hC.2.1 dX8_why_108 rfl ?_
                cases hk
                exact tw_iret hC hR hL ((tw_rgL rfl)) rfl rfl dX8_why_109
            · refine lv_iconst (v := tw_I 4) hC.1 hC.2.1 dX8_why_91 rfl ?_
              cases hk
              exact tw_iret hC hR hL ((tw_rgL rfl)) rfl rfl dX8_why_92
          · refine lv_iconst (v := tw_I 2) hC.1 hC.2.1 dX8_why_75 rfl ?_
            cases hk
            exact tw_iret hC hR hL ((tw_rgL rfl)) rfl rfl dX8_why_76
set_option maxRecDepth 100000 in
theorem kX8_why {l : Launch} {p : Program} {e : Env} {R : Room} {s : State} {m : MethodId} {args : Array Value} {below : List Frame} {meth : Method} {c : Code} {H : Heap} {locs : List Loc} {cells slots : Nat} {Q : State → Prop} {cc : ByteArray} {pc nL idx : Nat} {ls : Array Slot} {rest : List Value} {G : tw_G} {h : tm_H} {own : String} {ret : Option FieldType} {α : Type} {x : α} {sz : Nat} {this : Nat} {a1 : Int} {a2 : Int} {a3 : Int} (hC : tw_C G p s m args meth c own cc nL ret) (hR : tw_Rel G sz h H) (hL : tw_L G locs) {F : Int × tm_H → Option α} (hk : (fX8_why this a1 a2 a3 h).bind F = some x) (ga1 : tm_rg a1) (ga2 : tm_rg a2) (ga3 : tm_rg a3) (hl : tw_mL own idx yX8_why) (hRm : rmX8_why.frames + 1 ≤ R.frames ∧ 8 + (5 + 11) + rmX8_why.locals ≤ R.locals) (hsz : ls.size = nL) (hW : (rest.map fun v => v.category).sum ≤ 8) (hf : cells + 0 ≤ R.cells ∧ slots + 0 ≤ R.slots) (hdg : decode cc pc = .ok (.invokevirtual idx, 3)) (kk : ∀ (r : Int) (h1 : tm_H) (H1 : Heap) (locs1 : List Loc), tw_Rel G sz h1 H1 → tw_L G locs1 → tm_rg r → F (r, h1) = some x → W p l e R s m args below meth c H1 locs1 (cells + 0) (slots + 0) Q (F0 m (pc + 3) ls (.int (tw_I r) :: rest))) : W p l e R s m args below meth c H locs cells slots Q (F0 m pc ls (.int (tw_I a3) :: .int (tw_I a2) :: .int (tw_I a1) :: .ref this :: rest)) := by
  obtain ⟨r, hr, hF⟩ := Option.bind_eq_some_iff.mp hk
  have ob : ∀ r, fX8_why this a1 a2 a3 h = some r → tm_is h 8 this := fun r hr => by
    unfold fX8_why at hr
    exact (tm_th_is hr).1
  exact tw_backi (tw_runV hC hR (cX8_why_ok l G sz this a1 a2 a3 ga1 ga2 ga3 h r hr) (n := 3) (As := [.int (tw_I a1), .int (tw_I a2), .int (tw_I a3)]) ⟨tw_in_TB 765 (by decide +kernel) rfl, tw_in_TB 53 (by decide +kernel) rfl, by decide +kernel⟩ (tw_in_TB 763 (by decide +kernel) rfl) (tw_in_TB 764 (by decide +kernel) rfl) hl ⟨rfl, rfl⟩ hRm (ob r hr) (T := TX8) (N := 6) rfl rfl hsz rfl hW hdg hf) hL (fun H1 locs1 a b g => kk r.1 r.2 H1 locs1 a b g hF)
def rmX8_nested : Room := { frames := 3, cells := 0, slots := 0, locals := 70 }
set_option maxRecDepth 100000 in
set_option maxHeartbeats 4000000 in
theorem cX8_nested_ok (l : Launch) (G : tw_G) (sz : Nat) (this : Nat) (a1 : Int) (a2 : Int) (ga1 : tm_rg a1) (ga2 : tm_rg a2) (h : tm_H) (out : Int) (hk : fX8_nested this a1 a2 h = some out) : Met l yX8_nested (tw_WS yX8_nested cX8_nested 3 (some .int)) rmX8_nested (va_Pc [.ref this, .int (tw_I a1), .int (tw_I a2)] (tw_Pre G sz h)) (tw_Qi G sz out h) 0 0 (tw_F G) := by
  refine tw_met (by decide +kernel) (Nat.le_of_ble_eq_true rfl) ?_
  intro p e s m args below meth c H ls hC hnm hR hl
  unfold fX8_nested at hk
  obtain ⟨hob, hk⟩ := tm_th_is hk
  have hl : lv_has ls 3 [(0, .ref this), (1, .int (tw_I a1)), (2, .int (tw_I a2))] := hl
  have hL : tw_L G [] := fun q z => by cases z
  generalize hlc : ([] : List Loc) = locs at hL ⊢
  refine lv_aload_n hC.1 hC.2.1 dX8_nested_0 rfl (lv_at hl 0 rfl) ?_
  refine tw_getR hC hR hk flX8_10 dX8_nested_1 (fun r1 hk => ?_)
  refine tw_getR hC hR hk flX8_102 dX8_nested_4 (fun r2 hk => ?_)
  refine lv_iload_n hC.1 hC.2.1 dX8_nested_7 rfl (lv_at hl 1 rfl) ?_
  refine kX5_has hC hR hL hk ga1 mlX8_113 ⟨by decide, by decide⟩ hl.1 (Nat.le_of_ble_eq_true rfl) ⟨Nat.zero_le _, Nat.zero_le _⟩ dX8_nested_8 (fun v3 H locs hR hL gv3 hk => ?_)
  refine tw_zeq (tgt := 28) hC hk gv3 dX8_nested_11 (by decide) (fun _ hk => ?_) (fun _ hk => ?_)
  · refine lv_iconst (v := tw_I (-1)) hC.1 hC.2.1 dX8_nested_28 rfl ?_
    cases hk
    exact tw_iret hC hR hL ((tw_rgL rfl)) rfl rfl dX8_nested_29
  · refine lv_aload_n hC.1 hC.2.1 dX8_nested_14 rfl (lv_at hl 0 rfl) ?_
    refine tw_getR hC hR hk flX8_10 dX8_nested_15 (fun r4 hk => ?_)
    refine tw_getR hC hR hk flX8_102 dX8_nested_18 (fun r5 hk => ?_)
    refine lv_iload_n hC.1 hC.2.1 dX8_nested_21 rfl (lv_at hl 2 rfl) ?_
    refine kX5_has hC hR hL hk ga2 mlX8_113 ⟨by decide, by decide⟩ hl.1 (Nat.le_of_ble_eq_true rfl) ⟨Nat.zero_le _, Nat.zero_le _⟩ dX8_nested_22 (fun v6 H locs hR hL gv6 hk => ?_)
    refine tw_zne (tgt := 30) hC hk gv6 dX8_nested_25 (by decide) (fun _ hk => ?_) (fun _ hk => ?_)
    · refine lv_iconst (v := tw_I (-1)) hC.1 hC.2.1 dX8_nested_28 rfl ?_
      cases hk
      exact tw_iret hC hR hL ((tw_rgL rfl)) rfl rfl dX8_nested_29
    · refine lv_aload_n hC.1 hC.2.1 dX8_nested_30 rfl (lv_at hl 0 rfl) ?_
      refine tw_getR hC hR hk flX8_10 dX8_nested_31 (fun r7 hk => ?_)
      refine lv_iload_n hC.1 hC.2.1 dX8_nested_34 rfl (lv_at hl 1 rfl) ?_
      refine lv_iload_n hC.1 hC.2.1 dX8_nested_35 rfl (lv_at hl 2 rfl) ?_
      refine kX4_timesWithin hC hR hL hk ga1 ga2 mlX8_224 ⟨by decide, by decide⟩ hl.1 (Nat.le_of_ble_eq_true rfl) ⟨Nat.zero_le _, Nat.zero_le _⟩ dX8_nested_36 (fun v8 H locs hR hL gv8 hk => ?_)
      cases hk
      exact tw_iret hC hR hL gv8 rfl rfl dX8_nested_39
set_option maxRecDepth 100000 in
theorem kX8_nested {l : Launch} {p : Program} {e : Env} {R : Room} {s : State} {m : MethodId} {args : Array Value} {below : List Frame} {meth : Method} {c : Code} {H : Heap} {locs : List Loc} {cells slots : Nat} {Q : State → Prop} {cc : ByteArray} {pc nL idx : Nat} {ls : Array Slot} {rest : List Value} {G : tw_G} {h : tm_H} {own : String} {ret : Option FieldType} {α : Type} {x : α} {sz : Nat} {this : Nat} {a1 : Int} {a2 : Int} (hC : tw_C G p s m args meth c own cc nL ret) (hR : tw_Rel G sz h H) (hL : tw_L G locs) {F : Int → Option α} (hk : (fX8_nested this a1 a2 h).bind F = some x) (ga1 : tm_rg a1) (ga2 : tm_rg a2) (hl : tw_mL own idx yX8_nested) (hRm : rmX8_nested.frames + 1 ≤ R.frames ∧ 8 + (3 + 11) + rmX8_nested.locals ≤ R.locals) (hsz : ls.size = nL) (hW : (rest.map fun v => v.category).sum ≤ 8) (hf : cells + 0 ≤ R.cells ∧ slots + 0 ≤ R.slots) (hdg : decode cc pc = .ok (.invokevirtual idx, 3)) (kk : ∀ (r : Int) (H1 : Heap) (locs1 : List Loc), tw_Rel G sz h H1 → tw_L G locs1 → tm_rg r → F r = some x → W p l e R s m args below meth c H1 locs1 (cells + 0) (slots + 0) Q (F0 m (pc + 3) ls (.int (tw_I r) :: rest))) : W p l e R s m args below meth c H locs cells slots Q (F0 m pc ls (.int (tw_I a2) :: .int (tw_I a1) :: .ref this :: rest)) := by
  obtain ⟨r, hr, hF⟩ := Option.bind_eq_some_iff.mp hk
  have ob : ∀ r, fX8_nested this a1 a2 h = some r → tm_is h 8 this := fun r hr => by
    unfold fX8_nested at hr
    exact (tm_th_is hr).1
  exact tw_backi (tw_runV hC hR (cX8_nested_ok l G sz this a1 a2 ga1 ga2 h r hr) (n := 2) (As := [.int (tw_I a1), .int (tw_I a2)]) ⟨tw_in_TB 770 (by decide +kernel) rfl, tw_in_TB 53 (by decide +kernel) rfl, by decide +kernel⟩ (tw_in_TB 768 (by decide +kernel) rfl) (tw_in_TB 769 (by decide +kernel) rfl) hl ⟨rfl, rfl⟩ hRm (ob r hr) (T := TX8) (N := 6) rfl rfl hsz rfl hW hdg hf) hL (fun H1 locs1 a b g => kk r H1 locs1 a b g hF)
def rmX8_gain : Room := { frames := 6, cells := 0, slots := 0, locals := 139 }
set_option maxRecDepth 100000 in
set_option maxHeartbeats 4000000 in
theorem cX8_gain_ok (l : Launch) (G : tw_G) (sz : Nat) (this : Nat) (a1 : Int) (a2 : Int) (a3 : Int) (a4 : Int) (ga1 : tm_rg a1) (ga2 : tm_rg a2) (ga3 : tm_rg a3) (ga4 : tm_rg a4) (h : tm_H) (out : Int × tm_H) (hk : fX8_gain this a1 a2 a3 a4 h = some out) : Met l yX8_gain (tw_WS yX8_gain cX8_gain 7 (some .int)) rmX8_gain (va_Pc [.ref this, .int (tw_I a1), .int (tw_I a2), .int (tw_I a3), .int (tw_I a4)] (tw_Pre G sz h)) (tw_Qi G sz out.1 out.2) 0 0 (tw_F G) := by
  refine tw_met (by decide +kernel) (Nat.le_of_ble_eq_true rfl) ?_
  intro p e s m args below meth c H ls hC hnm hR hl
  unfold fX8_gain at hk
  obtain ⟨hob, hk⟩ := tm_th_is hk
  have hl : lv_has ls 7 [(0, .ref this), (1, .int (tw_I a1)), (2, .int (tw_I a2)), (3, .int (tw_I a3)), (4, .int (tw_I a4))] := hl
  have hL : tw_L G [] := fun q z => by cases z
  generalize hlc : ([] : List Loc) = locs at hL ⊢
  refine lv_aload_n hC.1 hC.2.1 dX8_gain_0 rfl (lv_at hl 0 rfl) ?_
  refine lv_iload_n hC.1 hC.2.1 dX8_gain_1 rfl (lv_at hl 1 rfl) ?_
  refine lv_iload_n hC.1 hC.2.1 dX8_gain_2 rfl (lv_at hl 2 rfl) ?_
  refine lv_iload_n hC.1 hC.2.1 dX8_gain_3 rfl (lv_at hl 3 rfl) ?_
  refine lv_iload hC.1 hC.2.1 dX8_gain_4 (lv_at hl 4 rfl) ?_
  refine kX8_ask hC hR hL hk ga1 ga2 ga3 ga4 mlX8_98 ⟨by decide, by decide⟩ hl.1 (Nat.le_of_ble_eq_true rfl) ⟨Nat.zero_le _, Nat.zero_le _⟩ dX8_gain_6 (fun v1 h1 H locs hR hL gv1 hk => ?_)
  refine lv_istore (lv' := [(5, .int (tw_I v1)), (0, .ref this), (1, .int (tw_I a1)), (2, .int (tw_I a2)), (3, .int (tw_I a3)), (4, .int (tw_I a4))]) hC.1 hC.2.1 dX8_gain_9 hl (by decide) rfl (fun ls hl => ?_)
  refine lv_iload hC.1 hC.2.1 dX8_gain_11 (lv_at hl 0 rfl) ?_
  refine tw_zge (tgt := 19) hC hk gv1 dX8_gain_13 (by decide) (fun _ hk => ?_) (fun _ hk => ?_)
  · refine lv_iload hC.1 hC.2.1 dX8_gain_16 (lv_at hl 0 rfl) ?_
    cases hk
    exact tw_iret hC hR hL gv1 rfl rfl dX8_gain_18
  · refine lv_aload_n hC.1 hC.2.1 dX8_gain_19 rfl (lv_at hl 1 rfl) ?_
    refine kX8_readNow hC hR hL hk mlX8_90 ⟨by decide, by decide⟩ hl.1 (Nat.le_of_ble_eq_true rfl) ⟨Nat.zero_le _, Nat.zero_le _⟩ dX8_gain_20 (fun v2 h2 H locs hR hL hk => ?_)
    refine kX3_markCount hC hR hL hk mlX8_94 ⟨by decide, by decide⟩ hl.1 (Nat.le_of_ble_eq_true rfl) ⟨Nat.zero_le _, Nat.zero_le _⟩ dX8_gain_23 (fun v3 H locs hR hL gv3 hk => ?_)
    refine lv_istore (lv' := [(6, .int (tw_I v3)), (5, .int (tw_I v1)), (0, .ref this), (1, .int (tw_I a1)), (2, .int (tw_I a2)), (3, .int (tw_I a3)), (4, .int (tw_I a4))]) hC.1 hC.2.1 dX8_gain_26 hl (by decide) rfl (fun ls hl => ?_)
    refine lv_aload_n hC.1 hC.2.1 dX8_gain_28 rfl (lv_at hl 2 rfl) ?_
    refine tw_getR hC hR hk flX8_16 dX8_gain_29 (fun r4 hk => ?_)
    refine lv_aload_n hC.1 hC.2.1 dX8_gain_32 rfl (lv_at hl 2 rfl) ?_
    refine tw_getR hC hR hk flX8_10 dX8_gain_33 (fun r5 hk => ?_)
    refine kX4_copyFrom hC hR hL hk mlX8_169 ⟨by decide, by decide⟩ hl.1 (Nat.le_of_ble_eq_true rfl) ⟨Nat.zero_le _, Nat.zero_le _⟩ dX8_gain_36 (fun h6 H locs hR hL hk => ?_)
    refine lv_aload_n hC.1 hC.2.1 dX8_gain_39 rfl (lv_at hl 2 rfl) ?_
    refine tw_getR hC hR hk flX8_16 dX8_gain_40 (fun r7 hk => ?_)
    refine tw_getR hC hR hk flX8_102 dX8_gain_43 (fun r8 hk => ?_)
    refine lv_aload_n hC.1 hC.2.1 dX8_gain_46 rfl (lv_at hl 2 rfl) ?_
    refine tw_getR hC hR hk flX8_42 dX8_gain_47 (fun r9 hk => ?_)
    refine lv_iload hC.1 hC.2.1 dX8_gain_50 (lv_at hl 1 rfl) ?_
    refine kX5_add hC hR hL hk gv1 mlX8_109 ⟨by decide, by decide⟩ hl.1 (Nat.le_of_ble_eq_true rfl) ⟨Nat.zero_le _, Nat.zero_le _⟩ dX8_gain_52 (fun h10 H locs hR hL hk => ?_)
    refine lv_aload_n hC.1 hC.2.1 dX8_gain_55 rfl (lv_at hl 2 rfl) ?_
    refine tw_getR hC hR hk flX8_36 dX8_gain_56 (fun r11 hk => ?_)
    refine lv_aload_n hC.1 hC.2.1 dX8_gain_59 rfl (lv_at hl 2 rfl) ?_
    refine tw_getR hC hR hk flX8_16 dX8_gain_60 (fun r12 hk => ?_)
    refine kX3_read hC hR hL hk mlX8_227 ⟨by decide, by decide⟩ hl.1 (Nat.le_of_ble_eq_true rfl) ⟨Nat.zero_le _, Nat.zero_le _⟩ dX8_gain_63 (fun h13 H locs hR hL hk => ?_)
    refine lv_bipush (v := tw_I 100) hC.1 hC.2.1 dX8_gain_66 (by decide) ?_
    refine lv_aload_n hC.1 hC.2.1 dX8_gain_68 rfl (lv_at hl 2 rfl) ?_
    refine tw_getR hC hR hk flX8_36 dX8_gain_69 (fun r14 hk => ?_)
    refine kX3_markCount hC hR hL hk mlX8_94 ⟨by decide, by decide⟩ hl.1 (Nat.le_of_ble_eq_true rfl) ⟨Nat.zero_le _, Nat.zero_le _⟩ dX8_gain_72 (fun v15 H locs hR hL gv15 hk => ?_)
    refine tw_iadd hC dX8_gain_75 ?_
    refine lv_iload hC.1 hC.2.1 dX8_gain_76 (lv_at hl 0 rfl) ?_
    refine tw_isub hC dX8_gain_78 ?_
    cases hk
    exact tw_iret hC hR hL ((tm_wr_rg _)) rfl rfl dX8_gain_79
set_option maxRecDepth 100000 in
theorem kX8_gain {l : Launch} {p : Program} {e : Env} {R : Room} {s : State} {m : MethodId} {args : Array Value} {below : List Frame} {meth : Method} {c : Code} {H : Heap} {locs : List Loc} {cells slots : Nat} {Q : State → Prop} {cc : ByteArray} {pc nL idx : Nat} {ls : Array Slot} {rest : List Value} {G : tw_G} {h : tm_H} {own : String} {ret : Option FieldType} {α : Type} {x : α} {sz : Nat} {this : Nat} {a1 : Int} {a2 : Int} {a3 : Int} {a4 : Int} (hC : tw_C G p s m args meth c own cc nL ret) (hR : tw_Rel G sz h H) (hL : tw_L G locs) {F : Int × tm_H → Option α} (hk : (fX8_gain this a1 a2 a3 a4 h).bind F = some x) (ga1 : tm_rg a1) (ga2 : tm_rg a2) (ga3 : tm_rg a3) (ga4 : tm_rg a4) (hl : tw_mL own idx yX8_gain) (hRm : rmX8_gain.frames + 1 ≤ R.frames ∧ 8 + (7 + 11) + rmX8_gain.locals ≤ R.locals) (hsz : ls.size = nL) (hW : (rest.map fun v => v.category).sum ≤ 8) (hf : cells + 0 ≤ R.cells ∧ slots + 0 ≤ R.slots) (hdg : decode cc pc = .ok (.invokevirtual idx, 3)) (kk : ∀ (r : Int) (h1 : tm_H) (H1 : Heap) (locs1 : List Loc), tw_Rel G sz h1 H1 → tw_L G locs1 → tm_rg r → F (r, h1) = some x → W p l e R s m args below meth c H1 locs1 (cells + 0) (slots + 0) Q (F0 m (pc + 3) ls (.int (tw_I r) :: rest))) : W p l e R s m args below meth c H locs cells slots Q (F0 m pc ls (.int (tw_I a4) :: .int (tw_I a3) :: .int (tw_I a2) :: .int (tw_I a1) :: .ref this :: rest)) := by
  obtain ⟨r, hr, hF⟩ := Option.bind_eq_some_iff.mp hk
  have ob : ∀ r, fX8_gain this a1 a2 a3 a4 h = some r → tm_is h 8 this := fun r hr => by
    unfold fX8_gain at hr
    exact (tm_th_is hr).1
  exact tw_backi (tw_runV hC hR (cX8_gain_ok l G sz this a1 a2 a3 a4 ga1 ga2 ga3 ga4 h r hr) (n := 4) (As := [.int (tw_I a1), .int (tw_I a2), .int (tw_I a3), .int (tw_I a4)]) ⟨tw_in_TB 782 (by decide +kernel) rfl, tw_in_TB 53 (by decide +kernel) rfl, by decide +kernel⟩ (tw_in_TB 780 (by decide +kernel) rfl) (tw_in_TB 781 (by decide +kernel) rfl) hl ⟨rfl, rfl⟩ hRm (ob r hr) (T := TX8) (N := 6) rfl rfl hsz rfl hW hdg hf) hL (fun H1 locs1 a b g => kk r.1 r.2 H1 locs1 a b g hF)
