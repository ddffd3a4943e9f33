def rmX8_mark : Room := { frames := 6, cells := 0, slots := 0, locals := 139 }
set_option maxRecDepth 100000 in
set_option maxHeartbeats 4000000 in
theorem cX8_mark_ok (l : Launch) (G : tw_G) (sz : Nat) (this : Nat) (a1 : Int) (a2 : Int) (ga1 : tm_rg a1) (ga2 : tm_rg a2) (h : tm_H) (out : Int × tm_H) (hk : fX8_mark this a1 a2 h = some out) : Met l yX8_mark (tw_WS yX8_mark cX8_mark 3 (some .int)) rmX8_mark (va_Pc [.ref this, .int (tw_I a1), .int (tw_I a2)] (tw_Pre G sz h)) (tw_Qi G sz out.1 out.2) 0 0 (tw_F G) := by
  refine tw_met (by decide +kernel) (Nat.le_of_ble_eq_true rfl) ?_
  intro p e s m args below meth c H ls hC hnm hR hl
  unfold fX8_mark at hk
  obtain ⟨hob, hk⟩ := tm_th_is hk
  have hl : lv_has ls 3 [(0, .ref this), (1, .int (tw_I a1)), (2, .int (tw_I a2))] := hl
  have hL : tw_L G [] := fun q z => by cases z
  generalize hlc : ([] : List Loc) = locs at hL ⊢
  refine lv_iload_n hC.1 hC.2.1 dX8_mark_0 rfl (lv_at hl 1 rfl) ?_
  refine tw_zlt (tgt := 13) hC hk ga1 dX8_mark_1 (by decide) (fun _ hk => ?_) (fun _ hk => ?_)
  · refine lv_iconst (v := tw_I (-1)) hC.1 hC.2.1 dX8_mark_13 rfl ?_
    cases hk
    exact tw_iret hC hR hL ((tw_rgL rfl)) rfl rfl dX8_mark_14
  · refine lv_iload_n hC.1 hC.2.1 dX8_mark_4 rfl (lv_at hl 2 rfl) ?_
    refine tw_zlt (tgt := 13) hC hk ga2 dX8_mark_5 (by decide) (fun _ hk => ?_) (fun _ hk => ?_)
    · refine lv_iconst (v := tw_I (-1)) hC.1 hC.2.1 dX8_mark_13 rfl ?_
      cases hk
      exact tw_iret hC hR hL ((tw_rgL rfl)) rfl rfl dX8_mark_14
    · refine lv_iload_n hC.1 hC.2.1 dX8_mark_8 rfl (lv_at hl 2 rfl) ?_
      refine lv_iconst (v := tw_I 2) hC.1 hC.2.1 dX8_mark_9 rfl ?_
      refine tw_cle (tgt := 15) hC hk ga2 ((tw_rgL rfl)) dX8_mark_10 (by decide) (fun _ hk => ?_) (fun _ hk => ?_)
      · refine lv_iconst (v := tw_I (-1)) hC.1 hC.2.1 dX8_mark_13 rfl ?_
        cases hk
        exact tw_iret hC hR hL ((tw_rgL rfl)) rfl rfl dX8_mark_14
      · refine lv_aload_n hC.1 hC.2.1 dX8_mark_15 rfl (lv_at hl 0 rfl) ?_
        refine kX8_readNow hC hR hL hk mlX8_90 ⟨by decide, by decide⟩ hl.1 (Nat.le_of_ble_eq_true rfl) ⟨Nat.zero_le _, Nat.zero_le _⟩ dX8_mark_16 (fun v1 h1 H locs hR hL hk => ?_)
        refine lv_iload_n hC.1 hC.2.1 dX8_mark_19 rfl (lv_at hl 1 rfl) ?_
        refine lv_iload_n hC.1 hC.2.1 dX8_mark_20 rfl (lv_at hl 2 rfl) ?_
        refine kX3_markPart hC hR hL hk ga1 ga2 mlX8_217 ⟨by decide, by decide⟩ hl.1 (Nat.le_of_ble_eq_true rfl) ⟨Nat.zero_le _, Nat.zero_le _⟩ dX8_mark_21 (fun v2 H locs hR hL gv2 hk => ?_)
        cases hk
        exact tw_iret hC hR hL gv2 rfl rfl dX8_mark_24
set_option maxRecDepth 100000 in
theorem kX8_mark {l : Launch} {p : Program} {e : Env} {R : Room} {s : State} {m : MethodId} {args : Array Value} {below : List Frame} {meth : Method} {c : Code} {H : Heap} {locs : List Loc} {cells slots : Nat} {Q : State → Prop} {cc : ByteArray} {pc nL idx : Nat} {ls : Array Slot} {rest : List Value} {G : tw_G} {h : tm_H} {own : String} {ret : Option FieldType} {α : Type} {x : α} {sz : Nat} {this : Nat} {a1 : Int} {a2 : Int} (hC : tw_C G p s m args meth c own cc nL ret) (hR : tw_Rel G sz h H) (hL : tw_L G locs) {F : Int × tm_H → Option α} (hk : (fX8_mark this a1 a2 h).bind F = some x) (ga1 : tm_rg a1) (ga2 : tm_rg a2) (hl : tw_mL own idx yX8_mark) (hRm : rmX8_mark.frames + 1 ≤ R.frames ∧ 8 + (3 + 11) + rmX8_mark.locals ≤ R.locals) (hsz : ls.size = nL) (hW : (rest.map fun v => v.category).sum ≤ 8) (hf : cells + 0 ≤ R.cells ∧ slots + 0 ≤ R.slots) (hdg : decode cc pc = .ok (.invokevirtual idx, 3)) (kk : ∀ (r : Int) (h1 : tm_H) (H1 : Heap) (locs1 : List Loc), tw_Rel G sz h1 H1 → tw_L G locs1 → tm_rg r → F (r, h1) = some x → W p l e R s m args below meth c H1 locs1 (cells + 0) (slots + 0) Q (F0 m (pc + 3) ls (.int (tw_I r) :: rest))) : W p l e R s m args below meth c H locs cells slots Q (F0 m pc ls (.int (tw_I a2) :: .int (tw_I a1) :: .ref this :: rest)) := by
  obtain ⟨r, hr, hF⟩ := Option.bind_eq_some_iff.mp hk
  have ob : ∀ r, fX8_mark this a1 a2 h = some r → tm_is h 8 this := fun r hr => by
    unfold fX8_mark at hr
    exact (tm_th_is hr).1
  exact tw_backi (tw_runV hC hR (cX8_mark_ok l G sz this a1 a2 ga1 ga2 h r hr) (n := 2) (As := [.int (tw_I a1), .int (tw_I a2)]) ⟨tw_in_TB 590 (by decide +kernel) rfl, tw_in_TB 9 (by decide +kernel) rfl, by decide +kernel⟩ (tw_in_TB 588 (by decide +kernel) rfl) (tw_in_TB 589 (by decide +kernel) rfl) hl ⟨rfl, rfl⟩ hRm (ob r hr) (T := TX8) (N := 6) rfl rfl hsz rfl hW hdg hf) hL (fun H1 locs1 a b g => kk r.1 r.2 H1 locs1 a b g hF)
def rmX8_why : Room := { frames := 6, cells := 0, slots := 0, locals := 139 }
set_option maxRecDepth 100000 in
set_option maxHeartbeats 4000000 in
theorem cX8_why_ok (l : Launch) (G : tw_G) (sz : Nat) (this : Nat) (a1 : Int) (a2 : Int) (a3 : Int) (ga1 : tm_rg a1) (ga2 : tm_rg a2) (ga3 : tm_rg a3) (h : tm_H) (out : Int × tm_H) (hk : fX8_why this a1 a2 a3 h = some out) : Met l yX8_why (tw_WS yX8_why cX8_why 5 (some .int)) rmX8_why (va_Pc [.ref this, .int (tw_I a1), .int (tw_I a2), .int (tw_I a3)] (tw_Pre G sz h)) (tw_Qi G sz out.1 out.2) 0 0 (tw_F G) := by
  refine tw_met (by decide +kernel) (Nat.le_of_ble_eq_true rfl) ?_
  intro p e s m args below meth c H ls hC hnm hR hl
  unfold fX8_why at hk
  obtain ⟨hob, hk⟩ := tm_th_is hk
  have hl : lv_has ls 5 [(0, .ref this), (1, .int (tw_I a1)), (2, .int (tw_I a2)), (3, .int (tw_I a3))] := hl
  have hL : tw_L G [] := fun q z => by cases z
  generalize hlc : ([] : List Loc) = locs at hL ⊢
  refine lv_aload_n hC.1 hC.2.1 dX8_why_0 rfl (lv_at hl 0 rfl) ?_
  refine tw_getR hC hR hk flX8_10 dX8_why_1 (fun r1 hk => ?_)
  refine tw_getR hC hR hk flX8_46 dX8_why_4 (fun r2 hk => ?_)
  refine lv_iload_n hC.1 hC.2.1 dX8_why_7 rfl (lv_at hl 1 rfl) ?_
  refine lv_iload_n hC.1 hC.2.1 dX8_why_8 rfl (lv_at hl 2 rfl) ?_
  refine kX0_hasPlace hC hR hL hk ga1 ga2 mlX8_75 ⟨by decide, by decide⟩ hl.1 (Nat.le_of_ble_eq_true rfl) ⟨Nat.zero_le _, Nat.zero_le _⟩ dX8_why_9 (fun v3 H locs hR hL gv3 hk => ?_)
  refine tw_zeq (tgt := 29) hC hk gv3 dX8_why_12 (by decide) (fun _ hk => ?_) (fun _ hk => ?_)
  · refine lv_iconst (v := tw_I (-1)) hC.1 hC.2.1 dX8_why_29 rfl ?_
    cases hk
    exact tw_iret hC hR hL ((tw_rgL rfl)) rfl rfl dX8_why_30
  · refine lv_aload_n hC.1 hC.2.1 dX8_why_15 rfl (lv_at hl 0 rfl) ?_
    refine tw_getR hC hR hk flX8_10 dX8_why_16 (fun r4 hk => ?_)
    refine tw_getR hC hR hk flX8_102 dX8_why_19 (fun r5 hk => ?_)
    refine lv_iload_n hC.1 hC.2.1 dX8_why_22 rfl (lv_at hl 3 rfl) ?_
    refine kX5_has hC hR hL hk ga3 mlX8_113 ⟨by decide, by decide⟩ hl.1 (Nat.le_of_ble_eq_true rfl) ⟨Nat.zero_le _, Nat.zero_le _⟩ dX8_why_23 (fun v6 H locs hR hL gv6 hk => ?_)
    refine tw_zne (tgt := 31) hC hk gv6 dX8_why_26 (by decide) (fun _ hk => ?_) (fun _ hk => ?_)
    · refine lv_iconst (v := tw_I (-1)) hC.1 hC.2.1 dX8_why_29 rfl ?_
      cases hk
      exact tw_iret hC hR hL ((tw_rgL rfl)) rfl rfl dX8_why_30
    · refine lv_aload_n hC.1 hC.2.1 dX8_why_31 rfl (lv_at hl 0 rfl) ?_
      refine tw_getR hC hR hk flX8_10 dX8_why_32 (fun r7 hk => ?_)
      refine lv_iload_n hC.1 hC.2.1 dX8_why_35 rfl (lv_at hl 3 rfl) ?_
      refine lv_iload_n hC.1 hC.2.1 dX8_why_36 rfl (lv_at hl 1 rfl) ?_
      refine lv_iload_n hC.1 hC.2.1 dX8_why_37 rfl (lv_at hl 2 rfl) ?_
      refine kX4_occursAt hC hR hL hk ga3 ga1 ga2 mlX8_220 ⟨by decide, by decide⟩ hl.1 (Nat.le_of_ble_eq_true rfl) ⟨Nat.zero_le _, Nat.zero_le _⟩ dX8_why_38 (fun v8 H locs hR hL gv8 hk => ?_)
      refine tw_zne (tgt := 46) hC hk gv8 dX8_why_41 (by decide) (fun _ hk => ?_) (fun _ hk => ?_)
      · refine lv_iconst (v := tw_I 1) hC.1 hC.2.1 dX8_why_44 rfl ?_
        cases hk
        exact tw_iret hC hR hL ((tw_rgL rfl)) rfl rfl dX8_why_45
      · refine lv_aload_n hC.1 hC.2.1 dX8_why_46 rfl (lv_at hl 0 rfl) ?_
        refine kX8_readNow hC hR hL hk mlX8_90 ⟨by decide, by decide⟩ hl.1 (Nat.le_of_ble_eq_true rfl) ⟨Nat.zero_le _, Nat.zero_le _⟩ dX8_why_47 (fun v9 h9 H locs hR hL hk => ?_)
        refine lv_astore (lv' := [(4, .ref v9), (0, .ref this), (1, .int (tw_I a1)), (2, .int (tw_I a2)), (3, .int (tw_I a3))]) hC.1 hC.2.1 dX8_why_50 hl (by decide) rfl (fun ls hl => ?_)
        refine lv_aload hC.1 hC.2.1 dX8_why_52 (lv_at hl 0 rfl) ?_
        refine lv_iload_n hC.1 hC.2.1 dX8_why_54 rfl (lv_at hl 2 rfl) ?_
        refine lv_iload_n hC.1 hC.2.1 dX8_why_55 rfl (lv_at hl 3 rfl) ?_
        refine kX3_stepOver hC hR hL hk ga1 ga2 mlX8_194 ⟨by decide, by decide⟩ hl.1 (Nat.le_of_ble_eq_true rfl) ⟨Nat.zero_le _, Nat.zero_le _⟩ dX8_why_56 (fun v10 H locs hR hL gv10 hk => ?_)
        refine tw_zle (tgt := 64) hC hk gv10 dX8_why_59 (by decide) (fun _ hk => ?_) (fun _ hk => ?_)
        · refine lv_iconst (v := tw_I 3) hC.1 hC.2.1 dX8_why_62 rfl ?_
          cases hk
          exact tw_iret hC hR hL ((tw_rgL rfl)) rfl rfl dX8_why_63
        · refine lv_aload hC.1 hC.2.1 dX8_why_64 (lv_at hl 0 rfl) ?_
          refine lv_iload_n hC.1 hC.2.1 dX8_why_66 rfl (lv_at hl 2 rfl) ?_
          refine lv_iload_n hC.1 hC.2.1 dX8_why_67 rfl (lv_at hl 3 rfl) ?_
          refine kX3_termOver hC hR hL hk ga1 ga2 mlX8_191 ⟨by decide, by decide⟩ hl.1 (Nat.le_of_ble_eq_true rfl) ⟨Nat.zero_le _, Nat.zero_le _⟩ dX8_why_68 (fun v11 H locs hR hL gv11 hk => ?_)
          refine lv_iload_n hC.1 hC.2.1 dX8_why_71 rfl (lv_at hl 4 rfl) ?_
          refine tw_ceq (tgt := 77) hC hk gv11 ga3 dX8_why_72 (by decide) (fun _ hk => ?_) (fun _ hk => ?_)
          · refine lv_aload_n hC.1 hC.2.1 dX8_why_77 rfl (lv_at hl 1 rfl) ?_
            refine tw_getR hC hR hk flX8_10 dX8_why_78 (fun r12 hk => ?_)
            refine tw_getR hC hR hk flX8_102 dX8_why_81 (fun r13 hk => ?_)
            refine lv_iload_n hC.1 hC.2.1 dX8_why_84 rfl (lv_at hl 4 rfl) ?_
            refine kX5_isQuiet hC hR hL hk ga3 mlX8_202 ⟨by decide, by decide⟩ hl.1 (Nat.le_of_ble_eq_true rfl) ⟨Nat.zero_le _, Nat.zero_le _⟩ dX8_why_85 (fun v14 H locs hR hL gv14 hk => ?_)
            refine tw_zeq (tgt := 93) hC hk gv14 dX8_why_88 (by decide) (fun _ hk => ?_) (fun _ hk => ?_)
            · refine lv_aload hC.1 hC.2.1 dX8_why_93 (lv_at hl 0 rfl) ?_
              refine lv_iload_n hC.1 hC.2.1 dX8_why_95 rfl (lv_at hl 4 rfl) ?_
              refine lv_iload_n hC.1 hC.2.1 dX8_why_96 rfl (lv_at hl 2 rfl) ?_
              refine kX3_firstPlace hC hR hL hk ga3 ga1 mlX8_214 ⟨by decide, by decide⟩ hl.1 (Nat.le_of_ble_eq_true rfl) ⟨Nat.zero_le _, Nat.zero_le _⟩ dX8_why_97 (fun v15 H locs hR hL gv15 hk => ?_)
              refine lv_iload_n hC.1 hC.2.1 dX8_why_100 rfl (lv_at hl 3 rfl) ?_
              refine tw_cne (tgt := 108) hC hk gv15 ga2 dX8_why_101 (by decide) (fun _ hk => ?_) (fun _ hk => ?_)
              · refine lv_iconst (v := tw_I 0) hC.1 hC.2.1 dX8_why_104 rfl ?_
                refine lv_goto (tgt := 109) hC.1 hC.2.1 dX8_why_105 (by decide) ?_
                cases hk
                exact tw_iret hC hR hL ((tw_rgL rfl)) rfl rfl dX8_why_109
              · refine lv_iconst (v := tw_I 5) hC.1 hC.2.1 dX8_why_108 rfl ?_
                cases hk
                exact tw_iret hC hR hL ((tw_rgL rfl)) rfl rfl dX8_why_109
            · refine lv_iconst (v := tw_I 4) hC.1 hC.2.1 dX8_why_91 rfl ?_
              cases hk
              exact tw_iret hC hR hL ((tw_rgL rfl)) rfl rfl dX8_why_92
          · refine lv_iconst (v := tw_I 2) hC.1 hC.2.1 dX8_why_75 rfl ?_
            cases hk
            exact tw_iret hC hR hL ((tw_rgL rfl)) rfl rfl dX8_why_76
set_option maxRecDepth 100000 in
theorem kX8_why {l : Launch} {p : Program} {e : Env} {R : Room} {s : State} {m : MethodId} {args : Array Value} {below : List Frame} {meth : Method} {c : Code} {H : Heap} {locs : List Loc} {cells slots : Nat} {Q : State → Prop} {cc : ByteArray} {pc nL idx : Nat} {ls : Array Slot} {rest : List Value} {G : tw_G} {h : tm_H} {own : String} {ret : Option FieldType} {α : Type} {x : α} {sz : Nat} {this : Nat} {a1 : Int} {a2 : Int} {a3 : Int} (hC : tw_C G p s m args meth c own cc nL ret) (hR : tw_Rel G sz h H) (hL : tw_L G locs) {F : Int × tm_H → Option α} (hk : (fX8_why this a1 a2 a3 h).bind F = some x) (ga1 : tm_rg a1) (ga2 : tm_rg a2) (ga3 : tm_rg a3) (hl : tw_mL own idx yX8_why) (hRm : rmX8_why.frames + 1 ≤ R.frames ∧ 8 + (5 + 11) + rmX8_why.locals ≤ R.locals) (hsz : ls.size = nL) (hW : (rest.map fun v => v.category).sum ≤ 8) (hf : cells + 0 ≤ R.cells ∧ slots + 0 ≤ R.slots) (hdg : decode cc pc = .ok (.invokevirtual idx, 3)) (kk : ∀ (r : Int) (h1 : tm_H) (H1 : Heap) (locs1 : List Loc), tw_Rel G sz h1 H1 → tw_L G locs1 → tm_rg r → F (r, h1) = some x → W p l e R s m args below meth c H1 locs1 (cells + 0) (slots + 0) Q (F0 m (pc + 3) ls (.int (tw_I r) :: rest))) : W p l e R s m args below meth c H locs cells slots Q (F0 m pc ls (.int (tw_I a3) :: .int (tw_I a2) :: .int (tw_I a1) :: .ref this :: rest)) := by
  obtain ⟨r, hr, hF⟩ := Option.bind_eq_some_iff.mp hk
  have ob : ∀ r, fX8_why this a1 a2 a3 h = some r → tm_is h 8 this := fun r hr => by
    unfold fX8_why at hr
    exact (tm_th_is hr).1
  exact tw_backi (tw_runV hC hR (cX8_why_ok l G sz this a1 a2 a3 ga1 ga2 ga3 h r hr) (n := 3) (As := [.int (tw_I a1), .int (tw_I a2), .int (tw_I a3)]) ⟨tw_in_TB 598 (by decide +kernel) rfl, tw_in_TB 9 (by decide +kernel) rfl, by decide +kernel⟩ (tw_in_TB 596 (by decide +kernel) rfl) (tw_in_TB 597 (by decide +kernel) rfl) hl ⟨rfl, rfl⟩ hRm (ob r hr) (T := TX8) (N := 6) rfl rfl hsz rfl hW hdg hf) hL (fun H1 locs1 a b g => kk r.1 r.2 H1 locs1 a b g hF)
def rmX8_nested : Room := { frames := 3, cells := 0, slots := 0, locals := 70 }
set_option maxRecDepth 100000 in
set_option maxHeartbeats 4000000 in
theorem cX8_nested_ok (l : Launch) (G : tw_G) (sz : Nat) (this : Nat) (a1 : Int) (a2 : Int) (ga1 : tm_rg a1) (ga2 : tm_rg a2) (h : tm_H) (out : Int) (hk : fX8_nested this a1 a2 h = some out) : Met l yX8_nested (tw_WS yX8_nested cX8_nested 3 (some .int)) rmX8_nested (va_Pc [.ref this, .int (tw_I a1), .int (tw_I a2)] (tw_Pre G sz h)) (tw_Qi G sz out h) 0 0 (tw_F G) := by
  refine tw_met (by decide +kernel) (Nat.le_of_ble_eq_true rfl) ?_
  intro p e s m args below meth c H ls hC hnm hR hl
  unfold fX8_nested at hk
  obtain ⟨hob, hk⟩ := tm_th_is hk
  have hl : lv_has ls 3 [(0, .ref this), (1, .int (tw_I a1)), (2, .int (tw_I a2))] := hl
  have hL : tw_L G [] := fun q z => by cases z
  generalize hlc : ([] : List Loc) = locs at hL ⊢
  refine lv_aload_n hC.1 hC.2.1 dX8_nested_0 rfl (lv_at hl 0 rfl) ?_
  refine tw_getR hC hR hk flX8_10 dX8_nested_1 (fun r1 hk => ?_)
  refine tw_getR hC hR hk flX8_102 dX8_nested_4 (fun r2 hk => ?_)
  refine lv_iload_n hC.1 hC.2.1 dX8_nested_7 rfl (lv_at hl 1 rfl) ?_
  refine kX5_has hC hR hL hk ga1 mlX8_113 ⟨by decide, by decide⟩ hl.1 (Nat.le_of_ble_eq_true rfl) ⟨Nat.zero_le _, Nat.zero_le _⟩ dX8_nested_8 (fun v3 H locs hR hL gv3 hk => ?_)
  refine tw_zeq (tgt := 28) hC hk gv3 dX8_nested_11 (by decide) (fun _ hk => ?_) (fun _ hk => ?_)
  · refine lv_iconst (v := tw_I (-1)) hC.1 hC.2.1 dX8_nested_28 rfl ?_
    cases hk
    exact tw_iret hC hR hL ((tw_rgL rfl)) rfl rfl dX8_nested_29
  · refine lv_aload_n hC.1 hC.2.1 dX8_nested_14 rfl (lv_at hl 0 rfl) ?_
    refine tw_getR hC hR hk flX8_10 dX8_nested_15 (fun r4 hk => ?_)
    refine tw_getR hC hR hk flX8_102 dX8_nested_18 (fun r5 hk => ?_)
    refine lv_iload_n hC.1 hC.2.1 dX8_nested_21 rfl (lv_at hl 2 rfl) ?_
    refine kX5_has hC hR hL hk ga2 mlX8_113 ⟨by decide, by decide⟩ hl.1 (Nat.le_of_ble_eq_true rfl) ⟨Nat.zero_le _, Nat.zero_le _⟩ dX8_nested_22 (fun v6 H locs hR hL gv6 hk => ?_)
    refine tw_zne (tgt := 30) hC hk gv6 dX8_nested_25 (by decide) (fun _ hk => ?_) (fun _ hk => ?_)
    · refine lv_iconst (v := tw_I (-1)) hC.1 hC.2.1 dX8_nested_28 rfl ?_
      cases hk
      exact tw_iret hC hR hL ((tw_rgL rfl)) rfl rfl dX8_nested_29
    · refine lv_aload_n hC.1 hC.2.1 dX8_nested_30 rfl (lv_at hl 0 rfl) ?_
      refine tw_getR hC hR hk flX8_10 dX8_nested_31 (fun r7 hk => ?_)
      refine lv_iload_n hC.1 hC.2.1 dX8_nested_34 rfl (lv_at hl 1 rfl) ?_
      refine lv_iload_n hC.1 hC.2.1 dX8_nested_35 rfl (lv_at hl 2 rfl) ?_
      refine kX4_timesWithin hC hR hL hk ga1 ga2 mlX8_224 ⟨by decide, by decide⟩ hl.1 (Nat.le_of_ble_eq_true rfl) ⟨Nat.zero_le _, Nat.zero_le _⟩ dX8_nested_36 (fun v8 H locs hR hL gv8 hk => ?_)
      cases hk
      exact tw_iret hC hR hL gv8 rfl rfl dX8_nested_39
set_option maxRecDepth 100000 in
theorem kX8_nested {l : Launch} {p : Program} {e : Env} {R : Room} {s : State} {m : MethodId} {args : Array Value} {below : List Frame} {meth : Method} {c : Code} {H : Heap} {locs : List Loc} {cells slots : Nat} {Q : State → Prop} {cc : ByteArray} {pc nL idx : Nat} {ls : Array Slot} {rest : List Value} {G : tw_G} {h : tm_H} {own : String} {ret : Option FieldType} {α : Type} {x : α} {sz : Nat} {this : Nat} {a1 : Int} {a2 : Int} (hC : tw_C G p s m args meth c own cc nL ret) (hR : tw_Rel G sz h H) (hL : tw_L G locs) {F : Int → Option α} (hk : (fX8_nested this a1 a2 h).bind F = some x) (ga1 : tm_rg a1) (ga2 : tm_rg a2) (hl : tw_mL own idx yX8_nested) (hRm : rmX8_nested.frames + 1 ≤ R.frames ∧ 8 + (3 + 11) + rmX8_nested.locals ≤ R.locals) (hsz : ls.size = nL) (hW : (rest.map fun v => v.category).sum ≤ 8) (hf : cells + 0 ≤ R.cells ∧ slots + 0 ≤ R.slots) (hdg : decode cc pc = .ok (.invokevirtual idx, 3)) (kk : ∀ (r : Int) (H1 : Heap) (locs1 : List Loc), tw_Rel G sz h H1 → tw_L G locs1 → tm_rg r → F r = some x → W p l e R s m args below meth c H1 locs1 (cells + 0) (slots + 0) Q (F0 m (pc + 3) ls (.int (tw_I r) :: rest))) : W p l e R s m args below meth c H locs cells slots Q (F0 m pc ls (.int (tw_I a2) :: .int (tw_I a1) :: .ref this :: rest)) := by
  obtain ⟨r, hr, hF⟩ := Option.bind_eq_some_iff.mp hk
  have ob : ∀ r, fX8_nested this a1 a2 h = some r → tm_is h 8 this := fun r hr => by
    unfold fX8_nested at hr
    exact (tm_th_is hr).1
  exact tw_backi (tw_runV hC hR (cX8_nested_ok l G sz this a1 a2 ga1 ga2 h r hr) (n := 2) (As := [.int (tw_I a1), .int (tw_I a2)]) ⟨tw_in_TB 603 (by decide +kernel) rfl, tw_in_TB 9 (by decide +kernel) rfl, by decide +kernel⟩ (tw_in_TB 601 (by decide +kernel) rfl) (tw_in_TB 602 (by decide +kernel) rfl) hl ⟨rfl, rfl⟩ hRm (ob r hr) (T := TX8) (N := 6) rfl rfl hsz rfl hW hdg hf) hL (fun H1 locs1 a b g => kk r H1 locs1 a b g hF)
def rmX8_gain : Room := { frames := 6, cells := 0, slots := 0, locals := 139 }
set_option maxRecDepth 100000 in
set_option maxHeartbeats 4000000 in
theorem cX8_gain_ok (l : Launch) (G : tw_G) (sz : Nat) (this : Nat) (a1 : Int) (a2 : Int) (a3 : Int) (a4 : Int) (ga1 : tm_rg a1) (ga2 : tm_rg a2) (ga3 : tm_rg a3) (ga4 : tm_rg a4) (h : tm_H) (out : Int × tm_H) (hk : fX8_gain this a1 a2 a3 a4 h = some out) : Met l yX8_gain (tw_WS yX8_gain cX8_gain 7 (some .int)) rmX8_gain (va_Pc [.ref this, .int (tw_I a1), .int (tw_I a2), .int (tw_I a3), .int (tw_I a4)] (tw_Pre G sz h)) (tw_Qi G sz out.1 out.2) 0 0 (tw_F G) := by
  refine tw_met (by decide +kernel) (Nat.le_of_ble_eq_true rfl) ?_
  intro p e s m args below meth c H ls hC hnm hR hl
  unfold fX8_gain at hk
  obtain ⟨hob, hk⟩ := tm_th_is hk
  have hl : lv_has ls 7 [(0, .ref this), (1, .int (tw_I a1)), (2, .int (tw_I a2)), (3, .int (tw_I a3)), (4, .int (tw_I a4))] := hl
  have hL : tw_L G [] := fun q z => by cases z
  generalize hlc : ([] : List Loc) = locs at hL ⊢
  refine lv_aload_n hC.1 hC.2.1 dX8_gain_0 rfl (lv_at hl 0 rfl) ?_
  refine lv_iload_n hC.1 hC.2.1 dX8_gain_1 rfl (lv_at hl 1 rfl) ?_
  refine lv_iload_n hC.1 hC.2.1 dX8_gain_2 rfl (lv_at hl 2 rfl) ?_
  refine lv_iload_n hC.1 hC.2.1 dX8_gain_3 rfl (lv_at hl 3 rfl) ?_
  refine lv_iload hC.1 hC.2.1 dX8_gain_4 (lv_at hl 4 rfl) ?_
  refine kX8_ask hC hR hL hk ga1 ga2 ga3 ga4 mlX8_98 ⟨by decide, by decide⟩ hl.1 (Nat.le_of_ble_eq_true rfl) ⟨Nat.zero_le _, Nat.zero_le _⟩ dX8_gain_6 (fun v1 h1 H locs hR hL gv1 hk => ?_)
  refine lv_istore (lv' := [(5, .int (tw_I v1)), (0, .ref this), (1, .int (tw_I a1)), (2, .int (tw_I a2)), (3, .int (tw_I a3)), (4, .int (tw_I a4))]) hC.1 hC.2.1 dX8_gain_9 hl (by decide) rfl (fun ls hl => ?_)
  refine lv_iload hC.1 hC.2.1 dX8_gain_11 (lv_at hl 0 rfl) ?_
  refine tw_zge (tgt := 19) hC hk gv1 dX8_gain_13 (by decide) (fun _ hk => ?_) (fun _ hk => ?_)
  · refine lv_iload hC.1 hC.2.1 dX8_gain_16 (lv_at hl 0 rfl) ?_
    cases hk
    exact tw_iret hC hR hL gv1 rfl rfl dX8_gain_18
  · refine lv_aload_n hC.1 hC.2.1 dX8_gain_19 rfl (lv_at hl 1 rfl) ?_
    refine kX8_readNow hC hR hL hk mlX8_90 ⟨by decide, by decide⟩ hl.1 (Nat.le_of_ble_eq_true rfl) ⟨Nat.zero_le _, Nat.zero_le _⟩ dX8_gain_20 (fun v2 h2 H locs hR hL hk => ?_)
    refine kX3_markCount hC hR hL hk mlX8_94 ⟨by decide, by decide⟩ hl.1 (Nat.le_of_ble_eq_true rfl) ⟨Nat.zero_le _, Nat.zero_le _⟩ dX8_gain_23 (fun v3 H locs hR hL gv3 hk => ?_)
    refine lv_istore (lv' := [(6, .int (tw_I v3)), (5, .int (tw_I v1)), (0, .ref this), (1, .int (tw_I a1)), (2, .int (tw_I a2)), (3, .int (tw_I a3)), (4, .int (tw_I a4))]) hC.1 hC.2.1 dX8_gain_26 hl (by decide) rfl (fun ls hl => ?_)
    refine lv_aload_n hC.1 hC.2.1 dX8_gain_28 rfl (lv_at hl 2 rfl) ?_
    refine tw_getR hC hR hk flX8_16 dX8_gain_29 (fun r4 hk => ?_)
    refine lv_aload_n hC.1 hC.2.1 dX8_gain_32 rfl (lv_at hl 2 rfl) ?_
    refine tw_getR hC hR hk flX8_10 dX8_gain_33 (fun r5 hk => ?_)
    refine kX4_copyFrom hC hR hL hk mlX8_169 ⟨by decide, by decide⟩ hl.1 (Nat.le_of_ble_eq_true rfl) ⟨Nat.zero_le _, Nat.zero_le _⟩ dX8_gain_36 (fun h6 H locs hR hL hk => ?_)
    refine lv_aload_n hC.1 hC.2.1 dX8_gain_39 rfl (lv_at hl 2 rfl) ?_
    refine tw_getR hC hR hk flX8_16 dX8_gain_40 (fun r7 hk => ?_)
    refine tw_getR hC hR hk flX8_102 dX8_gain_43 (fun r8 hk => ?_)
    refine lv_aload_n hC.1 hC.2.1 dX8_gain_46 rfl (lv_at hl 2 rfl) ?_
    refine tw_getR hC hR hk flX8_42 dX8_gain_47 (fun r9 hk => ?_)
    refine lv_iload hC.1 hC.2.1 dX8_gain_50 (lv_at hl 1 rfl) ?_
    refine kX5_add hC hR hL hk gv1 mlX8_109 ⟨by decide, by decide⟩ hl.1 (Nat.le_of_ble_eq_true rfl) ⟨Nat.zero_le _, Nat.zero_le _⟩ dX8_gain_52 (fun h10 H locs hR hL hk => ?_)
    refine lv_aload_n hC.1 hC.2.1 dX8_gain_55 rfl (lv_at hl 2 rfl) ?_
    refine tw_getR hC hR hk flX8_36 dX8_gain_56 (fun r11 hk => ?_)
    refine lv_aload_n hC.1 hC.2.1 dX8_gain_59 rfl (lv_at hl 2 rfl) ?_
    refine tw_getR hC hR hk flX8_16 dX8_gain_60 (fun r12 hk => ?_)
    refine kX3_read hC hR hL hk mlX8_227 ⟨by decide, by decide⟩ hl.1 (Nat.le_of_ble_eq_true rfl) ⟨Nat.zero_le _, Nat.zero_le _⟩ dX8_gain_63 (fun h13 H locs hR hL hk => ?_)
    refine lv_bipush (v := tw_I 100) hC.1 hC.2.1 dX8_gain_66 (by decide) ?_
    refine lv_aload_n hC.1 hC.2.1 dX8_gain_68 rfl (lv_at hl 2 rfl) ?_
    refine tw_getR hC hR hk flX8_36 dX8_gain_69 (fun r14 hk => ?_)
    refine kX3_markCount hC hR hL hk mlX8_94 ⟨by decide, by decide⟩ hl.1 (Nat.le_of_ble_eq_true rfl) ⟨Nat.zero_le _, Nat.zero_le _⟩ dX8_gain_72 (fun v15 H locs hR hL gv15 hk => ?_)
    refine tw_iadd hC dX8_gain_75 ?_
    refine lv_iload hC.1 hC.2.1 dX8_gain_76 (lv_at hl 0 rfl) ?_
    refine tw_isub hC dX8_gain_78 ?_
    cases hk
    exact tw_iret hC hR hL ((tm_wr_rg _)) rfl rfl dX8_gain_79
set_option maxRecDepth 100000 in
theorem kX8_gain {l : Launch} {p : Program} {e : Env} {R : Room} {s : State} {m : MethodId} {args : Array Value} {below : List Frame} {meth : Method} {c : Code} {H : Heap} {locs : List Loc} {cells slots : Nat} {Q : State → Prop} {cc : ByteArray} {pc nL idx : Nat} {ls : Array Slot} {rest : List Value} {G : tw_G} {h : tm_H} {own : String} {ret : Option FieldType} {α : Type} {x : α} {sz : Nat} {this : Nat} {a1 : Int} {a2 : Int} {a3 : Int} {a4 : Int} (hC : tw_C G p s m args meth c own cc nL ret) (hR : tw_Rel G sz h H) (hL : tw_L G locs) {F : Int × tm_H → Option α} (hk : (fX8_gain this a1 a2 a3 a4 h).bind F = some x) (ga1 : tm_rg a1) (ga2 : tm_rg a2) (ga3 : tm_rg a3) (ga4 : tm_rg a4) (hl : tw_mL own idx yX8_gain) (hRm : rmX8_gain.frames + 1 ≤ R.frames ∧ 8 + (7 + 11) + rmX8_gain.locals ≤ R.locals) (hsz : ls.size = nL) (hW : (rest.map fun v => v.category).sum ≤ 8) (hf : cells + 0 ≤ R.cells ∧ slots + 0 ≤ R.slots) (hdg : decode cc pc = .ok (.invokevirtual idx, 3)) (kk : ∀ (r : Int) (h1 : tm_H) (H1 : Heap) (locs1 : List Loc), tw_Rel G sz h1 H1 → tw_L G locs1 → tm_rg r → F (r, h1) = some x → W p l e R s m args below meth c H1 locs1 (cells + 0) (slots + 0) Q (F0 m (pc + 3) ls (.int (tw_I r) :: rest))) : W p l e R s m args below meth c H locs cells slots Q (F0 m pc ls (.int (tw_I a4) :: .int (tw_I a3) :: .int (tw_I a2) :: .int (tw_I a1) :: .ref this :: rest)) := by
  obtain ⟨r, hr, hF⟩ := Option.bind_eq_some_iff.mp hk
  have ob : ∀ r, fX8_gain this a1 a2 a3 a4 h = some r → tm_is h 8 this := fun r hr => by
    unfold fX8_gain at hr
    exact (tm_th_is hr).1
  exact tw_backi (tw_runV hC hR (cX8_gain_ok l G sz this a1 a2 a3 a4 ga1 ga2 ga3 ga4 h r hr) (n := 4) (As := [.int (tw_I a1), .int (tw_I a2), .int (tw_I a3), .int (tw_I a4)]) ⟨tw_in_TB 615 (by decide +kernel) rfl, tw_in_TB 9 (by decide +kernel) rfl, by decide +kernel⟩ (tw_in_TB 613 (by decide +kernel) rfl) (tw_in_TB 614 (by decide +kernel) rfl) hl ⟨rfl, rfl⟩ hRm (ob r hr) (T := TX8) (N := 6) rfl rfl hsz rfl hW hdg hf) hL (fun H1 locs1 a b g => kk r.1 r.2 H1 locs1 a b g hF)
def rmX8_greediest : Room := { frames := 5, cells := 0, slots := 0, locals := 119 }
set_option maxRecDepth 100000 in
set_option maxHeartbeats 4000000 in
theorem sX8_greediest_S0 {l : Launch} {p : Program} {e : Env} {s : State} {m : MethodId} {args : Array Value} {below : List Frame} {meth : Method} {c : Code} (G : tw_G) (sz : Nat) (hC : tw_C G p s m args meth c RX8 cX8_greediest 4 (some .int)) (this : Nat)  : ∀ (k : Nat) (st : (Int × Int × Int × tm_H) ⊕ (Int × Int × Int × tm_H)) (out : Int × tm_H), tm_wit (fX8_greediest_S0 this) k st = some out → match st with
    | .inl ((x1, x2, x3, h)) => ∀ (H : Heap) (locs : List Loc) (ls : Array Slot), tm_rg x1 → tm_rg x2 → tm_rg x3 → tw_Rel G sz h H → tw_L G locs → lv_has ls 4 [(0, .ref this), (1, .int (tw_I x1)), (2, .int (tw_I x2)), (3, .int (tw_I x3))] → W p l e rmX8_greediest s m args below meth c H locs 0 0 (MQ below (tw_Qi G sz out.1 out.2) args s 0 0 (tw_F G)) (F0 m 7 ls [])
    | .inr ((x1, x2, x3, h)) => ∀ (H : Heap) (locs : List Loc) (ls : Array Slot), tm_rg x1 → tm_rg x2 → tm_rg x3 → tw_Rel G sz h H → tw_L G locs → lv_has ls 4 [(0, .ref this), (1, .int (tw_I x1)), (2, .int (tw_I x2)), (3, .int (tw_I x3))] → W p l e rmX8_greediest s m args below meth c H locs 0 0 (MQ below (tw_Qi G sz out.1 out.2) args s 0 0 (tw_F G)) (F0 m 75 ls []) := by
  intro k
  induction k with
  | zero =>
    intro st out hk
    exact absurd hk (by unfold tm_wit; exact fun z => by cases z)
  | succ k ih =>
    intro st out hk
    obtain ⟨X, hk, hf⟩ := tm_wit_succ hk
    obtain ⟨x1, x2, x3, h⟩ | ⟨x1, x2, x3, h⟩ := st
    · intro H locs ls gx1 gx2 gx3 hR hL hl
      dsimp only [fX8_greediest_S0] at hk
      refine lv_iload_n hC.1 hC.2.1 dX8_greediest_7 rfl (lv_at hl 3 rfl) ?_
      refine lv_aload_n hC.1 hC.2.1 dX8_greediest_8 rfl (lv_at hl 0 rfl) ?_
      refine tw_getR hC hR hk flX8_10 dX8_greediest_9 (fun r1 hk => ?_)
      refine tw_getR hC hR hk flX8_102 dX8_greediest_12 (fun r2 hk => ?_)
      refine kX5_size hC hR hL hk mlX8_106 ⟨by decide, by decide⟩ hl.1 (Nat.le_of_ble_eq_true rfl) ⟨Nat.zero_le _, Nat.zero_le _⟩ dX8_greediest_15 (fun v3 H locs hR hL gv3 hk => ?_)
      refine tw_cge (tgt := 81) hC hk gx3 gv3 dX8_greediest_18 (by decide) (fun _ hk => ?_) (fun _ hk => ?_)
      · refine lv_aload_n hC.1 hC.2.1 dX8_greediest_21 rfl (lv_at hl 0 rfl) ?_
        refine tw_getR hC hR hk flX8_16 dX8_greediest_22 (fun r4 hk => ?_)
        refine lv_aload_n hC.1 hC.2.1 dX8_greediest_25 rfl (lv_at hl 0 rfl) ?_
        refine tw_getR hC hR hk flX8_10 dX8_greediest_26 (fun r5 hk => ?_)
        refine kX4_copyFrom hC hR hL hk mlX8_169 ⟨by decide, by decide⟩ hl.1 (Nat.le_of_ble_eq_true rfl) ⟨Nat.zero_le _, Nat.zero_le _⟩ dX8_greediest_29 (fun h6 H locs hR hL hk => ?_)
        refine lv_aload_n hC.1 hC.2.1 dX8_greediest_32 rfl (lv_at hl 0 rfl) ?_
        refine tw_getR hC hR hk flX8_16 dX8_greediest_33 (fun r7 hk => ?_)
        refine tw_getR hC hR hk flX8_102 dX8_greediest_36 (fun r8 hk => ?_)
        refine lv_iload_n hC.1 hC.2.1 dX8_greediest_39 rfl (lv_at hl 3 rfl) ?_
        refine kX5_drop hC hR hL hk gx3 mlX8_114 ⟨by decide, by decide⟩ hl.1 (Nat.le_of_ble_eq_true rfl) ⟨Nat.zero_le _, Nat.zero_le _⟩ dX8_greediest_40 (fun h9 H locs hR hL hk => ?_)
        refine lv_aload_n hC.1 hC.2.1 dX8_greediest_43 rfl (lv_at hl 0 rfl) ?_
        refine tw_getR hC hR hk flX8_36 dX8_greediest_44 (fun r10 hk => ?_)
        refine lv_aload_n hC.1 hC.2.1 dX8_greediest_47 rfl (lv_at hl 0 rfl) ?_
        refine tw_getR hC hR hk flX8_16 dX8_greediest_48 (fun r11 hk => ?_)
        refine kX3_read hC hR hL hk mlX8_227 ⟨by decide, by decide⟩ hl.1 (Nat.le_of_ble_eq_true rfl) ⟨Nat.zero_le _, Nat.zero_le _⟩ dX8_greediest_51 (fun h12 H locs hR hL hk => ?_)
        refine lv_aload_n hC.1 hC.2.1 dX8_greediest_54 rfl (lv_at hl 0 rfl) ?_
        refine tw_getR hC hR hk flX8_36 dX8_greediest_55 (fun r13 hk => ?_)
        refine kX3_markCount hC hR hL hk mlX8_94 ⟨by decide, by decide⟩ hl.1 (Nat.le_of_ble_eq_true rfl) ⟨Nat.zero_le _, Nat.zero_le _⟩ dX8_greediest_58 (fun v14 H locs hR hL gv14 hk => ?_)
        refine lv_iload_n hC.1 hC.2.1 dX8_greediest_61 rfl (lv_at hl 2 rfl) ?_
        refine tw_cle (tgt := 75) hC hk gv14 gx2 dX8_greediest_62 (by decide) (fun _ hk => ?_) (fun _ hk => ?_)
        · refine lv_aload_n hC.1 hC.2.1 dX8_greediest_65 rfl (lv_at hl 0 rfl) ?_
          refine tw_getR hC hR hk flX8_36 dX8_greediest_66 (fun r15 hk => ?_)
          refine kX3_markCount hC hR hL hk mlX8_94 ⟨by decide, by decide⟩ hl.1 (Nat.le_of_ble_eq_true rfl) ⟨Nat.zero_le _, Nat.zero_le _⟩ dX8_greediest_69 (fun v16 H locs hR hL gv16 hk => ?_)
          refine lv_istore_n (lv' := [(2, .int (tw_I v16)), (0, .ref this), (1, .int (tw_I x1)), (3, .int (tw_I x3))]) hC.1 hC.2.1 dX8_greediest_72 rfl hl (by decide) rfl (fun ls hl => ?_)
          refine lv_iload_n hC.1 hC.2.1 dX8_greediest_73 rfl (lv_at hl 3 rfl) ?_
          refine lv_istore_n (lv' := [(1, .int (tw_I x3)), (2, .int (tw_I v16)), (0, .ref this), (3, .int (tw_I x3))]) hC.1 hC.2.1 dX8_greediest_74 rfl hl (by decide) rfl (fun ls hl => ?_)
          cases hk
          exact ih _ out hf H locs _ gx3 gv16 gx3 hR hL (lv_sub hl [2, 0, 1, 3] rfl)
        · cases hk
          exact ih _ out hf H locs _ gx1 gx2 gx3 hR hL (lv_sub hl [0, 1, 2, 3] rfl)
      · refine lv_iload_n hC.1 hC.2.1 dX8_greediest_81 rfl (lv_at hl 1 rfl) ?_
        cases hk
        cases hf
        exact tw_iret hC hR hL gx1 rfl rfl dX8_greediest_82
    · intro H locs ls gx1 gx2 gx3 hR hL hl
      dsimp only [fX8_greediest_S0] at hk
      refine tw_iinc (lv' := [(3, .int (tw_I (tm_wr (x3 + 1)))), (0, .ref this), (1, .int (tw_I x1)), (2, .int (tw_I x2))]) hC dX8_greediest_75 hl (k := 3) rfl (by decide) rfl (fun ls hl => ?_)
      refine lv_goto (tgt := 7) hC.1 hC.2.1 dX8_greediest_78 (by decide) ?_
      cases hk
      exact ih _ out hf H locs _ gx1 gx2 ((tm_wr_rg _)) hR hL (lv_sub hl [1, 2, 3, 0] rfl)
theorem sX8_greediest_L7 {l : Launch} {p : Program} {e : Env} {s : State} {m : MethodId} {args : Array Value} {below : List Frame} {meth : Method} {c : Code} (G : tw_G) (sz : Nat) (hC : tw_C G p s m args meth c RX8 cX8_greediest 4 (some .int)) (this : Nat)  (x1 : Int) (x2 : Int) (x3 : Int) (h : tm_H) (gx1 : tm_rg x1) (gx2 : tm_rg x2) (gx3 : tm_rg x3) (out : Int × tm_H) (hk : fX8_greediest_L7 this x1 x2 x3 h = some out) (H : Heap) (locs : List Loc) (ls : Array Slot) (hR : tw_Rel G sz h H) (hL : tw_L G locs) (hl : lv_has ls 4 [(0, .ref this), (1, .int (tw_I x1)), (2, .int (tw_I x2)), (3, .int (tw_I x3))]) : W p l e rmX8_greediest s m args below meth c H locs 0 0 (MQ below (tw_Qi G sz out.1 out.2) args s 0 0 (tw_F G)) (F0 m 7 ls []) := by
  obtain ⟨k, hk⟩ := tm_wl_iff.mp hk
  exact sX8_greediest_S0 G sz hC this  k (.inl ((x1, x2, x3, h))) out hk H locs ls gx1 gx2 gx3 hR hL hl
theorem sX8_greediest_L75 {l : Launch} {p : Program} {e : Env} {s : State} {m : MethodId} {args : Array Value} {below : List Frame} {meth : Method} {c : Code} (G : tw_G) (sz : Nat) (hC : tw_C G p s m args meth c RX8 cX8_greediest 4 (some .int)) (this : Nat)  (x1 : Int) (x2 : Int) (x3 : Int) (h : tm_H) (gx1 : tm_rg x1) (gx2 : tm_rg x2) (gx3 : tm_rg x3) (out : Int × tm_H) (hk : fX8_greediest_L75 this x1 x2 x3 h = some out) (H : Heap) (locs : List Loc) (ls : Array Slot) (hR : tw_Rel G sz h H) (hL : tw_L G locs) (hl : lv_has ls 4 [(0, .ref this), (1, .int (tw_I x1)), (2, .int (tw_I x2)), (3, .int (tw_I x3))]) : W p l e rmX8_greediest s m args below meth c H locs 0 0 (MQ below (tw_Qi G sz out.1 out.2) args s 0 0 (tw_F G)) (F0 m 75 ls []) := by
  obtain ⟨k, hk⟩ := tm_wl_iff.mp hk
  exact sX8_greediest_S0 G sz hC this  k (.inr ((x1, x2, x3, h))) out hk H locs ls gx1 gx2 gx3 hR hL hl
set_option maxRecDepth 100000 in
set_option maxHeartbeats 4000000 in
theorem cX8_greediest_ok (l : Launch) (G : tw_G) (sz : Nat) (this : Nat)  (h : tm_H) (out : Int × tm_H) (hk : fX8_greediest this h = some out) : Met l yX8_greediest (tw_WS yX8_greediest cX8_greediest 4 (some .int)) rmX8_greediest (va_Pc [.ref this] (tw_Pre G sz h)) (tw_Qi G sz out.1 out.2) 0 0 (tw_F G) := by
  refine tw_met (by decide +kernel) (Nat.le_of_ble_eq_true rfl) ?_
  intro p e s m args below meth c H ls hC hnm hR hl
  unfold fX8_greediest at hk
  obtain ⟨hob, hk⟩ := tm_th_is hk
  have hl : lv_has ls 4 [(0, .ref this)] := hl
  have hL : tw_L G [] := fun q z => by cases z
  generalize hlc : ([] : List Loc) = locs at hL ⊢
  refine lv_bipush (v := tw_I (-99)) hC.1 hC.2.1 dX8_greediest_0 (by decide) ?_
  refine lv_istore_n (lv' := [(1, .int (tw_I ((-99)))), (0, .ref this)]) hC.1 hC.2.1 dX8_greediest_2 rfl hl (by decide) rfl (fun ls hl => ?_)
  refine lv_iconst (v := tw_I (-1)) hC.1 hC.2.1 dX8_greediest_3 rfl ?_
  refine lv_istore_n (lv' := [(2, .int (tw_I ((-1)))), (1, .int (tw_I ((-99)))), (0, .ref this)]) hC.1 hC.2.1 dX8_greediest_4 rfl hl (by decide) rfl (fun ls hl => ?_)
  refine lv_iconst (v := tw_I 0) hC.1 hC.2.1 dX8_greediest_5 rfl ?_
  refine lv_istore_n (lv' := [(3, .int (tw_I 0)), (2, .int (tw_I ((-1)))), (1, .int (tw_I ((-99)))), (0, .ref this)]) hC.1 hC.2.1 dX8_greediest_6 rfl hl (by decide) rfl (fun ls hl => ?_)
  exact sX8_greediest_L7 G sz hC this ((-99)) ((-1)) 0 h ((tw_rgL rfl)) ((tw_rgL rfl)) ((tw_rgL rfl)) out hk H locs _ hR hL (lv_sub hl [3, 2, 1, 0] rfl)
set_option maxRecDepth 100000 in
theorem kX8_greediest {l : Launch} {p : Program} {e : Env} {R : Room} {s : State} {m : MethodId} {args : Array Value} {below : List Frame} {meth : Method} {c : Code} {H : Heap} {locs : List Loc} {cells slots : Nat} {Q : State → Prop} {cc : ByteArray} {pc nL idx : Nat} {ls : Array Slot} {rest : List Value} {G : tw_G} {h : tm_H} {own : String} {ret : Option FieldType} {α : Type} {x : α} {sz : Nat} {this : Nat} (hC : tw_C G p s m args meth c own cc nL ret) (hR : tw_Rel G sz h H) (hL : tw_L G locs) {F : Int × tm_H → Option α} (hk : (fX8_greediest this h).bind F = some x)  (hl : tw_mL own idx yX8_greediest) (hRm : rmX8_greediest.frames + 1 ≤ R.frames ∧ 8 + (4 + 11) + rmX8_greediest.locals ≤ R.locals) (hsz : ls.size = nL) (hW : (rest.map fun v => v.category).sum ≤ 8) (hf : cells + 0 ≤ R.cells ∧ slots + 0 ≤ R.slots) (hdg : decode cc pc = .ok (.invokevirtual idx, 3)) (kk : ∀ (r : Int) (h1 : tm_H) (H1 : Heap) (locs1 : List Loc), tw_Rel G sz h1 H1 → tw_L G locs1 → tm_rg r → F (r, h1) = some x → W p l e R s m args below meth c H1 locs1 (cells + 0) (slots + 0) Q (F0 m (pc + 3) ls (.int (tw_I r) :: rest))) : W p l e R s m args below meth c H locs cells slots Q (F0 m pc ls (.ref this :: rest)) := by
  obtain ⟨r, hr, hF⟩ := Option.bind_eq_some_iff.mp hk
  have ob : ∀ r, fX8_greediest this h = some r → tm_is h 8 this := fun r hr => by
    unfold fX8_greediest at hr
    exact (tm_th_is hr).1
  exact tw_backi (tw_runV hC hR (cX8_greediest_ok l G sz this  h r hr) (n := 0) (As := []) ⟨tw_in_TB 641 (by decide +kernel) rfl, tw_in_TB 9 (by decide +kernel) rfl, by decide +kernel⟩ (tw_in_TB 639 (by decide +kernel) rfl) (tw_in_TB 640 (by decide +kernel) rfl) hl ⟨rfl, rfl⟩ hRm (ob r hr) (T := TX8) (N := 6) rfl rfl hsz rfl hW hdg hf) hL (fun H1 locs1 a b g => kk r.1 r.2 H1 locs1 a b g hF)
def rmL_cell : Room := { frames := 0, cells := 0, slots := 0, locals := 0 }
set_option maxRecDepth 100000 in
set_option maxHeartbeats 4000000 in
theorem sL_cell_L18 {l : Launch} {p : Program} {e : Env} {s : State} {m : MethodId} {args : Array Value} {below : List Frame} {meth : Method} {c : Code} (G : tw_G) (sz : Nat) (hC : tw_C G p s m args meth c RL cL_cell 3 (some .int)) (scr : tm_Xs) (a2 : Int) (gscr : scr = tw_xs G) (ga2 : tm_rg a2) (h : tm_H) (s0 : Int) (gs0 : tm_rg s0) (out : Int) (hk : fL_cell_L18 scr a2 h s0 = some out) (H : Heap) (locs : List Loc) (ls : Array Slot) (hR : tw_Rel G sz h H) (hL : tw_L G locs) (hl : lv_has ls 3 [(0, .ref (tw_xb G)), (1, .int (tw_I a2))]) : W p l e rmL_cell s m args below meth c H locs 0 0 (MQ below (tw_Qi G sz out h) args s 0 0 (tw_F G)) (F0 m 18 ls [.int (tw_I s0)]) := by
  unfold fL_cell_L18 at hk
  refine lv_istore_n (lv' := [(2, .int (tw_I s0)), (0, .ref (tw_xb G)), (1, .int (tw_I a2))]) hC.1 hC.2.1 dL_cell_18 rfl hl (by decide) rfl (fun ls hl => ?_)
  refine lv_iload_n hC.1 hC.2.1 dL_cell_19 rfl (lv_at hl 0 rfl) ?_
  refine lv_iload_n hC.1 hC.2.1 dL_cell_20 rfl (lv_at hl 0 rfl) ?_
  refine lv_bipush (v := tw_I 15) hC.1 hC.2.1 dL_cell_21 (by decide) ?_
  refine tw_iushr hC dL_cell_23 ?_
  refine tw_ixor hC dL_cell_24 ?_
  cases hk
  exact tw_iret hC hR hL ((tm_xor_rg _ _)) rfl rfl dL_cell_25
set_option maxRecDepth 100000 in
set_option maxHeartbeats 4000000 in
theorem cL_cell_ok (l : Launch) (G : tw_G) (sz : Nat) (scr : tm_Xs) (a2 : Int) (gscr : scr = tw_xs G) (ga2 : tm_rg a2) (h : tm_H) (out : Int) (hk : fL_cell scr a2 h = some out) : Met l yL_cell (tw_WS yL_cell cL_cell 3 (some .int)) rmL_cell (va_Pc [.ref (tw_xb G), .int (tw_I a2)] (tw_Pre G sz h)) (tw_Qi G sz out h) 0 0 (tw_F G) := by
  refine tw_met (by decide +kernel) (Nat.le_of_ble_eq_true rfl) ?_
  intro p e s m args below meth c H ls hC hnm hR hl
  unfold fL_cell at hk
  have hl : lv_has ls 3 [(0, .ref (tw_xb G)), (1, .int (tw_I a2))] := hl
  have hL : tw_L G [] := fun q z => by cases z
  generalize hlc : ([] : List Loc) = locs at hL ⊢
  refine lv_iload_n hC.1 hC.2.1 dL_cell_0 rfl (lv_at hl 1 rfl) ?_
  refine lv_aload_n hC.1 hC.2.1 dL_cell_1 rfl (lv_at hl 0 rfl) ?_
  refine tw_scl hC hR gscr dL_cell_2 ?_
  refine tw_cge (tgt := 12) hC hk ga2 ((tw_scL hC gscr)) dL_cell_3 (by decide) (fun _ hk => ?_) (fun _ hk => ?_)
  · refine lv_aload_n hC.1 hC.2.1 dL_cell_6 rfl (lv_at hl 0 rfl) ?_
    refine lv_iload_n hC.1 hC.2.1 dL_cell_7 rfl (lv_at hl 1 rfl) ?_
    refine tw_scld hC hR gscr hk dL_cell_8 (fun v1 gv1 hk => ?_)
    refine lv_goto (tgt := 18) hC.1 hC.2.1 dL_cell_9 (by decide) ?_
    exact sL_cell_L18 G sz hC scr a2 gscr ga2 h v1 gv1 out hk H locs _ hR hL (lv_sub hl [0, 1] rfl)
  · refine tw_ldc (z := 916318735) (v := 916318735) hC (tw_in_TB 357 (by decide +kernel) rfl) (by decide) dL_cell_12 ?_
    refine lv_iload_n hC.1 hC.2.1 dL_cell_14 rfl (lv_at hl 1 rfl) ?_
    refine lv_iconst (v := tw_I 3) hC.1 hC.2.1 dL_cell_15 rfl ?_
    refine tw_iadd hC dL_cell_16 ?_
    refine tw_imul hC dL_cell_17 ?_
    exact sL_cell_L18 G sz hC scr a2 gscr ga2 h (tm_wr (916318735 * (tm_wr (a2 + 3)))) ((tm_wr_rg _)) out hk H locs _ hR hL (lv_sub hl [0, 1] rfl)
set_option maxRecDepth 100000 in
theorem kL_cell {l : Launch} {p : Program} {e : Env} {R : Room} {s : State} {m : MethodId} {args : Array Value} {below : List Frame} {meth : Method} {c : Code} {H : Heap} {locs : List Loc} {cells slots : Nat} {Q : State → Prop} {cc : ByteArray} {pc nL idx : Nat} {ls : Array Slot} {rest : List Value} {G : tw_G} {h : tm_H} {own : String} {ret : Option FieldType} {α : Type} {x : α} {sz : Nat} {scr : tm_Xs} {a2 : Int} (hC : tw_C G p s m args meth c own cc nL ret) (hR : tw_Rel G sz h H) (hL : tw_L G locs) {F : Int → Option α} (hk : (fL_cell scr a2 h).bind F = some x) (gscr : scr = tw_xs G) (ga2 : tm_rg a2) (hl : tw_mL own idx yL_cell) (hRm : rmL_cell.frames + 1 ≤ R.frames ∧ 8 + (3 + 11) + rmL_cell.locals ≤ R.locals) (hsz : ls.size = nL) (hW : (rest.map fun v => v.category).sum ≤ 8) (hf : cells + 0 ≤ R.cells ∧ slots + 0 ≤ R.slots) (hdg : decode cc pc = .ok (.invokestatic idx, 3)) (kk : ∀ (r : Int) (H1 : Heap) (locs1 : List Loc), tw_Rel G sz h H1 → tw_L G locs1 → tm_rg r → F r = some x → W p l e R s m args below meth c H1 locs1 (cells + 0) (slots + 0) Q (F0 m (pc + 3) ls (.int (tw_I r) :: rest))) : W p l e R s m args below meth c H locs cells slots Q (F0 m pc ls (.int (tw_I a2) :: .ref (tw_xb G) :: rest)) := by
  obtain ⟨r, hr, hF⟩ := Option.bind_eq_some_iff.mp hk
  exact tw_backi (tw_runS hC hR (cL_cell_ok l G sz scr a2 gscr ga2 h r hr) (n := 2) ⟨tw_in_TB 356 (by decide +kernel) rfl, tw_in_TB 8 (by decide +kernel) rfl, by decide +kernel⟩ (tw_in_TB 355 (by decide +kernel) rfl) hl ⟨rfl, rfl⟩ hRm rfl hsz rfl hW hdg hf) hL (fun H1 locs1 a b g => kk r H1 locs1 a b g hF)
def rmL_low : Room := { frames := 0, cells := 0, slots := 0, locals := 0 }
set_option maxRecDepth 100000 in
set_option maxHeartbeats 4000000 in
theorem cL_low_ok (l : Launch) (G : tw_G) (sz : Nat) (a1 : Int) (a2 : Int) (ga1 : tm_rg a1) (ga2 : tm_rg a2) (h : tm_H) (out : Int) (hk : fL_low a1 a2 h = some out) : Met l yL_low (tw_WS yL_low cL_low 2 (some .int)) rmL_low (va_Pc [.int (tw_I a1), .int (tw_I a2)] (tw_Pre G sz h)) (tw_Qi G sz out h) 0 0 (tw_F G) := by
  refine tw_met (by decide +kernel) (Nat.le_of_ble_eq_true rfl) ?_
  intro p e s m args below meth c H ls hC hnm hR hl
  unfold fL_low at hk
  have hl : lv_has ls 2 [(0, .int (tw_I a1)), (1, .int (tw_I a2))] := hl
  have hL : tw_L G [] := fun q z => by cases z
  generalize hlc : ([] : List Loc) = locs at hL ⊢
  refine lv_iload_n hC.1 hC.2.1 dL_low_0 rfl (lv_at hl 0 rfl) ?_
  refine tw_ldc (z := 2147483647) (v := 2147483647) hC (tw_in_TB 361 (by decide +kernel) rfl) (by decide) dL_low_1 ?_
  refine tw_iand hC dL_low_3 ?_
  refine lv_iload_n hC.1 hC.2.1 dL_low_4 rfl (lv_at hl 1 rfl) ?_
  refine tw_irem hC ga2 hk dL_low_5 (fun v1 gv1 hk => ?_)
  cases hk
  exact tw_iret hC hR hL gv1 rfl rfl dL_low_6
set_option maxRecDepth 100000 in
theorem kL_low {l : Launch} {p : Program} {e : Env} {R : Room} {s : State} {m : MethodId} {args : Array Value} {below : List Frame} {meth : Method} {c : Code} {H : Heap} {locs : List Loc} {cells slots : Nat} {Q : State → Prop} {cc : ByteArray} {pc nL idx : Nat} {ls : Array Slot} {rest : List Value} {G : tw_G} {h : tm_H} {own : String} {ret : Option FieldType} {α : Type} {x : α} {sz : Nat} {a1 : Int} {a2 : Int} (hC : tw_C G p s m args meth c own cc nL ret) (hR : tw_Rel G sz h H) (hL : tw_L G locs) {F : Int → Option α} (hk : (fL_low a1 a2 h).bind F = some x) (ga1 : tm_rg a1) (ga2 : tm_rg a2) (hl : tw_mL own idx yL_low) (hRm : rmL_low.frames + 1 ≤ R.frames ∧ 8 + (2 + 11) + rmL_low.locals ≤ R.locals) (hsz : ls.size = nL) (hW : (rest.map fun v => v.category).sum ≤ 8) (hf : cells + 0 ≤ R.cells ∧ slots + 0 ≤ R.slots) (hdg : decode cc pc = .ok (.invokestatic idx, 3)) (kk : ∀ (r : Int) (H1 : Heap) (locs1 : List Loc), tw_Rel G sz h H1 → tw_L G locs1 → tm_rg r → F r = some x → W p l e R s m args below meth c H1 locs1 (cells + 0) (slots + 0) Q (F0 m (pc + 3) ls (.int (tw_I r) :: rest))) : W p l e R s m args below meth c H locs cells slots Q (F0 m pc ls (.int (tw_I a2) :: .int (tw_I a1) :: rest)) := by
  obtain ⟨r, hr, hF⟩ := Option.bind_eq_some_iff.mp hk
  exact tw_backi (tw_runS hC hR (cL_low_ok l G sz a1 a2 ga1 ga2 h r hr) (n := 2) ⟨tw_in_TB 360 (by decide +kernel) rfl, tw_in_TB 8 (by decide +kernel) rfl, by decide +kernel⟩ (tw_in_TB 359 (by decide +kernel) rfl) hl ⟨rfl, rfl⟩ hRm rfl hsz rfl hW hdg hf) hL (fun H1 locs1 a b g => kk r H1 locs1 a b g hF)
def rmL_print : Room := { frames := 7, cells := 0, slots := 0, locals := 162 }
set_option maxRecDepth 100000 in
set_option maxHeartbeats 4000000 in
theorem sL_print_S0 {l : Launch} {p : Program} {e : Env} {s : State} {m : MethodId} {args : Array Value} {below : List Frame} {meth : Method} {c : Code} (G : tw_G) (sz : Nat) (hC : tw_C G p s m args meth c RL cL_print 5 (some .long)) (a1 : Nat)  : ∀ (k : Nat) (st : (Int64 × Int × tm_H)) (out : Int64 × tm_H), tm_wit (fL_print_S0 a1) k st = some out → match st with
    | (x1, x3, h) => ∀ (H : Heap) (locs : List Loc) (ls : Array Slot), tm_rg x3 → tw_Rel G sz h H → tw_L G locs → lv_has ls 5 [(0, .ref a1), (1, .long x1), (3, .int (tw_I x3))] → W p l e rmL_print s m args below meth c H locs 0 0 (MQ below (tw_Ql G sz out.1 out.2) args s 0 0 (tw_F G)) (F0 m 138 ls []) := by
  intro k
  induction k with
  | zero =>
    intro st out hk
    exact absurd hk (by unfold tm_wit; exact fun z => by cases z)
  | succ k ih =>
    intro st out hk
    obtain ⟨X, hk, hf⟩ := tm_wit_succ hk
    obtain ⟨x1, x3, h⟩ := st
    intro H locs ls gx3 hR hL hl
    dsimp only [fL_print_S0] at hk
    refine lv_iload_n hC.1 hC.2.1 dL_print_138 rfl (lv_at hl 2 rfl) ?_
    refine lv_bipush (v := tw_I 60) hC.1 hC.2.1 dL_print_139 (by decide) ?_
    refine tw_cge (tgt := 163) hC hk gx3 ((tw_rgL rfl)) dL_print_141 (by decide) (fun _ hk => ?_) (fun _ hk => ?_)
    · refine tw_ldc2 (v := 31) hC (tw_in_TB 366 (by decide +kernel) rfl) dL_print_144 ?_
      refine lv_lload_n hC.1 hC.2.1 dL_print_147 rfl (lv_at hl 1 rfl) ?_
      refine lv_lmul hC.1 hC.2.1 dL_print_148 ?_
      refine lv_aload_n hC.1 hC.2.1 dL_print_149 rfl (lv_at hl 0 rfl) ?_
      refine lv_iload_n hC.1 hC.2.1 dL_print_150 rfl (lv_at hl 2 rfl) ?_
      refine kX8_base hC hR hL hk gx3 mlL_27 ⟨by decide, by decide⟩ hl.1 (Nat.le_of_ble_eq_true rfl) ⟨Nat.zero_le _, Nat.zero_le _⟩ dL_print_151 (fun v2 H locs hR hL gv2 hk => ?_)
      refine tw_i2l hC dL_print_154 ?_
      refine lv_ladd hC.1 hC.2.1 dL_print_155 ?_
      refine lv_lstore_n (lv' := [(1, .long ((((31 : Int64)) * x1) + (tm_i2l v2))), (0, .ref a1), (3, .int (tw_I x3))]) hC.1 hC.2.1 dL_print_156 rfl hl (by decide) rfl (fun ls hl => ?_)
      refine tw_iinc (lv' := [(3, .int (tw_I (tm_wr (x3 + 1)))), (1, .long ((((31 : Int64)) * x1) + (tm_i2l v2))), (0, .ref a1)]) hC dL_print_157 hl (k := 2) rfl (by decide) rfl (fun ls hl => ?_)
      refine lv_goto (tgt := 138) hC.1 hC.2.1 dL_print_160 (by decide) ?_
      cases hk
      exact ih _ out hf H locs _ ((tm_wr_rg _)) hR hL (lv_sub hl [2, 1, 0] rfl)
    · refine lv_lload_n hC.1 hC.2.1 dL_print_163 rfl (lv_at hl 1 rfl) ?_
      cases hk
      cases hf
      exact tw_lret hC hR hL rfl rfl dL_print_164
theorem sL_print_L138 {l : Launch} {p : Program} {e : Env} {s : State} {m : MethodId} {args : Array Value} {below : List Frame} {meth : Method} {c : Code} (G : tw_G) (sz : Nat) (hC : tw_C G p s m args meth c RL cL_print 5 (some .long)) (a1 : Nat)  (x1 : Int64) (x3 : Int) (h : tm_H) (gx3 : tm_rg x3) (out : Int64 × tm_H) (hk : fL_print_L138 a1 x1 x3 h = some out) (H : Heap) (locs : List Loc) (ls : Array Slot) (hR : tw_Rel G sz h H) (hL : tw_L G locs) (hl : lv_has ls 5 [(0, .ref a1), (1, .long x1), (3, .int (tw_I x3))]) : W p l e rmL_print s m args below meth c H locs 0 0 (MQ below (tw_Ql G sz out.1 out.2) args s 0 0 (tw_F G)) (F0 m 138 ls []) := by
  obtain ⟨k, hk⟩ := tm_wl_iff.mp hk
  exact sL_print_S0 G sz hC a1  k ((x1, x3, h)) out hk H locs ls gx3 hR hL hl
set_option maxRecDepth 100000 in
set_option maxHeartbeats 4000000 in
theorem sL_print_S1 {l : Launch} {p : Program} {e : Env} {s : State} {m : MethodId} {args : Array Value} {below : List Frame} {meth : Method} {c : Code} (G : tw_G) (sz : Nat) (hC : tw_C G p s m args meth c RL cL_print 5 (some .long)) (a1 : Nat)  : ∀ (k : Nat) (st : (Int64 × Int × tm_H) ⊕ (Int64 × Int × Int × tm_H)) (out : Int64 × tm_H), tm_wit (fL_print_S1 a1) k st = some out → match st with
    | .inl ((x1, x3, h)) => ∀ (H : Heap) (locs : List Loc) (ls : Array Slot), tm_rg x3 → tw_Rel G sz h H → tw_L G locs → lv_has ls 5 [(0, .ref a1), (1, .long x1), (3, .int (tw_I x3))] → W p l e rmL_print s m args below meth c H locs 0 0 (MQ below (tw_Ql G sz out.1 out.2) args s 0 0 (tw_F G)) (F0 m 93 ls [])
    | .inr ((x1, x3, x4, h)) => ∀ (H : Heap) (locs : List Loc) (ls : Array Slot), tm_rg x3 → tm_rg x4 → tw_Rel G sz h H → tw_L G locs → lv_has ls 5 [(0, .ref a1), (1, .long x1), (3, .int (tw_I x3)), (4, .int (tw_I x4))] → W p l e rmL_print s m args below meth c H locs 0 0 (MQ below (tw_Ql G sz out.1 out.2) args s 0 0 (tw_F G)) (F0 m 102 ls []) := by
  intro k
  induction k with
  | zero =>
    intro st out hk
    exact absurd hk (by unfold tm_wit; exact fun z => by cases z)
  | succ k ih =>
    intro st out hk
    obtain ⟨X, hk, hf⟩ := tm_wit_succ hk
    obtain ⟨x1, x3, h⟩ | ⟨x1, x3, x4, h⟩ := st
    · intro H locs ls gx3 hR hL hl
      dsimp only [fL_print_S1] at hk
      refine lv_iload_n hC.1 hC.2.1 dL_print_93 rfl (lv_at hl 2 rfl) ?_
      refine lv_bipush (v := tw_I 12) hC.1 hC.2.1 dL_print_94 (by decide) ?_
      refine tw_cge (tgt := 136) hC hk gx3 ((tw_rgL rfl)) dL_print_96 (by decide) (fun _ hk => ?_) (fun _ hk => ?_)
      · refine lv_iconst (v := tw_I 0) hC.1 hC.2.1 dL_print_99 rfl ?_
        refine lv_istore (lv' := [(4, .int (tw_I 0)), (0, .ref a1), (1, .long x1), (3, .int (tw_I x3))]) hC.1 hC.2.1 dL_print_100 hl (by decide) rfl (fun ls hl => ?_)
        cases hk
        exact ih _ out hf H locs _ gx3 ((tw_rgL rfl)) hR hL (lv_sub hl [1, 2, 3, 0] rfl)
      · refine lv_iconst (v := tw_I 0) hC.1 hC.2.1 dL_print_136 rfl ?_
        refine lv_istore_n (lv' := [(3, .int (tw_I 0)), (0, .ref a1), (1, .long x1)]) hC.1 hC.2.1 dL_print_137 rfl hl (by decide) rfl (fun ls hl => ?_)
        obtain ⟨r, hk2, hX⟩ := tm_out_some hk
        rw [hX] at hf
        have hr : r = out := Option.some.inj hf
        rw [hr] at hk2
        exact sL_print_L138 G sz hC a1 x1 0 h ((tw_rgL rfl)) out hk2 H locs _ hR hL (lv_sub hl [1, 2, 0] rfl)
    · intro H locs ls gx3 gx4 hR hL hl
      dsimp only [fL_print_S1] at hk
      refine lv_iload hC.1 hC.2.1 dL_print_102 (lv_at hl 3 rfl) ?_
      refine lv_bipush (v := tw_I 6) hC.1 hC.2.1 dL_print_104 (by decide) ?_
      refine tw_cge (tgt := 130) hC hk gx4 ((tw_rgL rfl)) dL_print_106 (by decide) (fun _ hk => ?_) (fun _ hk => ?_)
      · refine tw_ldc2 (v := 31) hC (tw_in_TB 366 (by decide +kernel) rfl) dL_print_109 ?_
        refine lv_lload_n hC.1 hC.2.1 dL_print_112 rfl (lv_at hl 1 rfl) ?_
        refine lv_lmul hC.1 hC.2.1 dL_print_113 ?_
        refine lv_aload_n hC.1 hC.2.1 dL_print_114 rfl (lv_at hl 0 rfl) ?_
        refine lv_iload_n hC.1 hC.2.1 dL_print_115 rfl (lv_at hl 2 rfl) ?_
        refine lv_iload hC.1 hC.2.1 dL_print_116 (lv_at hl 3 rfl) ?_
        refine kX8_term hC hR hL hk gx3 gx4 mlL_23 ⟨by decide, by decide⟩ hl.1 (Nat.le_of_ble_eq_true rfl) ⟨Nat.zero_le _, Nat.zero_le _⟩ dL_print_118 (fun v3 h3 H locs hR hL gv3 hk => ?_)
        refine tw_i2l hC dL_print_121 ?_
        refine lv_ladd hC.1 hC.2.1 dL_print_122 ?_
        refine lv_lstore_n (lv' := [(1, .long ((((31 : Int64)) * x1) + (tm_i2l v3))), (0, .ref a1), (3, .int (tw_I x3)), (4, .int (tw_I x4))]) hC.1 hC.2.1 dL_print_123 rfl hl (by decide) rfl (fun ls hl => ?_)
        refine tw_iinc (lv' := [(4, .int (tw_I (tm_wr (x4 + 1)))), (1, .long ((((31 : Int64)) * x1) + (tm_i2l v3))), (0, .ref a1), (3, .int (tw_I x3))]) hC dL_print_124 hl (k := 3) rfl (by decide) rfl (fun ls hl => ?_)
        refine lv_goto (tgt := 102) hC.1 hC.2.1 dL_print_127 (by decide) ?_
        cases hk
        exact ih _ out hf H locs _ gx3 ((tm_wr_rg _)) hR hL (lv_sub hl [2, 1, 3, 0] rfl)
      · refine tw_iinc (lv' := [(3, .int (tw_I (tm_wr (x3 + 1)))), (0, .ref a1), (1, .long x1), (4, .int (tw_I x4))]) hC dL_print_130 hl (k := 2) rfl (by decide) rfl (fun ls hl => ?_)
        refine lv_goto (tgt := 93) hC.1 hC.2.1 dL_print_133 (by decide) ?_
        cases hk
        exact ih _ out hf H locs _ ((tm_wr_rg _)) hR hL (lv_sub hl [1, 2, 0] rfl)
theorem sL_print_L93 {l : Launch} {p : Program} {e : Env} {s : State} {m : MethodId} {args : Array Value} {below : List Frame} {meth : Method} {c : Code} (G : tw_G) (sz : Nat) (hC : tw_C G p s m args meth c RL cL_print 5 (some .long)) (a1 : Nat)  (x1 : Int64) (x3 : Int) (h : tm_H) (gx3 : tm_rg x3) (out : Int64 × tm_H) (hk : fL_print_L93 a1 x1 x3 h = some out) (H : Heap) (locs : List Loc) (ls : Array Slot) (hR : tw_Rel G sz h H) (hL : tw_L G locs) (hl : lv_has ls 5 [(0, .ref a1), (1, .long x1), (3, .int (tw_I x3))]) : W p l e rmL_print s m args below meth c H locs 0 0 (MQ below (tw_Ql G sz out.1 out.2) args s 0 0 (tw_F G)) (F0 m 93 ls []) := by
  obtain ⟨k, hk⟩ := tm_wl_iff.mp hk
  exact sL_print_S1 G sz hC a1  k (.inl ((x1, x3, h))) out hk H locs ls gx3 hR hL hl
theorem sL_print_L102 {l : Launch} {p : Program} {e : Env} {s : State} {m : MethodId} {args : Array Value} {below : List Frame} {meth : Method} {c : Code} (G : tw_G) (sz : Nat) (hC : tw_C G p s m args meth c RL cL_print 5 (some .long)) (a1 : Nat)  (x1 : Int64) (x3 : Int) (x4 : Int) (h : tm_H) (gx3 : tm_rg x3) (gx4 : tm_rg x4) (out : Int64 × tm_H) (hk : fL_print_L102 a1 x1 x3 x4 h = some out) (H : Heap) (locs : List Loc) (ls : Array Slot) (hR : tw_Rel G sz h H) (hL : tw_L G locs) (hl : lv_has ls 5 [(0, .ref a1), (1, .long x1), (3, .int (tw_I x3)), (4, .int (tw_I x4))]) : W p l e rmL_print s m args below meth c H locs 0 0 (MQ below (tw_Ql G sz out.1 out.2) args s 0 0 (tw_F G)) (F0 m 102 ls []) := by
  obtain ⟨k, hk⟩ := tm_wl_iff.mp hk
  exact sL_print_S1 G sz hC a1  k (.inr ((x1, x3, x4, h))) out hk H locs ls gx3 gx4 hR hL hl
set_option maxRecDepth 100000 in
set_option maxHeartbeats 4000000 in
theorem sL_print_S2 {l : Launch} {p : Program} {e : Env} {s : State} {m : MethodId} {args : Array Value} {below : List Frame} {meth : Method} {c : Code} (G : tw_G) (sz : Nat) (hC : tw_C G p s m args meth c RL cL_print 5 (some .long)) (a1 : Nat)  : ∀ (k : Nat) (st : (Int64 × Int × tm_H) ⊕ (Int64 × Int × Int × tm_H)) (out : Int64 × tm_H), tm_wit (fL_print_S2 a1) k st = some out → match st with
    | .inl ((x1, x3, h)) => ∀ (H : Heap) (locs : List Loc) (ls : Array Slot), tm_rg x3 → tw_Rel G sz h H → tw_L G locs → lv_has ls 5 [(0, .ref a1), (1, .long x1), (3, .int (tw_I x3))] → W p l e rmL_print s m args below meth c H locs 0 0 (MQ below (tw_Ql G sz out.1 out.2) args s 0 0 (tw_F G)) (F0 m 33 ls [])
    | .inr ((x1, x3, x4, h)) => ∀ (H : Heap) (locs : List Loc) (ls : Array Slot), tm_rg x3 → tm_rg x4 → tw_Rel G sz h H → tw_L G locs → lv_has ls 5 [(0, .ref a1), (1, .long x1), (3, .int (tw_I x3)), (4, .int (tw_I x4))] → W p l e rmL_print s m args below meth c H locs 0 0 (MQ below (tw_Ql G sz out.1 out.2) args s 0 0 (tw_F G)) (F0 m 42 ls []) := by
  intro k
  induction k with
  | zero =>
    intro st out hk
    exact absurd hk (by unfold tm_wit; exact fun z => by cases z)
  | succ k ih =>
    intro st out hk
    obtain ⟨X, hk, hf⟩ := tm_wit_succ hk
    obtain ⟨x1, x3, h⟩ | ⟨x1, x3, x4, h⟩ := st
    · intro H locs ls gx3 hR hL hl
      dsimp only [fL_print_S2] at hk
      refine lv_iload_n hC.1 hC.2.1 dL_print_33 rfl (lv_at hl 2 rfl) ?_
      refine lv_bipush (v := tw_I 6) hC.1 hC.2.1 dL_print_34 (by decide) ?_
      refine tw_cge (tgt := 91) hC hk gx3 ((tw_rgL rfl)) dL_print_36 (by decide) (fun _ hk => ?_) (fun _ hk => ?_)
      · refine lv_iconst (v := tw_I 0) hC.1 hC.2.1 dL_print_39 rfl ?_
        refine lv_istore (lv' := [(4, .int (tw_I 0)), (0, .ref a1), (1, .long x1), (3, .int (tw_I x3))]) hC.1 hC.2.1 dL_print_40 hl (by decide) rfl (fun ls hl => ?_)
        cases hk
        exact ih _ out hf H locs _ gx3 ((tw_rgL rfl)) hR hL (lv_sub hl [1, 2, 3, 0] rfl)
      · refine lv_iconst (v := tw_I 0) hC.1 hC.2.1 dL_print_91 rfl ?_
        refine lv_istore_n (lv' := [(3, .int (tw_I 0)), (0, .ref a1), (1, .long x1)]) hC.1 hC.2.1 dL_print_92 rfl hl (by decide) rfl (fun ls hl => ?_)
        obtain ⟨r, hk2, hX⟩ := tm_out_some hk
        rw [hX] at hf
        have hr : r = out := Option.some.inj hf
        rw [hr] at hk2
        exact sL_print_L93 G sz hC a1 x1 0 h ((tw_rgL rfl)) out hk2 H locs _ hR hL (lv_sub hl [1, 2, 0] rfl)
    · intro H locs ls gx3 gx4 hR hL hl
      dsimp only [fL_print_S2] at hk
      refine lv_iload hC.1 hC.2.1 dL_print_42 (lv_at hl 3 rfl) ?_
      refine lv_bipush (v := tw_I 40) hC.1 hC.2.1 dL_print_44 (by decide) ?_
      refine tw_cge (tgt := 85) hC hk gx4 ((tw_rgL rfl)) dL_print_46 (by decide) (fun _ hk => ?_) (fun _ hk => ?_)
      · refine tw_ldc2 (v := 31) hC (tw_in_TB 366 (by decide +kernel) rfl) dL_print_49 ?_
        refine tw_ldc2 (v := 31) hC (tw_in_TB 366 (by decide +kernel) rfl) dL_print_52 ?_
        refine lv_lload_n hC.1 hC.2.1 dL_print_55 rfl (lv_at hl 1 rfl) ?_
        refine lv_lmul hC.1 hC.2.1 dL_print_56 ?_
        refine lv_aload_n hC.1 hC.2.1 dL_print_57 rfl (lv_at hl 0 rfl) ?_
        refine lv_iload_n hC.1 hC.2.1 dL_print_58 rfl (lv_at hl 2 rfl) ?_
        refine lv_iload hC.1 hC.2.1 dL_print_59 (lv_at hl 3 rfl) ?_
        refine lv_iconst (v := tw_I 0) hC.1 hC.2.1 dL_print_61 rfl ?_
        refine kX8_place hC hR hL hk gx3 gx4 ((tw_rgL rfl)) mlL_19 ⟨by decide, by decide⟩ hl.1 (Nat.le_of_ble_eq_true rfl) ⟨Nat.zero_le _, Nat.zero_le _⟩ dL_print_62 (fun v4 h4 H locs hR hL gv4 hk => ?_)
        refine tw_i2l hC dL_print_65 ?_
        refine lv_ladd hC.1 hC.2.1 dL_print_66 ?_
        refine lv_lmul hC.1 hC.2.1 dL_print_67 ?_
        refine lv_aload_n hC.1 hC.2.1 dL_print_68 rfl (lv_at hl 0 rfl) ?_
        refine lv_iload_n hC.1 hC.2.1 dL_print_69 rfl (lv_at hl 2 rfl) ?_
        refine lv_iload hC.1 hC.2.1 dL_print_70 (lv_at hl 3 rfl) ?_
        refine lv_iconst (v := tw_I 2) hC.1 hC.2.1 dL_print_72 rfl ?_
        refine kX8_place hC hR hL hk gx3 gx4 ((tw_rgL rfl)) mlL_19 ⟨by decide, by decide⟩ hl.1 (Nat.le_of_ble_eq_true rfl) ⟨Nat.zero_le _, Nat.zero_le _⟩ dL_print_73 (fun v5 h5 H locs hR hL gv5 hk => ?_)
        refine tw_i2l hC dL_print_76 ?_
        refine lv_ladd hC.1 hC.2.1 dL_print_77 ?_
        refine lv_lstore_n (lv' := [(1, .long ((((31 : Int64)) * ((((31 : Int64)) * x1) + (tm_i2l v4))) + (tm_i2l v5))), (0, .ref a1), (3, .int (tw_I x3)), (4, .int (tw_I x4))]) hC.1 hC.2.1 dL_print_78 rfl hl (by decide) rfl (fun ls hl => ?_)
        refine tw_iinc (lv' := [(4, .int (tw_I (tm_wr (x4 + 1)))), (1, .long ((((31 : Int64)) * ((((31 : Int64)) * x1) + (tm_i2l v4))) + (tm_i2l v5))), (0, .ref a1), (3, .int (tw_I x3))]) hC dL_print_79 hl (k := 3) rfl (by decide) rfl (fun ls hl => ?_)
        refine lv_goto (tgt := 42) hC.1 hC.2.1 dL_print_82 (by decide) ?_
        cases hk
        exact ih _ out hf H locs _ gx3 ((tm_wr_rg _)) hR hL (lv_sub hl [2, 1, 3, 0] rfl)
      · refine tw_iinc (lv' := [(3, .int (tw_I (tm_wr (x3 + 1)))), (0, .ref a1), (1, .long x1), (4, .int (tw_I x4))]) hC dL_print_85 hl (k := 2) rfl (by decide) rfl (fun ls hl => ?_)
        refine lv_goto (tgt := 33) hC.1 hC.2.1 dL_print_88 (by decide) ?_
        cases hk
        exact ih _ out hf H locs _ ((tm_wr_rg _)) hR hL (lv_sub hl [1, 2, 0] rfl)
theorem sL_print_L33 {l : Launch} {p : Program} {e : Env} {s : State} {m : MethodId} {args : Array Value} {below : List Frame} {meth : Method} {c : Code} (G : tw_G) (sz : Nat) (hC : tw_C G p s m args meth c RL cL_print 5 (some .long)) (a1 : Nat)  (x1 : Int64) (x3 : Int) (h : tm_H) (gx3 : tm_rg x3) (out : Int64 × tm_H) (hk : fL_print_L33 a1 x1 x3 h = some out) (H : Heap) (locs : List Loc) (ls : Array Slot) (hR : tw_Rel G sz h H) (hL : tw_L G locs) (hl : lv_has ls 5 [(0, .ref a1), (1, .long x1), (3, .int (tw_I x3))]) : W p l e rmL_print s m args below meth c H locs 0 0 (MQ below (tw_Ql G sz out.1 out.2) args s 0 0 (tw_F G)) (F0 m 33 ls []) := by
  obtain ⟨k, hk⟩ := tm_wl_iff.mp hk
  exact sL_print_S2 G sz hC a1  k (.inl ((x1, x3, h))) out hk H locs ls gx3 hR hL hl
theorem sL_print_L42 {l : Launch} {p : Program} {e : Env} {s : State} {m : MethodId} {args : Array Value} {below : List Frame} {meth : Method} {c : Code} (G : tw_G) (sz : Nat) (hC : tw_C G p s m args meth c RL cL_print 5 (some .long)) (a1 : Nat)  (x1 : Int64) (x3 : Int) (x4 : Int) (h : tm_H) (gx3 : tm_rg x3) (gx4 : tm_rg x4) (out : Int64 × tm_H) (hk : fL_print_L42 a1 x1 x3 x4 h = some out) (H : Heap) (locs : List Loc) (ls : Array Slot) (hR : tw_Rel G sz h H) (hL : tw_L G locs) (hl : lv_has ls 5 [(0, .ref a1), (1, .long x1), (3, .int (tw_I x3)), (4, .int (tw_I x4))]) : W p l e rmL_print s m args below meth c H locs 0 0 (MQ below (tw_Ql G sz out.1 out.2) args s 0 0 (tw_F G)) (F0 m 42 ls []) := by
  obtain ⟨k, hk⟩ := tm_wl_iff.mp hk
  exact sL_print_S2 G sz hC a1  k (.inr ((x1, x3, x4, h))) out hk H locs ls gx3 gx4 hR hL hl
set_option maxRecDepth 100000 in
set_option maxHeartbeats 4000000 in
theorem sL_print_S3 {l : Launch} {p : Program} {e : Env} {s : State} {m : MethodId} {args : Array Value} {below : List Frame} {meth : Method} {c : Code} (G : tw_G) (sz : Nat) (hC : tw_C G p s m args meth c RL cL_print 5 (some .long)) (a1 : Nat)  : ∀ (k : Nat) (st : (Int64 × Int × tm_H)) (out : Int64 × tm_H), tm_wit (fL_print_S3 a1) k st = some out → match st with
    | (x1, x3, h) => ∀ (H : Heap) (locs : List Loc) (ls : Array Slot), tm_rg x3 → tw_Rel G sz h H → tw_L G locs → lv_has ls 5 [(0, .ref a1), (1, .long x1), (3, .int (tw_I x3))] → W p l e rmL_print s m args below meth c H locs 0 0 (MQ below (tw_Ql G sz out.1 out.2) args s 0 0 (tw_F G)) (F0 m 6 ls []) := by
  intro k
  induction k with
  | zero =>
    intro st out hk
    exact absurd hk (by unfold tm_wit; exact fun z => by cases z)
  | succ k ih =>
    intro st out hk
    obtain ⟨X, hk, hf⟩ := tm_wit_succ hk
    obtain ⟨x1, x3, h⟩ := st
    intro H locs ls gx3 hR hL hl
    dsimp only [fL_print_S3] at hk
    refine lv_iload_n hC.1 hC.2.1 dL_print_6 rfl (lv_at hl 2 rfl) ?_
    refine lv_bipush (v := tw_I 8) hC.1 hC.2.1 dL_print_7 (by decide) ?_
    refine tw_cge (tgt := 31) hC hk gx3 ((tw_rgL rfl)) dL_print_9 (by decide) (fun _ hk => ?_) (fun _ hk => ?_)
    · refine tw_ldc2 (v := 31) hC (tw_in_TB 366 (by decide +kernel) rfl) dL_print_12 ?_
      refine lv_lload_n hC.1 hC.2.1 dL_print_15 rfl (lv_at hl 1 rfl) ?_
      refine lv_lmul hC.1 hC.2.1 dL_print_16 ?_
      refine lv_aload_n hC.1 hC.2.1 dL_print_17 rfl (lv_at hl 0 rfl) ?_
      refine lv_iload_n hC.1 hC.2.1 dL_print_18 rfl (lv_at hl 2 rfl) ?_
      refine kX8_count hC hR hL hk gx3 mlL_13 ⟨by decide, by decide⟩ hl.1 (Nat.le_of_ble_eq_true rfl) ⟨Nat.zero_le _, Nat.zero_le _⟩ dL_print_19 (fun v1 h1 H locs hR hL gv1 hk => ?_)
      refine tw_i2l hC dL_print_22 ?_
      refine lv_ladd hC.1 hC.2.1 dL_print_23 ?_
      refine lv_lstore_n (lv' := [(1, .long ((((31 : Int64)) * x1) + (tm_i2l v1))), (0, .ref a1), (3, .int (tw_I x3))]) hC.1 hC.2.1 dL_print_24 rfl hl (by decide) rfl (fun ls hl => ?_)
      refine tw_iinc (lv' := [(3, .int (tw_I (tm_wr (x3 + 1)))), (1, .long ((((31 : Int64)) * x1) + (tm_i2l v1))), (0, .ref a1)]) hC dL_print_25 hl (k := 2) rfl (by decide) rfl (fun ls hl => ?_)
      refine lv_goto (tgt := 6) hC.1 hC.2.1 dL_print_28 (by decide) ?_
      cases hk
      exact ih _ out hf H locs _ ((tm_wr_rg _)) hR hL (lv_sub hl [2, 1, 0] rfl)
    · refine lv_iconst (v := tw_I 0) hC.1 hC.2.1 dL_print_31 rfl ?_
      refine lv_istore_n (lv' := [(3, .int (tw_I 0)), (0, .ref a1), (1, .long x1)]) hC.1 hC.2.1 dL_print_32 rfl hl (by decide) rfl (fun ls hl => ?_)
      obtain ⟨r, hk2, hX⟩ := tm_out_some hk
      rw [hX] at hf
      have hr : r = out := Option.some.inj hf
      rw [hr] at hk2
      exact sL_print_L33 G sz hC a1 x1 0 h ((tw_rgL rfl)) out hk2 H locs _ hR hL (lv_sub hl [1, 2, 0] rfl)
theorem sL_print_L6 {l : Launch} {p : Program} {e : Env} {s : State} {m : MethodId} {args : Array Value} {below : List Frame} {meth : Method} {c : Code} (G : tw_G) (sz : Nat) (hC : tw_C G p s m args meth c RL cL_print 5 (some .long)) (a1 : Nat)  (x1 : Int64) (x3 : Int) (h : tm_H) (gx3 : tm_rg x3) (out : Int64 × tm_H) (hk : fL_print_L6 a1 x1 x3 h = some out) (H : Heap) (locs : List Loc) (ls : Array Slot) (hR : tw_Rel G sz h H) (hL : tw_L G locs) (hl : lv_has ls 5 [(0, .ref a1), (1, .long x1), (3, .int (tw_I x3))]) : W p l e rmL_print s m args below meth c H locs 0 0 (MQ below (tw_Ql G sz out.1 out.2) args s 0 0 (tw_F G)) (F0 m 6 ls []) := by
  obtain ⟨k, hk⟩ := tm_wl_iff.mp hk
  exact sL_print_S3 G sz hC a1  k ((x1, x3, h)) out hk H locs ls gx3 hR hL hl
set_option maxRecDepth 100000 in
set_option maxHeartbeats 4000000 in
theorem cL_print_ok (l : Launch) (G : tw_G) (sz : Nat) (a1 : Nat)  (h : tm_H) (out : Int64 × tm_H) (hk : fL_print a1 h = some out) : Met l yL_print (tw_WS yL_print cL_print 5 (some .long)) rmL_print (va_Pc [.ref a1] (tw_Pre G sz h)) (tw_Ql G sz out.1 out.2) 0 0 (tw_F G) := by
  refine tw_met (by decide +kernel) (Nat.le_of_ble_eq_true rfl) ?_
  intro p e s m args below meth c H ls hC hnm hR hl
  unfold fL_print at hk
  have hl : lv_has ls 5 [(0, .ref a1)] := hl
  have hL : tw_L G [] := fun q z => by cases z
  generalize hlc : ([] : List Loc) = locs at hL ⊢
  refine tw_ldc2 (v := 233) hC (tw_in_TB 365 (by decide +kernel) rfl) dL_print_0 ?_
  refine lv_lstore_n (lv' := [(1, .long ((233 : Int64))), (0, .ref a1)]) hC.1 hC.2.1 dL_print_3 rfl hl (by decide) rfl (fun ls hl => ?_)
  refine lv_iconst (v := tw_I 0) hC.1 hC.2.1 dL_print_4 rfl ?_
  refine lv_istore_n (lv' := [(3, .int (tw_I 0)), (1, .long ((233 : Int64))), (0, .ref a1)]) hC.1 hC.2.1 dL_print_5 rfl hl (by decide) rfl (fun ls hl => ?_)
  exact sL_print_L6 G sz hC a1 ((233 : Int64)) 0 h ((tw_rgL rfl)) out hk H locs _ hR hL (lv_sub hl [2, 1, 0] rfl)
set_option maxRecDepth 100000 in
theorem kL_print {l : Launch} {p : Program} {e : Env} {R : Room} {s : State} {m : MethodId} {args : Array Value} {below : List Frame} {meth : Method} {c : Code} {H : Heap} {locs : List Loc} {cells slots : Nat} {Q : State → Prop} {cc : ByteArray} {pc nL idx : Nat} {ls : Array Slot} {rest : List Value} {G : tw_G} {h : tm_H} {own : String} {ret : Option FieldType} {α : Type} {x : α} {sz : Nat} {a1 : Nat} (hC : tw_C G p s m args meth c own cc nL ret) (hR : tw_Rel G sz h H) (hL : tw_L G locs) {F : Int64 × tm_H → Option α} (hk : (fL_print a1 h).bind F = some x)  (hl : tw_mL own idx yL_print) (hRm : rmL_print.frames + 1 ≤ R.frames ∧ 8 + (5 + 11) + rmL_print.locals ≤ R.locals) (hsz : ls.size = nL) (hW : (rest.map fun v => v.category).sum ≤ 8) (hf : cells + 0 ≤ R.cells ∧ slots + 0 ≤ R.slots) (hdg : decode cc pc = .ok (.invokestatic idx, 3)) (kk : ∀ (r : Int64) (h1 : tm_H) (H1 : Heap) (locs1 : List Loc), tw_Rel G sz h1 H1 → tw_L G locs1 → F (r, h1) = some x → W p l e R s m args below meth c H1 locs1 (cells + 0) (slots + 0) Q (F0 m (pc + 3) ls (.long r :: rest))) : W p l e R s m args below meth c H locs cells slots Q (F0 m pc ls (.ref a1 :: rest)) := by
  obtain ⟨r, hr, hF⟩ := Option.bind_eq_some_iff.mp hk
  exact tw_backl (tw_runS hC hR (cL_print_ok l G sz a1  h r hr) (n := 1) ⟨tw_in_TB 364 (by decide +kernel) rfl, tw_in_TB 8 (by decide +kernel) rfl, by decide +kernel⟩ (tw_in_TB 363 (by decide +kernel) rfl) hl ⟨rfl, rfl⟩ hRm rfl hsz rfl hW hdg hf) hL (fun H1 locs1 a b => kk r.1 r.2 H1 locs1 a b hF)
def rmL_refused : Room := { frames := 8, cells := 0, slots := 0, locals := 186 }
set_option maxRecDepth 100000 in
set_option maxHeartbeats 4000000 in
theorem sL_refused_L341 {l : Launch} {p : Program} {e : Env} {s : State} {m : MethodId} {args : Array Value} {below : List Frame} {meth : Method} {c : Code} (G : tw_G) (sz : Nat) (hC : tw_C G p s m args meth c RL cL_refused 6 (some .boolean)) (a1 : Nat)  (x1 : Int64) (s0 : Int) (h : tm_H) (gs0 : tm_rg s0) (out : Int × tm_H) (hk : fL_refused_L341 a1 x1 s0 h = some out) (H : Heap) (locs : List Loc) (ls : Array Slot) (hR : tw_Rel G sz h H) (hL : tw_L G locs) (hl : lv_has ls 6 [(0, .ref a1), (1, .long x1)]) : W p l e rmL_refused s m args below meth c H locs 0 0 (MQ below (tw_Qi G sz out.1 out.2) args s 0 0 (tw_F G)) (F0 m 341 ls [.int (tw_I s0)]) := by
  unfold fL_refused_L341 at hk
  refine lv_istore (lv' := [(5, .int (tw_I s0)), (0, .ref a1), (1, .long x1)]) hC.1 hC.2.1 dL_refused_341 hl (by decide) rfl (fun ls hl => ?_)
  refine lv_iload hC.1 hC.2.1 dL_refused_343 (lv_at hl 0 rfl) ?_
  refine tw_zeq (tgt := 361) hC hk gs0 dL_refused_345 (by decide) (fun _ hk => ?_) (fun _ hk => ?_)
  · refine lv_iconst (v := tw_I 0) hC.1 hC.2.1 dL_refused_361 rfl ?_
    cases hk
    exact tw_zret hC hR hL rfl rfl dL_refused_362
  · refine lv_aload_n hC.1 hC.2.1 dL_refused_348 rfl (lv_at hl 1 rfl) ?_
    refine kL_print hC hR hL hk mlL_30 ⟨by decide, by decide⟩ hl.1 (Nat.le_of_ble_eq_true rfl) ⟨Nat.zero_le _, Nat.zero_le _⟩ dL_refused_349 (fun v33 h33 H locs hR hL hk => ?_)
    refine lv_lload_n hC.1 hC.2.1 dL_refused_352 rfl (lv_at hl 2 rfl) ?_
    refine tw_lcmp hC dL_refused_353 ?_
    refine tw_zne (tgt := 361) hC hk ((tm_lcmp_rg _ _)) dL_refused_354 (by decide) (fun _ hk => ?_) (fun _ hk => ?_)
    · refine lv_iconst (v := tw_I 1) hC.1 hC.2.1 dL_refused_357 rfl ?_
      refine lv_goto (tgt := 362) hC.1 hC.2.1 dL_refused_358 (by decide) ?_
      cases hk
      exact tw_zret hC hR hL rfl rfl dL_refused_362
    · refine lv_iconst (v := tw_I 0) hC.1 hC.2.1 dL_refused_361 rfl ?_
      cases hk
      exact tw_zret hC hR hL rfl rfl dL_refused_362
set_option maxRecDepth 100000 in
set_option maxHeartbeats 4000000 in
theorem sL_refused_L340 {l : Launch} {p : Program} {e : Env} {s : State} {m : MethodId} {args : Array Value} {below : List Frame} {meth : Method} {c : Code} (G : tw_G) (sz : Nat) (hC : tw_C G p s m args meth c RL cL_refused 6 (some .boolean)) (a1 : Nat)  (x1 : Int64) (h : tm_H)  (out : Int × tm_H) (hk : fL_refused_L340 a1 x1 h = some out) (H : Heap) (locs : List Loc) (ls : Array Slot) (hR : tw_Rel G sz h H) (hL : tw_L G locs) (hl : lv_has ls 6 [(0, .ref a1), (1, .long x1)]) : W p l e rmL_refused s m args below meth c H locs 0 0 (MQ below (tw_Qi G sz out.1 out.2) args s 0 0 (tw_F G)) (F0 m 340 ls []) := by
  unfold fL_refused_L340 at hk
  refine lv_iconst (v := tw_I 0) hC.1 hC.2.1 dL_refused_340 rfl ?_
  exact sL_refused_L341 G sz hC a1 x1 0 h ((tw_rgL rfl)) out hk H locs _ hR hL (lv_sub hl [0, 1] rfl)
set_option maxRecDepth 100000 in
set_option maxHeartbeats 4000000 in
theorem sL_refused_L203 {l : Launch} {p : Program} {e : Env} {s : State} {m : MethodId} {args : Array Value} {below : List Frame} {meth : Method} {c : Code} (G : tw_G) (sz : Nat) (hC : tw_C G p s m args meth c RL cL_refused 6 (some .boolean)) (a1 : Nat)  (x1 : Int64) (x3 : Int) (x4 : Int) (s0 : Int) (h : tm_H) (gx3 : tm_rg x3) (gx4 : tm_rg x4) (gs0 : tm_rg s0) (out : Int × tm_H) (hk : fL_refused_L203 a1 x1 x3 x4 s0 h = some out) (H : Heap) (locs : List Loc) (ls : Array Slot) (hR : tw_Rel G sz h H) (hL : tw_L G locs) (hl : lv_has ls 6 [(0, .ref a1), (1, .long x1), (3, .int (tw_I x3)), (4, .int (tw_I x4))]) : W p l e rmL_refused s m args below meth c H locs 0 0 (MQ below (tw_Qi G sz out.1 out.2) args s 0 0 (tw_F G)) (F0 m 203 ls [.int (tw_I s0)]) := by
  unfold fL_refused_L203 at hk
  refine lv_istore (lv' := [(5, .int (tw_I s0)), (0, .ref a1), (1, .long x1), (3, .int (tw_I x3)), (4, .int (tw_I x4))]) hC.1 hC.2.1 dL_refused_203 hl (by decide) rfl (fun ls hl => ?_)
  refine lv_iload hC.1 hC.2.1 dL_refused_205 (lv_at hl 0 rfl) ?_
  refine tw_zeq (tgt := 340) hC hk gs0 dL_refused_207 (by decide) (fun _ hk => ?_) (fun _ hk => ?_)
  · exact sL_refused_L340 G sz hC a1 x1 h out hk H locs _ hR hL (lv_sub hl [1, 2] rfl)
  · refine lv_aload_n hC.1 hC.2.1 dL_refused_210 rfl (lv_at hl 1 rfl) ?_
    refine lv_bipush (v := tw_I 10) hC.1 hC.2.1 dL_refused_211 (by decide) ?_
    refine kX8_count hC hR hL hk ((tw_rgL rfl)) mlL_13 ⟨by decide, by decide⟩ hl.1 (Nat.le_of_ble_eq_true rfl) ⟨Nat.zero_le _, Nat.zero_le _⟩ dL_refused_213 (fun v21 h21 H locs hR hL gv21 hk => ?_)
    refine lv_iconst (v := tw_I (-1)) hC.1 hC.2.1 dL_refused_216 rfl ?_
    refine tw_cne (tgt := 340) hC hk gv21 ((tw_rgL rfl)) dL_refused_217 (by decide) (fun _ hk => ?_) (fun _ hk => ?_)
    · refine lv_aload_n hC.1 hC.2.1 dL_refused_220 rfl (lv_at hl 1 rfl) ?_
      refine lv_iload_n hC.1 hC.2.1 dL_refused_221 rfl (lv_at hl 3 rfl) ?_
      refine lv_iconst (v := tw_I 0) hC.1 hC.2.1 dL_refused_222 rfl ?_
      refine kX8_letter hC hR hL hk gx3 ((tw_rgL rfl)) mlL_70 ⟨by decide, by decide⟩ hl.1 (Nat.le_of_ble_eq_true rfl) ⟨Nat.zero_le _, Nat.zero_le _⟩ dL_refused_223 (fun v22 H locs hR hL gv22 hk => ?_)
      refine lv_iconst (v := tw_I (-1)) hC.1 hC.2.1 dL_refused_226 rfl ?_
      refine tw_cne (tgt := 340) hC hk gv22 ((tw_rgL rfl)) dL_refused_227 (by decide) (fun _ hk => ?_) (fun _ hk => ?_)
      · refine lv_aload_n hC.1 hC.2.1 dL_refused_230 rfl (lv_at hl 1 rfl) ?_
        refine lv_iconst (v := tw_I (-1)) hC.1 hC.2.1 dL_refused_231 rfl ?_
        refine kX8_base hC hR hL hk ((tw_rgL rfl)) mlL_27 ⟨by decide, by decide⟩ hl.1 (Nat.le_of_ble_eq_true rfl) ⟨Nat.zero_le _, Nat.zero_le _⟩ dL_refused_232 (fun v23 H locs hR hL gv23 hk => ?_)
        refine lv_iconst (v := tw_I (-1)) hC.1 hC.2.1 dL_refused_235 rfl ?_
        refine tw_cne (tgt := 340) hC hk gv23 ((tw_rgL rfl)) dL_refused_236 (by decide) (fun _ hk => ?_) (fun _ hk => ?_)
        · refine lv_aload_n hC.1 hC.2.1 dL_refused_239 rfl (lv_at hl 1 rfl) ?_
          refine lv_bipush (v := tw_I 6) hC.1 hC.2.1 dL_refused_240 (by decide) ?_
          refine lv_iconst (v := tw_I 0) hC.1 hC.2.1 dL_refused_242 rfl ?_
          refine lv_iconst (v := tw_I 0) hC.1 hC.2.1 dL_refused_243 rfl ?_
          refine kX8_place hC hR hL hk ((tw_rgL rfl)) ((tw_rgL rfl)) ((tw_rgL rfl)) mlL_19 ⟨by decide, by decide⟩ hl.1 (Nat.le_of_ble_eq_true rfl) ⟨Nat.zero_le _, Nat.zero_le _⟩ dL_refused_244 (fun v24 h24 H locs hR hL gv24 hk => ?_)
          refine lv_iconst (v := tw_I (-1)) hC.1 hC.2.1 dL_refused_247 rfl ?_
          refine tw_cne (tgt := 340) hC hk gv24 ((tw_rgL rfl)) dL_refused_248 (by decide) (fun _ hk => ?_) (fun _ hk => ?_)
          · refine lv_aload_n hC.1 hC.2.1 dL_refused_251 rfl (lv_at hl 1 rfl) ?_
            refine lv_iconst (v := tw_I 0) hC.1 hC.2.1 dL_refused_252 rfl ?_
            refine lv_bipush (v := tw_I 40) hC.1 hC.2.1 dL_refused_253 (by decide) ?_
            refine lv_iconst (v := tw_I 0) hC.1 hC.2.1 dL_refused_255 rfl ?_
            refine kX8_place hC hR hL hk ((tw_rgL rfl)) ((tw_rgL rfl)) ((tw_rgL rfl)) mlL_19 ⟨by decide, by decide⟩ hl.1 (Nat.le_of_ble_eq_true rfl) ⟨Nat.zero_le _, Nat.zero_le _⟩ dL_refused_256 (fun v25 h25 H locs hR hL gv25 hk => ?_)
            refine lv_bipush (v := tw_I (-99)) hC.1 hC.2.1 dL_refused_259 (by decide) ?_
            refine tw_cne (tgt := 340) hC hk gv25 ((tw_rgL rfl)) dL_refused_261 (by decide) (fun _ hk => ?_) (fun _ hk => ?_)
            · refine lv_aload_n hC.1 hC.2.1 dL_refused_264 rfl (lv_at hl 1 rfl) ?_
              refine lv_iload hC.1 hC.2.1 dL_refused_265 (lv_at hl 4 rfl) ?_
              refine lv_iconst (v := tw_I 0) hC.1 hC.2.1 dL_refused_267 rfl ?_
              refine kX8_term hC hR hL hk gx4 ((tw_rgL rfl)) mlL_23 ⟨by decide, by decide⟩ hl.1 (Nat.le_of_ble_eq_true rfl) ⟨Nat.zero_le _, Nat.zero_le _⟩ dL_refused_268 (fun v26 h26 H locs hR hL gv26 hk => ?_)
              refine lv_iconst (v := tw_I (-1)) hC.1 hC.2.1 dL_refused_271 rfl ?_
              refine tw_cne (tgt := 340) hC hk gv26 ((tw_rgL rfl)) dL_refused_272 (by decide) (fun _ hk => ?_) (fun _ hk => ?_)
              · refine lv_aload_n hC.1 hC.2.1 dL_refused_275 rfl (lv_at hl 1 rfl) ?_
                refine lv_iconst (v := tw_I 0) hC.1 hC.2.1 dL_refused_276 rfl ?_
                refine lv_bipush (v := tw_I 6) hC.1 hC.2.1 dL_refused_277 (by decide) ?_
                refine kX8_firstUse hC hR hL hk ((tw_rgL rfl)) ((tw_rgL rfl)) mlL_73 ⟨by decide, by decide⟩ hl.1 (Nat.le_of_ble_eq_true rfl) ⟨Nat.zero_le _, Nat.zero_le _⟩ dL_refused_279 (fun v27 h27 H locs hR hL gv27 hk => ?_)
                refine lv_iconst (v := tw_I (-1)) hC.1 hC.2.1 dL_refused_282 rfl ?_
                refine tw_cne (tgt := 340) hC hk gv27 ((tw_rgL rfl)) dL_refused_283 (by decide) (fun _ hk => ?_) (fun _ hk => ?_)
                · refine lv_aload_n hC.1 hC.2.1 dL_refused_286 rfl (lv_at hl 1 rfl) ?_
                  refine lv_aload_n hC.1 hC.2.1 dL_refused_287 rfl (lv_at hl 1 rfl) ?_
                  refine lv_iconst (v := tw_I 4) hC.1 hC.2.1 dL_refused_288 rfl ?_
                  refine kX8_count hC hR hL hk ((tw_rgL rfl)) mlL_13 ⟨by decide, by decide⟩ hl.1 (Nat.le_of_ble_eq_true rfl) ⟨Nat.zero_le _, Nat.zero_le _⟩ dL_refused_289 (fun v28 h28 H locs hR hL gv28 hk => ?_)
                  refine lv_iconst (v := tw_I 0) hC.1 hC.2.1 dL_refused_292 rfl ?_
                  refine kX8_mark hC hR hL hk gv28 ((tw_rgL rfl)) mlL_76 ⟨by decide, by decide⟩ hl.1 (Nat.le_of_ble_eq_true rfl) ⟨Nat.zero_le _, Nat.zero_le _⟩ dL_refused_293 (fun v29 h29 H locs hR hL gv29 hk => ?_)
                  refine lv_bipush (v := tw_I (-99)) hC.1 hC.2.1 dL_refused_296 (by decide) ?_
                  refine tw_cne (tgt := 340) hC hk gv29 ((tw_rgL rfl)) dL_refused_298 (by decide) (fun _ hk => ?_) (fun _ hk => ?_)
                  · refine lv_aload_n hC.1 hC.2.1 dL_refused_301 rfl (lv_at hl 1 rfl) ?_
                    refine lv_iconst (v := tw_I 0) hC.1 hC.2.1 dL_refused_302 rfl ?_
                    refine lv_bipush (v := tw_I 40) hC.1 hC.2.1 dL_refused_303 (by decide) ?_
                    refine lv_iconst (v := tw_I 0) hC.1 hC.2.1 dL_refused_305 rfl ?_
                    refine kX8_why hC hR hL hk ((tw_rgL rfl)) ((tw_rgL rfl)) ((tw_rgL rfl)) mlL_79 ⟨by decide, by decide⟩ hl.1 (Nat.le_of_ble_eq_true rfl) ⟨Nat.zero_le _, Nat.zero_le _⟩ dL_refused_306 (fun v30 h30 H locs hR hL gv30 hk => ?_)
                    refine lv_iconst (v := tw_I (-1)) hC.1 hC.2.1 dL_refused_309 rfl ?_
                    refine tw_cne (tgt := 340) hC hk gv30 ((tw_rgL rfl)) dL_refused_310 (by decide) (fun _ hk => ?_) (fun _ hk => ?_)
                    · refine lv_aload_n hC.1 hC.2.1 dL_refused_313 rfl (lv_at hl 1 rfl) ?_
                      refine lv_iload hC.1 hC.2.1 dL_refused_314 (lv_at hl 4 rfl) ?_
                      refine lv_iconst (v := tw_I 0) hC.1 hC.2.1 dL_refused_316 rfl ?_
                      refine kX8_nested hC hR hL hk gx4 ((tw_rgL rfl)) mlL_82 ⟨by decide, by decide⟩ hl.1 (Nat.le_of_ble_eq_true rfl) ⟨Nat.zero_le _, Nat.zero_le _⟩ dL_refused_317 (fun v31 H locs hR hL gv31 hk => ?_)
                      refine lv_iconst (v := tw_I (-1)) hC.1 hC.2.1 dL_refused_320 rfl ?_
                      refine tw_cne (tgt := 340) hC hk gv31 ((tw_rgL rfl)) dL_refused_321 (by decide) (fun _ hk => ?_) (fun _ hk => ?_)
                      · refine lv_aload_n hC.1 hC.2.1 dL_refused_324 rfl (lv_at hl 1 rfl) ?_
                        refine lv_iload_n hC.1 hC.2.1 dL_refused_325 rfl (lv_at hl 3 rfl) ?_
                        refine lv_iconst (v := tw_I (-1)) hC.1 hC.2.1 dL_refused_326 rfl ?_
                        refine lv_iconst (v := tw_I (-1)) hC.1 hC.2.1 dL_refused_327 rfl ?_
                        refine lv_iconst (v := tw_I (-1)) hC.1 hC.2.1 dL_refused_328 rfl ?_
                        refine kX8_gain hC hR hL hk gx3 ((tw_rgL rfl)) ((tw_rgL rfl)) ((tw_rgL rfl)) mlL_85 ⟨by decide, by decide⟩ hl.1 (Nat.le_of_ble_eq_true rfl) ⟨Nat.zero_le _, Nat.zero_le _⟩ dL_refused_329 (fun v32 h32 H locs hR hL gv32 hk => ?_)
                        refine lv_iconst (v := tw_I (-1)) hC.1 hC.2.1 dL_refused_332 rfl ?_
                        refine tw_cne (tgt := 340) hC hk gv32 ((tw_rgL rfl)) dL_refused_333 (by decide) (fun _ hk => ?_) (fun _ hk => ?_)
                        · refine lv_iconst (v := tw_I 1) hC.1 hC.2.1 dL_refused_336 rfl ?_
                          refine lv_goto (tgt := 341) hC.1 hC.2.1 dL_refused_337 (by decide) ?_
                          exact sL_refused_L341 G sz hC a1 x1 1 h32 ((tw_rgL rfl)) out hk H locs _ hR hL (lv_sub hl [1, 2] rfl)
                        · exact sL_refused_L340 G sz hC a1 x1 h32 out hk H locs _ hR hL (lv_sub hl [1, 2] rfl)
                      · exact sL_refused_L340 G sz hC a1 x1 h30 out hk H locs _ hR hL (lv_sub hl [1, 2] rfl)
                    · exact sL_refused_L340 G sz hC a1 x1 h30 out hk H locs _ hR hL (lv_sub hl [1, 2] rfl)
                  · exact sL_refused_L340 G sz hC a1 x1 h29 out hk H locs _ hR hL (lv_sub hl [1, 2] rfl)
                · exact sL_refused_L340 G sz hC a1 x1 h27 out hk H locs _ hR hL (lv_sub hl [1, 2] rfl)
              · exact sL_refused_L340 G sz hC a1 x1 h26 out hk H locs _ hR hL (lv_sub hl [1, 2] rfl)
            · exact sL_refused_L340 G sz hC a1 x1 h25 out hk H locs _ hR hL (lv_sub hl [1, 2] rfl)
          · exact sL_refused_L340 G sz hC a1 x1 h24 out hk H locs _ hR hL (lv_sub hl [1, 2] rfl)
        · exact sL_refused_L340 G sz hC a1 x1 h21 out hk H locs _ hR hL (lv_sub hl [1, 2] rfl)
      · exact sL_refused_L340 G sz hC a1 x1 h21 out hk H locs _ hR hL (lv_sub hl [1, 2] rfl)
    · exact sL_refused_L340 G sz hC a1 x1 h21 out hk H locs _ hR hL (lv_sub hl [1, 2] rfl)
set_option maxRecDepth 100000 in
set_option maxHeartbeats 4000000 in
theorem sL_refused_L202 {l : Launch} {p : Program} {e : Env} {s : State} {m : MethodId} {args : Array Value} {below : List Frame} {meth : Method} {c : Code} (G : tw_G) (sz : Nat) (hC : tw_C G p s m args meth c RL cL_refused 6 (some .boolean)) (a1 : Nat)  (x1 : Int64) (x3 : Int) (x4 : Int) (h : tm_H) (gx3 : tm_rg x3) (gx4 : tm_rg x4) (out : Int × tm_H) (hk : fL_refused_L202 a1 x1 x3 x4 h = some out) (H : Heap) (locs : List Loc) (ls : Array Slot) (hR : tw_Rel G sz h H) (hL : tw_L G locs) (hl : lv_has ls 6 [(0, .ref a1), (1, .long x1), (3, .int (tw_I x3)), (4, .int (tw_I x4))]) : W p l e rmL_refused s m args below meth c H locs 0 0 (MQ below (tw_Qi G sz out.1 out.2) args s 0 0 (tw_F G)) (F0 m 202 ls []) := by
  unfold fL_refused_L202 at hk
  refine lv_iconst (v := tw_I 0) hC.1 hC.2.1 dL_refused_202 rfl ?_
  exact sL_refused_L203 G sz hC a1 x1 x3 x4 0 h gx3 gx4 ((tw_rgL rfl)) out hk H locs _ hR hL (lv_sub hl [0, 1, 2, 3] rfl)
set_option maxRecDepth 100000 in
set_option maxHeartbeats 4000000 in
theorem cL_refused_ok (l : Launch) (G : tw_G) (sz : Nat) (a1 : Nat)  (h : tm_H) (out : Int × tm_H) (hk : fL_refused a1 h = some out) : Met l yL_refused (tw_WS yL_refused cL_refused 6 (some .boolean)) rmL_refused (va_Pc [.ref a1] (tw_Pre G sz h)) (tw_Qi G sz out.1 out.2) 0 0 (tw_F G) := by
  refine tw_met (by decide +kernel) (Nat.le_of_ble_eq_true rfl) ?_
  intro p e s m args below meth c H ls hC hnm hR hl
  unfold fL_refused at hk
  have hl : lv_has ls 6 [(0, .ref a1)] := hl
  have hL : tw_L G [] := fun q z => by cases z
  generalize hlc : ([] : List Loc) = locs at hL ⊢
  refine lv_aload_n hC.1 hC.2.1 dL_refused_0 rfl (lv_at hl 0 rfl) ?_
  refine kL_print hC hR hL hk mlL_30 ⟨by decide, by decide⟩ hl.1 (Nat.le_of_ble_eq_true rfl) ⟨Nat.zero_le _, Nat.zero_le _⟩ dL_refused_1 (fun v1 h1 H locs hR hL hk => ?_)
  refine lv_lstore_n (lv' := [(1, .long v1), (0, .ref a1)]) hC.1 hC.2.1 dL_refused_4 rfl hl (by decide) rfl (fun ls hl => ?_)
  refine lv_aload_n hC.1 hC.2.1 dL_refused_5 rfl (lv_at hl 1 rfl) ?_
  refine lv_iconst (v := tw_I 0) hC.1 hC.2.1 dL_refused_6 rfl ?_
  refine kX8_count hC hR hL hk ((tw_rgL rfl)) mlL_13 ⟨by decide, by decide⟩ hl.1 (Nat.le_of_ble_eq_true rfl) ⟨Nat.zero_le _, Nat.zero_le _⟩ dL_refused_7 (fun v2 h2 H locs hR hL gv2 hk => ?_)
  refine lv_istore_n (lv' := [(3, .int (tw_I v2)), (1, .long v1), (0, .ref a1)]) hC.1 hC.2.1 dL_refused_10 rfl hl (by decide) rfl (fun ls hl => ?_)
  refine lv_aload_n hC.1 hC.2.1 dL_refused_11 rfl (lv_at hl 2 rfl) ?_
  refine lv_iconst (v := tw_I 2) hC.1 hC.2.1 dL_refused_12 rfl ?_
  refine kX8_count hC hR hL hk ((tw_rgL rfl)) mlL_13 ⟨by decide, by decide⟩ hl.1 (Nat.le_of_ble_eq_true rfl) ⟨Nat.zero_le _, Nat.zero_le _⟩ dL_refused_13 (fun v3 h3 H locs hR hL gv3 hk => ?_)
  refine lv_istore (lv' := [(4, .int (tw_I v3)), (3, .int (tw_I v2)), (1, .long v1), (0, .ref a1)]) hC.1 hC.2.1 dL_refused_16 hl (by decide) rfl (fun ls hl => ?_)
  refine lv_aload_n hC.1 hC.2.1 dL_refused_18 rfl (lv_at hl 3 rfl) ?_
  refine lv_iconst (v := tw_I (-1)) hC.1 hC.2.1 dL_refused_19 rfl ?_
  refine lv_iconst (v := tw_I 0) hC.1 hC.2.1 dL_refused_20 rfl ?_
  refine lv_iconst (v := tw_I 0) hC.1 hC.2.1 dL_refused_21 rfl ?_
  refine kX8_insert hC hR hL hk ((tw_rgL rfl)) ((tw_rgL rfl)) ((tw_rgL rfl)) mlL_36 ⟨by decide, by decide⟩ hl.1 (Nat.le_of_ble_eq_true rfl) ⟨Nat.zero_le _, Nat.zero_le _⟩ dL_refused_22 (fun v4 h4 H locs hR hL gv4 hk => ?_)
  refine lv_iconst (v := tw_I (-1)) hC.1 hC.2.1 dL_refused_25 rfl ?_
  refine tw_cne (tgt := 202) hC hk gv4 ((tw_rgL rfl)) dL_refused_26 (by decide) (fun _ hk => ?_) (fun _ hk => ?_)
  · refine lv_aload_n hC.1 hC.2.1 dL_refused_29 rfl (lv_at hl 3 rfl) ?_
    refine lv_iconst (v := tw_I 0) hC.1 hC.2.1 dL_refused_30 rfl ?_
    refine lv_bipush (v := tw_I 41) hC.1 hC.2.1 dL_refused_31 (by decide) ?_
    refine lv_iconst (v := tw_I 0) hC.1 hC.2.1 dL_refused_33 rfl ?_
    refine kX8_insert hC hR hL hk ((tw_rgL rfl)) ((tw_rgL rfl)) ((tw_rgL rfl)) mlL_36 ⟨by decide, by decide⟩ hl.1 (Nat.le_of_ble_eq_true rfl) ⟨Nat.zero_le _, Nat.zero_le _⟩ dL_refused_34 (fun v5 h5 H locs hR hL gv5 hk => ?_)
    refine lv_iconst (v := tw_I (-1)) hC.1 hC.2.1 dL_refused_37 rfl ?_
    refine tw_cne (tgt := 202) hC hk gv5 ((tw_rgL rfl)) dL_refused_38 (by decide) (fun _ hk => ?_) (fun _ hk => ?_)
    · refine lv_aload_n hC.1 hC.2.1 dL_refused_41 rfl (lv_at hl 3 rfl) ?_
      refine lv_iconst (v := tw_I 0) hC.1 hC.2.1 dL_refused_42 rfl ?_
      refine lv_iconst (v := tw_I 0) hC.1 hC.2.1 dL_refused_43 rfl ?_
      refine lv_iload_n hC.1 hC.2.1 dL_refused_44 rfl (lv_at hl 1 rfl) ?_
      refine kX8_insert hC hR hL hk ((tw_rgL rfl)) ((tw_rgL rfl)) gv2 mlL_36 ⟨by decide, by decide⟩ hl.1 (Nat.le_of_ble_eq_true rfl) ⟨Nat.zero_le _, Nat.zero_le _⟩ dL_refused_45 (fun v6 h6 H locs hR hL gv6 hk => ?_)
      refine lv_iconst (v := tw_I (-1)) hC.1 hC.2.1 dL_refused_48 rfl ?_
      refine tw_cne (tgt := 202) hC hk gv6 ((tw_rgL rfl)) dL_refused_49 (by decide) (fun _ hk => ?_) (fun _ hk => ?_)
      · refine lv_aload_n hC.1 hC.2.1 dL_refused_52 rfl (lv_at hl 3 rfl) ?_
        refine lv_iconst (v := tw_I 0) hC.1 hC.2.1 dL_refused_53 rfl ?_
        refine lv_iconst (v := tw_I 1) hC.1 hC.2.1 dL_refused_54 rfl ?_
        refine lv_iconst (v := tw_I 0) hC.1 hC.2.1 dL_refused_55 rfl ?_
        refine kX8_delete hC hR hL hk ((tw_rgL rfl)) ((tw_rgL rfl)) ((tw_rgL rfl)) mlL_39 ⟨by decide, by decide⟩ hl.1 (Nat.le_of_ble_eq_true rfl) ⟨Nat.zero_le _, Nat.zero_le _⟩ dL_refused_56 (fun v7 h7 H locs hR hL gv7 hk => ?_)
        refine lv_iconst (v := tw_I (-1)) hC.1 hC.2.1 dL_refused_59 rfl ?_
        refine tw_cne (tgt := 202) hC hk gv7 ((tw_rgL rfl)) dL_refused_60 (by decide) (fun _ hk => ?_) (fun _ hk => ?_)
        · refine lv_aload_n hC.1 hC.2.1 dL_refused_63 rfl (lv_at hl 3 rfl) ?_
          refine lv_bipush (v := tw_I 6) hC.1 hC.2.1 dL_refused_64 (by decide) ?_
          refine lv_iconst (v := tw_I 0) hC.1 hC.2.1 dL_refused_66 rfl ?_
          refine lv_iconst (v := tw_I 0) hC.1 hC.2.1 dL_refused_67 rfl ?_
          refine kX8_delete hC hR hL hk ((tw_rgL rfl)) ((tw_rgL rfl)) ((tw_rgL rfl)) mlL_39 ⟨by decide, by decide⟩ hl.1 (Nat.le_of_ble_eq_true rfl) ⟨Nat.zero_le _, Nat.zero_le _⟩ dL_refused_68 (fun v8 h8 H locs hR hL gv8 hk => ?_)
          refine lv_iconst (v := tw_I (-1)) hC.1 hC.2.1 dL_refused_71 rfl ?_
          refine tw_cne (tgt := 202) hC hk gv8 ((tw_rgL rfl)) dL_refused_72 (by decide) (fun _ hk => ?_) (fun _ hk => ?_)
          · refine lv_aload_n hC.1 hC.2.1 dL_refused_75 rfl (lv_at hl 3 rfl) ?_
            refine lv_iconst (v := tw_I 2) hC.1 hC.2.1 dL_refused_76 rfl ?_
            refine lv_iconst (v := tw_I 2) hC.1 hC.2.1 dL_refused_77 rfl ?_
            refine kX8_replace hC hR hL hk ((tw_rgL rfl)) ((tw_rgL rfl)) mlL_42 ⟨by decide, by decide⟩ hl.1 (Nat.le_of_ble_eq_true rfl) ⟨Nat.zero_le _, Nat.zero_le _⟩ dL_refused_78 (fun v9 h9 H locs hR hL gv9 hk => ?_)
            refine lv_iconst (v := tw_I (-1)) hC.1 hC.2.1 dL_refused_81 rfl ?_
            refine tw_cne (tgt := 202) hC hk gv9 ((tw_rgL rfl)) dL_refused_82 (by decide) (fun _ hk => ?_) (fun _ hk => ?_)
            · refine lv_aload_n hC.1 hC.2.1 dL_refused_85 rfl (lv_at hl 3 rfl) ?_
              refine lv_iconst (v := tw_I 0) hC.1 hC.2.1 dL_refused_86 rfl ?_
              refine lv_iload_n hC.1 hC.2.1 dL_refused_87 rfl (lv_at hl 1 rfl) ?_
              refine kX8_replace hC hR hL hk ((tw_rgL rfl)) gv2 mlL_42 ⟨by decide, by decide⟩ hl.1 (Nat.le_of_ble_eq_true rfl) ⟨Nat.zero_le _, Nat.zero_le _⟩ dL_refused_88 (fun v10 h10 H locs hR hL gv10 hk => ?_)
              refine lv_iconst (v := tw_I (-1)) hC.1 hC.2.1 dL_refused_91 rfl ?_
              refine tw_cne (tgt := 202) hC hk gv10 ((tw_rgL rfl)) dL_refused_92 (by decide) (fun _ hk => ?_) (fun _ hk => ?_)
              · refine lv_aload_n hC.1 hC.2.1 dL_refused_95 rfl (lv_at hl 3 rfl) ?_
                refine lv_iconst (v := tw_I (-1)) hC.1 hC.2.1 dL_refused_96 rfl ?_
                refine lv_iconst (v := tw_I 0) hC.1 hC.2.1 dL_refused_97 rfl ?_
                refine kX8_swap hC hR hL hk ((tw_rgL rfl)) ((tw_rgL rfl)) mlL_45 ⟨by decide, by decide⟩ hl.1 (Nat.le_of_ble_eq_true rfl) ⟨Nat.zero_le _, Nat.zero_le _⟩ dL_refused_98 (fun v11 h11 H locs hR hL gv11 hk => ?_)
                refine lv_iconst (v := tw_I (-1)) hC.1 hC.2.1 dL_refused_101 rfl ?_
                refine tw_cne (tgt := 202) hC hk gv11 ((tw_rgL rfl)) dL_refused_102 (by decide) (fun _ hk => ?_) (fun _ hk => ?_)
                · refine lv_aload_n hC.1 hC.2.1 dL_refused_105 rfl (lv_at hl 3 rfl) ?_
                  refine lv_iconst (v := tw_I (-1)) hC.1 hC.2.1 dL_refused_106 rfl ?_
                  refine lv_iconst (v := tw_I 0) hC.1 hC.2.1 dL_refused_107 rfl ?_
                  refine lv_iconst (v := tw_I (-1)) hC.1 hC.2.1 dL_refused_108 rfl ?_
                  refine lv_iconst (v := tw_I (-1)) hC.1 hC.2.1 dL_refused_109 rfl ?_
                  refine kX8_addTerm hC hR hL hk ((tw_rgL rfl)) ((tw_rgL rfl)) ((tw_rgL rfl)) ((tw_rgL rfl)) mlL_48 ⟨by decide, by decide⟩ hl.1 (Nat.le_of_ble_eq_true rfl) ⟨Nat.zero_le _, Nat.zero_le _⟩ dL_refused_110 (fun v12 h12 H locs hR hL gv12 hk => ?_)
                  refine lv_iconst (v := tw_I (-1)) hC.1 hC.2.1 dL_refused_113 rfl ?_
                  refine tw_cne (tgt := 202) hC hk gv12 ((tw_rgL rfl)) dL_refused_114 (by decide) (fun _ hk => ?_) (fun _ hk => ?_)
                  · refine lv_aload_n hC.1 hC.2.1 dL_refused_117 rfl (lv_at hl 3 rfl) ?_
                    refine lv_iconst (v := tw_I 0) hC.1 hC.2.1 dL_refused_118 rfl ?_
                    refine lv_iconst (v := tw_I 1) hC.1 hC.2.1 dL_refused_119 rfl ?_
                    refine lv_iconst (v := tw_I 2) hC.1 hC.2.1 dL_refused_120 rfl ?_
                    refine lv_iload_n hC.1 hC.2.1 dL_refused_121 rfl (lv_at hl 1 rfl) ?_
                    refine kX8_addTerm hC hR hL hk ((tw_rgL rfl)) ((tw_rgL rfl)) ((tw_rgL rfl)) gv2 mlL_48 ⟨by decide, by decide⟩ hl.1 (Nat.le_of_ble_eq_true rfl) ⟨Nat.zero_le _, Nat.zero_le _⟩ dL_refused_122 (fun v13 h13 H locs hR hL gv13 hk => ?_)
                    refine lv_iconst (v := tw_I (-1)) hC.1 hC.2.1 dL_refused_125 rfl ?_
                    refine tw_cne (tgt := 202) hC hk gv13 ((tw_rgL rfl)) dL_refused_126 (by decide) (fun _ hk => ?_) (fun _ hk => ?_)
                    · refine lv_aload_n hC.1 hC.2.1 dL_refused_129 rfl (lv_at hl 3 rfl) ?_
                      refine lv_iconst (v := tw_I 0) hC.1 hC.2.1 dL_refused_130 rfl ?_
                      refine lv_iconst (v := tw_I (-1)) hC.1 hC.2.1 dL_refused_131 rfl ?_
                      refine lv_iconst (v := tw_I (-1)) hC.1 hC.2.1 dL_refused_132 rfl ?_
                      refine lv_iconst (v := tw_I 0) hC.1 hC.2.1 dL_refused_133 rfl ?_
                      refine kX8_addTerm hC hR hL hk ((tw_rgL rfl)) ((tw_rgL rfl)) ((tw_rgL rfl)) ((tw_rgL rfl)) mlL_48 ⟨by decide, by decide⟩ hl.1 (Nat.le_of_ble_eq_true rfl) ⟨Nat.zero_le _, Nat.zero_le _⟩ dL_refused_134 (fun v14 h14 H locs hR hL gv14 hk => ?_)
                      refine lv_iconst (v := tw_I (-1)) hC.1 hC.2.1 dL_refused_137 rfl ?_
                      refine tw_cne (tgt := 202) hC hk gv14 ((tw_rgL rfl)) dL_refused_138 (by decide) (fun _ hk => ?_) (fun _ hk => ?_)
                      · refine lv_aload_n hC.1 hC.2.1 dL_refused_141 rfl (lv_at hl 3 rfl) ?_
                        refine lv_iload hC.1 hC.2.1 dL_refused_142 (lv_at hl 0 rfl) ?_
                        refine kX8_removeTerm hC hR hL hk gv3 mlL_52 ⟨by decide, by decide⟩ hl.1 (Nat.le_of_ble_eq_true rfl) ⟨Nat.zero_le _, Nat.zero_le _⟩ dL_refused_144 (fun v15 h15 H locs hR hL gv15 hk => ?_)
                        refine lv_iconst (v := tw_I (-1)) hC.1 hC.2.1 dL_refused_147 rfl ?_
                        refine tw_cne (tgt := 202) hC hk gv15 ((tw_rgL rfl)) dL_refused_148 (by decide) (fun _ hk => ?_) (fun _ hk => ?_)
                        · refine lv_aload_n hC.1 hC.2.1 dL_refused_151 rfl (lv_at hl 3 rfl) ?_
                          refine lv_iconst (v := tw_I 0) hC.1 hC.2.1 dL_refused_152 rfl ?_
                          refine lv_iconst (v := tw_I 2) hC.1 hC.2.1 dL_refused_153 rfl ?_
                          refine kX8_setQuiet hC hR hL hk ((tw_rgL rfl)) ((tw_rgL rfl)) mlL_55 ⟨by decide, by decide⟩ hl.1 (Nat.le_of_ble_eq_true rfl) ⟨Nat.zero_le _, Nat.zero_le _⟩ dL_refused_154 (fun v16 h16 H locs hR hL gv16 hk => ?_)
                          refine lv_iconst (v := tw_I (-1)) hC.1 hC.2.1 dL_refused_157 rfl ?_
                          refine tw_cne (tgt := 202) hC hk gv16 ((tw_rgL rfl)) dL_refused_158 (by decide) (fun _ hk => ?_) (fun _ hk => ?_)
                          · refine lv_aload_n hC.1 hC.2.1 dL_refused_161 rfl (lv_at hl 3 rfl) ?_
                            refine lv_iload_n hC.1 hC.2.1 dL_refused_162 rfl (lv_at hl 1 rfl) ?_
                            refine lv_iconst (v := tw_I 0) hC.1 hC.2.1 dL_refused_163 rfl ?_
                            refine kX8_setBase hC hR hL hk gv2 ((tw_rgL rfl)) mlL_58 ⟨by decide, by decide⟩ hl.1 (Nat.le_of_ble_eq_true rfl) ⟨Nat.zero_le _, Nat.zero_le _⟩ dL_refused_164 (fun v17 h17 H locs hR hL gv17 hk => ?_)
                            refine lv_iconst (v := tw_I (-1)) hC.1 hC.2.1 dL_refused_167 rfl ?_
                            refine tw_cne (tgt := 202) hC hk gv17 ((tw_rgL rfl)) dL_refused_168 (by decide) (fun _ hk => ?_) (fun _ hk => ?_)
                            · refine lv_aload_n hC.1 hC.2.1 dL_refused_171 rfl (lv_at hl 3 rfl) ?_
                              refine lv_iconst (v := tw_I (-1)) hC.1 hC.2.1 dL_refused_172 rfl ?_
                              refine kX8_take hC hR hL hk ((tw_rgL rfl)) mlL_61 ⟨by decide, by decide⟩ hl.1 (Nat.le_of_ble_eq_true rfl) ⟨Nat.zero_le _, Nat.zero_le _⟩ dL_refused_173 (fun v18 h18 H locs hR hL gv18 hk => ?_)
                              refine lv_iconst (v := tw_I (-1)) hC.1 hC.2.1 dL_refused_176 rfl ?_
                              refine tw_cne (tgt := 202) hC hk gv18 ((tw_rgL rfl)) dL_refused_177 (by decide) (fun _ hk => ?_) (fun _ hk => ?_)
                              · refine lv_aload_n hC.1 hC.2.1 dL_refused_180 rfl (lv_at hl 3 rfl) ?_
                                refine lv_iconst (v := tw_I 2) hC.1 hC.2.1 dL_refused_181 rfl ?_
                                refine kX8_restore hC hR hL hk ((tw_rgL rfl)) mlL_64 ⟨by decide, by decide⟩ hl.1 (Nat.le_of_ble_eq_true rfl) ⟨Nat.zero_le _, Nat.zero_le _⟩ dL_refused_182 (fun v19 h19 H locs hR hL gv19 hk => ?_)
                                refine lv_iconst (v := tw_I (-1)) hC.1 hC.2.1 dL_refused_185 rfl ?_
                                refine tw_cne (tgt := 202) hC hk gv19 ((tw_rgL rfl)) dL_refused_186 (by decide) (fun _ hk => ?_) (fun _ hk => ?_)
                                · refine lv_aload_n hC.1 hC.2.1 dL_refused_189 rfl (lv_at hl 3 rfl) ?_
                                  refine lv_iconst (v := tw_I 0) hC.1 hC.2.1 dL_refused_190 rfl ?_
                                  refine kX8_append hC hR hL hk ((tw_rgL rfl)) mlL_67 ⟨by decide, by decide⟩ hl.1 (Nat.le_of_ble_eq_true rfl) ⟨Nat.zero_le _, Nat.zero_le _⟩ dL_refused_191 (fun v20 h20 H locs hR hL gv20 hk => ?_)
                                  refine lv_iconst (v := tw_I (-1)) hC.1 hC.2.1 dL_refused_194 rfl ?_
                                  refine tw_cne (tgt := 202) hC hk gv20 ((tw_rgL rfl)) dL_refused_195 (by decide) (fun _ hk => ?_) (fun _ hk => ?_)
                                  · refine lv_iconst (v := tw_I 1) hC.1 hC.2.1 dL_refused_198 rfl ?_
                                    refine lv_goto (tgt := 203) hC.1 hC.2.1 dL_refused_199 (by decide) ?_
                                    exact sL_refused_L203 G sz hC a1 v1 v2 v3 1 h20 gv2 gv3 ((tw_rgL rfl)) out hk H locs _ hR hL (lv_sub hl [3, 2, 1, 0] rfl)
                                  · exact sL_refused_L202 G sz hC a1 v1 v2 v3 h20 gv2 gv3 out hk H locs _ hR hL (lv_sub hl [3, 2, 1, 0] rfl)
                                · exact sL_refused_L202 G sz hC a1 v1 v2 v3 h19 gv2 gv3 out hk H locs _ hR hL (lv_sub hl [3, 2, 1, 0] rfl)
                              · exact sL_refused_L202 G sz hC a1 v1 v2 v3 h18 gv2 gv3 out hk H locs _ hR hL (lv_sub hl [3, 2, 1, 0] rfl)
                            · exact sL_refused_L202 G sz hC a1 v1 v2 v3 h17 gv2 gv3 out hk H locs _ hR hL (lv_sub hl [3, 2, 1, 0] rfl)
                          · exact sL_refused_L202 G sz hC a1 v1 v2 v3 h16 gv2 gv3 out hk H locs _ hR hL (lv_sub hl [3, 2, 1, 0] rfl)
                        · exact sL_refused_L202 G sz hC a1 v1 v2 v3 h15 gv2 gv3 out hk H locs _ hR hL (lv_sub hl [3, 2, 1, 0] rfl)
                      · exact sL_refused_L202 G sz hC a1 v1 v2 v3 h14 gv2 gv3 out hk H locs _ hR hL (lv_sub hl [3, 2, 1, 0] rfl)
                    · exact sL_refused_L202 G sz hC a1 v1 v2 v3 h13 gv2 gv3 out hk H locs _ hR hL (lv_sub hl [3, 2, 1, 0] rfl)
                  · exact sL_refused_L202 G sz hC a1 v1 v2 v3 h12 gv2 gv3 out hk H locs _ hR hL (lv_sub hl [3, 2, 1, 0] rfl)
                · exact sL_refused_L202 G sz hC a1 v1 v2 v3 h11 gv2 gv3 out hk H locs _ hR hL (lv_sub hl [3, 2, 1, 0] rfl)
              · exact sL_refused_L202 G sz hC a1 v1 v2 v3 h10 gv2 gv3 out hk H locs _ hR hL (lv_sub hl [3, 2, 1, 0] rfl)
            · exact sL_refused_L202 G sz hC a1 v1 v2 v3 h9 gv2 gv3 out hk H locs _ hR hL (lv_sub hl [3, 2, 1, 0] rfl)
          · exact sL_refused_L202 G sz hC a1 v1 v2 v3 h8 gv2 gv3 out hk H locs _ hR hL (lv_sub hl [3, 2, 1, 0] rfl)
        · exact sL_refused_L202 G sz hC a1 v1 v2 v3 h7 gv2 gv3 out hk H locs _ hR hL (lv_sub hl [3, 2, 1, 0] rfl)
      · exact sL_refused_L202 G sz hC a1 v1 v2 v3 h6 gv2 gv3 out hk H locs _ hR hL (lv_sub hl [3, 2, 1, 0] rfl)
    · exact sL_refused_L202 G sz hC a1 v1 v2 v3 h5 gv2 gv3 out hk H locs _ hR hL (lv_sub hl [3, 2, 1, 0] rfl)
  · exact sL_refused_L202 G sz hC a1 v1 v2 v3 h4 gv2 gv3 out hk H locs _ hR hL (lv_sub hl [3, 2, 1, 0] rfl)
set_option maxRecDepth 100000 in
theorem kL_refused {l : Launch} {p : Program} {e : Env} {R : Room} {s : State} {m : MethodId} {args : Array Value} {below : List Frame} {meth : Method} {c : Code} {H : Heap} {locs : List Loc} {cells slots : Nat} {Q : State → Prop} {cc : ByteArray} {pc nL idx : Nat} {ls : Array Slot} {rest : List Value} {G : tw_G} {h : tm_H} {own : String} {ret : Option FieldType} {α : Type} {x : α} {sz : Nat} {a1 : Nat} (hC : tw_C G p s m args meth c own cc nL ret) (hR : tw_Rel G sz h H) (hL : tw_L G locs) {F : Int × tm_H → Option α} (hk : (fL_refused a1 h).bind F = some x)  (hl : tw_mL own idx yL_refused) (hRm : rmL_refused.frames + 1 ≤ R.frames ∧ 8 + (6 + 11) + rmL_refused.locals ≤ R.locals) (hsz : ls.size = nL) (hW : (rest.map fun v => v.category).sum ≤ 8) (hf : cells + 0 ≤ R.cells ∧ slots + 0 ≤ R.slots) (hdg : decode cc pc = .ok (.invokestatic idx, 3)) (kk : ∀ (r : Int) (h1 : tm_H) (H1 : Heap) (locs1 : List Loc), tw_Rel G sz h1 H1 → tw_L G locs1 → tm_rg r → F (r, h1) = some x → W p l e R s m args below meth c H1 locs1 (cells + 0) (slots + 0) Q (F0 m (pc + 3) ls (.int (tw_I r) :: rest))) : W p l e R s m args below meth c H locs cells slots Q (F0 m pc ls (.ref a1 :: rest)) := by
  obtain ⟨r, hr, hF⟩ := Option.bind_eq_some_iff.mp hk
  exact tw_backi (tw_runS hC hR (cL_refused_ok l G sz a1  h r hr) (n := 1) ⟨tw_in_TB 426 (by decide +kernel) rfl, tw_in_TB 8 (by decide +kernel) rfl, by decide +kernel⟩ (tw_in_TB 425 (by decide +kernel) rfl) hl ⟨rfl, rfl⟩ hRm rfl hsz rfl hW hdg hf) hL (fun H1 locs1 a b g => kk r.1 r.2 H1 locs1 a b g hF)
def rmL_size : Room := { frames := 7, cells := 0, slots := 0, locals := 162 }
set_option maxRecDepth 100000 in
set_option maxHeartbeats 4000000 in
theorem sL_size_S0 {l : Launch} {p : Program} {e : Env} {s : State} {m : MethodId} {args : Array Value} {below : List Frame} {meth : Method} {c : Code} (G : tw_G) (sz : Nat) (hC : tw_C G p s m args meth c RL cL_size 3 (some .int)) (a1 : Nat) (a2 : Int) (ga2 : tm_rg a2) : ∀ (k : Nat) (st : (Int × tm_H)) (out : Int × tm_H), tm_wit (fL_size_S0 a1 a2) k st = some out → match st with
    | (x2, h) => ∀ (H : Heap) (locs : List Loc) (ls : Array Slot), tm_rg x2 → tw_Rel G sz h H → tw_L G locs → lv_has ls 3 [(0, .ref a1), (1, .int (tw_I a2)), (2, .int (tw_I x2))] → W p l e rmL_size s m args below meth c H locs 0 0 (MQ below (tw_Qi G sz out.1 out.2) args s 0 0 (tw_F G)) (F0 m 2 ls []) := by
  intro k
  induction k with
  | zero =>
    intro st out hk
    exact absurd hk (by unfold tm_wit; exact fun z => by cases z)
  | succ k ih =>
    intro st out hk
    obtain ⟨X, hk, hf⟩ := tm_wit_succ hk
    obtain ⟨x2, h⟩ := st
    intro H locs ls gx2 hR hL hl
    dsimp only [fL_size_S0] at hk
    refine lv_iload_n hC.1 hC.2.1 dL_size_2 rfl (lv_at hl 2 rfl) ?_
    refine lv_bipush (v := tw_I 41) hC.1 hC.2.1 dL_size_3 (by decide) ?_
    refine tw_cge (tgt := 24) hC hk gx2 ((tw_rgL rfl)) dL_size_5 (by decide) (fun _ hk => ?_) (fun _ hk => ?_)
    · refine lv_aload_n hC.1 hC.2.1 dL_size_8 rfl (lv_at hl 0 rfl) ?_
      refine lv_iload_n hC.1 hC.2.1 dL_size_9 rfl (lv_at hl 1 rfl) ?_
      refine lv_iload_n hC.1 hC.2.1 dL_size_10 rfl (lv_at hl 2 rfl) ?_
      refine lv_iconst (v := tw_I 0) hC.1 hC.2.1 dL_size_11 rfl ?_
      refine kX8_place hC hR hL hk ga2 gx2 ((tw_rgL rfl)) mlL_19 ⟨by decide, by decide⟩ hl.1 (Nat.le_of_ble_eq_true rfl) ⟨Nat.zero_le _, Nat.zero_le _⟩ dL_size_12 (fun v1 h1 H locs hR hL gv1 hk => ?_)
      refine tw_zlt (tgt := 24) hC hk gv1 dL_size_15 (by decide) (fun _ hk => ?_) (fun _ hk => ?_)
      · refine lv_iload_n hC.1 hC.2.1 dL_size_24 rfl (lv_at hl 2 rfl) ?_
        cases hk
        cases hf
        exact tw_iret hC hR hL gx2 rfl rfl dL_size_25
      · refine tw_iinc (lv' := [(2, .int (tw_I (tm_wr (x2 + 1)))), (0, .ref a1), (1, .int (tw_I a2))]) hC dL_size_18 hl (k := 2) rfl (by decide) rfl (fun ls hl => ?_)
        refine lv_goto (tgt := 2) hC.1 hC.2.1 dL_size_21 (by decide) ?_
        cases hk
        exact ih _ out hf H locs _ ((tm_wr_rg _)) hR hL (lv_sub hl [1, 2, 0] rfl)
    · refine lv_iload_n hC.1 hC.2.1 dL_size_24 rfl (lv_at hl 2 rfl) ?_
      cases hk
      cases hf
      exact tw_iret hC hR hL gx2 rfl rfl dL_size_25
theorem sL_size_L2 {l : Launch} {p : Program} {e : Env} {s : State} {m : MethodId} {args : Array Value} {below : List Frame} {meth : Method} {c : Code} (G : tw_G) (sz : Nat) (hC : tw_C G p s m args meth c RL cL_size 3 (some .int)) (a1 : Nat) (a2 : Int) (ga2 : tm_rg a2) (x2 : Int) (h : tm_H) (gx2 : tm_rg x2) (out : Int × tm_H) (hk : fL_size_L2 a1 a2 x2 h = some out) (H : Heap) (locs : List Loc) (ls : Array Slot) (hR : tw_Rel G sz h H) (hL : tw_L G locs) (hl : lv_has ls 3 [(0, .ref a1), (1, .int (tw_I a2)), (2, .int (tw_I x2))]) : W p l e rmL_size s m args below meth c H locs 0 0 (MQ below (tw_Qi G sz out.1 out.2) args s 0 0 (tw_F G)) (F0 m 2 ls []) := by
  obtain ⟨k, hk⟩ := tm_wl_iff.mp hk
  exact sL_size_S0 G sz hC a1 a2 ga2 k ((x2, h)) out hk H locs ls gx2 hR hL hl
set_option maxRecDepth 100000 in
set_option maxHeartbeats 4000000 in
theorem cL_size_ok (l : Launch) (G : tw_G) (sz : Nat) (a1 : Nat) (a2 : Int) (ga2 : tm_rg a2) (h : tm_H) (out : Int × tm_H) (hk : fL_size a1 a2 h = some out) : Met l yL_size (tw_WS yL_size cL_size 3 (some .int)) rmL_size (va_Pc [.ref a1, .int (tw_I a2)] (tw_Pre G sz h)) (tw_Qi G sz out.1 out.2) 0 0 (tw_F G) := by
  refine tw_met (by decide +kernel) (Nat.le_of_ble_eq_true rfl) ?_
  intro p e s m args below meth c H ls hC hnm hR hl
  unfold fL_size at hk
  have hl : lv_has ls 3 [(0, .ref a1), (1, .int (tw_I a2))] := hl
  have hL : tw_L G [] := fun q z => by cases z
  generalize hlc : ([] : List Loc) = locs at hL ⊢
  refine lv_iconst (v := tw_I 0) hC.1 hC.2.1 dL_size_0 rfl ?_
  refine lv_istore_n (lv' := [(2, .int (tw_I 0)), (0, .ref a1), (1, .int (tw_I a2))]) hC.1 hC.2.1 dL_size_1 rfl hl (by decide) rfl (fun ls hl => ?_)
  exact sL_size_L2 G sz hC a1 a2 ga2 0 h ((tw_rgL rfl)) out hk H locs _ hR hL (lv_sub hl [1, 2, 0] rfl)
set_option maxRecDepth 100000 in
theorem kL_size {l : Launch} {p : Program} {e : Env} {R : Room} {s : State} {m : MethodId} {args : Array Value} {below : List Frame} {meth : Method} {c : Code} {H : Heap} {locs : List Loc} {cells slots : Nat} {Q : State → Prop} {cc : ByteArray} {pc nL idx : Nat} {ls : Array Slot} {rest : List Value} {G : tw_G} {h : tm_H} {own : String} {ret : Option FieldType} {α : Type} {x : α} {sz : Nat} {a1 : Nat} {a2 : Int} (hC : tw_C G p s m args meth c own cc nL ret) (hR : tw_Rel G sz h H) (hL : tw_L G locs) {F : Int × tm_H → Option α} (hk : (fL_size a1 a2 h).bind F = some x) (ga2 : tm_rg a2) (hl : tw_mL own idx yL_size) (hRm : rmL_size.frames + 1 ≤ R.frames ∧ 8 + (3 + 11) + rmL_size.locals ≤ R.locals) (hsz : ls.size = nL) (hW : (rest.map fun v => v.category).sum ≤ 8) (hf : cells + 0 ≤ R.cells ∧ slots + 0 ≤ R.slots) (hdg : decode cc pc = .ok (.invokestatic idx, 3)) (kk : ∀ (r : Int) (h1 : tm_H) (H1 : Heap) (locs1 : List Loc), tw_Rel G sz h1 H1 → tw_L G locs1 → tm_rg r → F (r, h1) = some x → W p l e R s m args below meth c H1 locs1 (cells + 0) (slots + 0) Q (F0 m (pc + 3) ls (.int (tw_I r) :: rest))) : W p l e R s m args below meth c H locs cells slots Q (F0 m pc ls (.int (tw_I a2) :: .ref a1 :: rest)) := by
  obtain ⟨r, hr, hF⟩ := Option.bind_eq_some_iff.mp hk
  exact tw_backi (tw_runS hC hR (cL_size_ok l G sz a1 a2 ga2 h r hr) (n := 2) ⟨tw_in_TB 625 (by decide +kernel) rfl, tw_in_TB 8 (by decide +kernel) rfl, by decide +kernel⟩ (tw_in_TB 624 (by decide +kernel) rfl) hl ⟨rfl, rfl⟩ hRm rfl hsz rfl hW hdg hf) hL (fun H1 locs1 a b g => kk r.1 r.2 H1 locs1 a b g hF)
