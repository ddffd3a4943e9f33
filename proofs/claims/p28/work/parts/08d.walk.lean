def rmX8_init : Room := { frames := 4, cells := 440, slots := 8913, locals := 85 }
set_option maxRecDepth 100000 in
set_option maxHeartbeats 4000000 in
theorem cX8_init_ok (l : Launch) (G : tw_G) (n : Nat) (this : Nat)  (h : tm_H) (out : tm_H × Nat) (hk : fX8_init this h n = some out) : Met l yX8_init (tw_WS yX8_init cX8_init 1 none) rmX8_init (va_Pc [.ref this] (tw_Pre G n h)) (tw_Qv G out.2 out.1) 440 8913 (tw_F G) := by
  refine tw_met (by decide +kernel) (Nat.le_of_ble_eq_true rfl) ?_
  intro p e s m args below meth c H ls hC hnm hR hl
  unfold fX8_init at hk
  obtain ⟨hob, hk⟩ := tm_th_is hk
  have hl : lv_has ls 1 [(0, .ref this)] := hl
  have hL : tw_L G [] := fun q z => by cases z
  generalize hlc : ([] : List Loc) = locs at hL ⊢
  refine lv_aload_n hC.1 hC.2.1 dX8_init_0 rfl (lv_at hl 0 rfl) ?_
  refine tw_objInit hC (tw_in_TB 24 (by decide +kernel) rfl) tw_oiI tw_oiC hl.1 dX8_init_1 (by decide) (Nat.le_of_ble_eq_true rfl) ?_
  refine lv_aload_n hC.1 hC.2.1 dX8_init_4 rfl (lv_at hl 0 rfl) ?_
  refine tw_new hC hR nwX8_7 hk ⟨by decide, by decide⟩ dX8_init_5 (fun h1 H hR hk => ?_)
  refine lv_dup hC.1 hC.2.1 dX8_init_8 rfl ?_
  refine kX4_init hC hR hL hk mlX8_9 ⟨by decide, by decide⟩ hl.1 (Nat.le_of_ble_eq_true rfl) ⟨by decide, by decide⟩ dX8_init_9 (fun h2 n2 H locs hR hL hk => ?_)
  refine tw_putR hC hR hL hnm rfl rfl hk fpX8_10 dX8_init_12 (fun h3 H locs hR hL hk => ?_)
  refine lv_aload_n hC.1 hC.2.1 dX8_init_15 rfl (lv_at hl 0 rfl) ?_
  refine tw_new hC hR nwX8_7 hk ⟨by decide, by decide⟩ dX8_init_16 (fun h4 H hR hk => ?_)
  refine lv_dup hC.1 hC.2.1 dX8_init_19 rfl ?_
  refine kX4_init hC hR hL hk mlX8_9 ⟨by decide, by decide⟩ hl.1 (Nat.le_of_ble_eq_true rfl) ⟨by decide, by decide⟩ dX8_init_20 (fun h5 n5 H locs hR hL hk => ?_)
  refine tw_putR hC hR hL hnm rfl rfl hk fpX8_16 dX8_init_23 (fun h6 H locs hR hL hk => ?_)
  refine lv_aload_n hC.1 hC.2.1 dX8_init_26 rfl (lv_at hl 0 rfl) ?_
  refine tw_new hC hR nwX8_19 hk ⟨by decide, by decide⟩ dX8_init_27 (fun h7 H hR hk => ?_)
  refine lv_dup hC.1 hC.2.1 dX8_init_30 rfl ?_
  refine kX1_init hC hR hL hk mlX8_21 ⟨by decide, by decide⟩ hl.1 (Nat.le_of_ble_eq_true rfl) ⟨by decide, by decide⟩ dX8_init_31 (fun h8 n8 H locs hR hL hk => ?_)
  refine tw_putR hC hR hL hnm rfl rfl hk fpX8_22 dX8_init_34 (fun h9 H locs hR hL hk => ?_)
  refine lv_aload_n hC.1 hC.2.1 dX8_init_37 rfl (lv_at hl 0 rfl) ?_
  refine tw_new hC hR nwX8_26 hk ⟨by decide, by decide⟩ dX8_init_38 (fun h10 H hR hk => ?_)
  refine lv_dup hC.1 hC.2.1 dX8_init_41 rfl ?_
  refine kX2_init hC hR hL hk mlX8_28 ⟨by decide, by decide⟩ hl.1 (Nat.le_of_ble_eq_true rfl) ⟨by decide, by decide⟩ dX8_init_42 (fun h11 n11 H locs hR hL hk => ?_)
  refine tw_putR hC hR hL hnm rfl rfl hk fpX8_29 dX8_init_45 (fun h12 H locs hR hL hk => ?_)
  refine lv_aload_n hC.1 hC.2.1 dX8_init_48 rfl (lv_at hl 0 rfl) ?_
  refine tw_new hC hR nwX8_33 hk ⟨by decide, by decide⟩ dX8_init_49 (fun h13 H hR hk => ?_)
  refine lv_dup hC.1 hC.2.1 dX8_init_52 rfl ?_
  refine kX3_init hC hR hL hk mlX8_35 ⟨by decide, by decide⟩ hl.1 (Nat.le_of_ble_eq_true rfl) ⟨by decide, by decide⟩ dX8_init_53 (fun h14 n14 H locs hR hL hk => ?_)
  refine tw_putR hC hR hL hnm rfl rfl hk fpX8_36 dX8_init_56 (fun h15 H locs hR hL hk => ?_)
  refine lv_aload_n hC.1 hC.2.1 dX8_init_59 rfl (lv_at hl 0 rfl) ?_
  refine lv_iconst (v := tw_I 4) hC.1 hC.2.1 dX8_init_60 rfl ?_
  refine tw_nai hC hR tw_ari 4 (by decide) hk ⟨by decide, by decide⟩ dX8_init_61 (fun h16 H hR hk => ?_)
  refine tw_putR hC hR hL hnm rfl rfl hk fpX8_42 dX8_init_63 (fun h17 H locs hR hL hk => ?_)
  cases hk
  exact tw_vret hC hR hL rfl dX8_init_66
set_option maxRecDepth 100000 in
theorem kX8_init {l : Launch} {p : Program} {e : Env} {R : Room} {s : State} {m : MethodId} {args : Array Value} {below : List Frame} {meth : Method} {c : Code} {H : Heap} {locs : List Loc} {cells slots : Nat} {Q : State → Prop} {cc : ByteArray} {pc nL idx : Nat} {ls : Array Slot} {rest : List Value} {G : tw_G} {h : tm_H} {own : String} {ret : Option FieldType} {α : Type} {x : α} {n : Nat} {this : Nat} (hC : tw_C G p s m args meth c own cc nL ret) (hR : tw_Rel G n h H) (hL : tw_L G locs) {F : tm_H × Nat → Option α} (hk : (fX8_init this h n).bind F = some x)  (hl : tw_mL own idx yX8_init) (hRm : rmX8_init.frames + 1 ≤ R.frames ∧ 8 + (1 + 11) + rmX8_init.locals ≤ R.locals) (hsz : ls.size = nL) (hW : (rest.map fun v => v.category).sum ≤ 8) (hf : cells + 440 ≤ R.cells ∧ slots + 8913 ≤ R.slots) (hdg : decode cc pc = .ok (.invokespecial idx, 3)) (kk : ∀ (h1 : tm_H) (n1 : Nat) (H1 : Heap) (locs1 : List Loc), tw_Rel G n1 h1 H1 → tw_L G locs1 → F (h1, n1) = some x → W p l e R s m args below meth c H1 locs1 (cells + 440) (slots + 8913) Q (F0 m (pc + 3) ls (rest))) : W p l e R s m args below meth c H locs cells slots Q (F0 m pc ls (.ref this :: rest)) := by
  obtain ⟨r, hr, hF⟩ := Option.bind_eq_some_iff.mp hk
  exact tw_backv (tw_runI hC hR (cX8_init_ok l G n this  h r hr) (n := 0) (As := []) ⟨tw_in_TB 23 (by decide +kernel) rfl, tw_in_TB 9 (by decide +kernel) rfl, by decide +kernel⟩ (tw_in_TB 22 (by decide +kernel) rfl) rfl hl ⟨rfl, rfl⟩ hRm rfl hsz rfl hW hdg hf) hL (fun H1 locs1 a b => kk r.1 r.2 H1 locs1 a b hF)
def rmX8_insert : Room := { frames := 4, cells := 0, slots := 0, locals := 91 }
set_option maxRecDepth 100000 in
set_option maxHeartbeats 4000000 in
theorem cX8_insert_ok (l : Launch) (G : tw_G) (sz : Nat) (this : Nat) (a1 : Int) (a2 : Int) (a3 : Int) (ga1 : tm_rg a1) (ga2 : tm_rg a2) (ga3 : tm_rg a3) (h : tm_H) (out : Int × tm_H) (hk : fX8_insert this a1 a2 a3 h = some out) : Met l yX8_insert (tw_WS yX8_insert cX8_insert 5 (some .int)) rmX8_insert (va_Pc [.ref this, .int (tw_I a1), .int (tw_I a2), .int (tw_I a3)] (tw_Pre G sz h)) (tw_Qi G sz out.1 out.2) 0 0 (tw_F G) := by
  refine tw_met (by decide +kernel) (Nat.le_of_ble_eq_true rfl) ?_
  intro p e s m args below meth c H ls hC hnm hR hl
  unfold fX8_insert at hk
  obtain ⟨hob, hk⟩ := tm_th_is hk
  have hl : lv_has ls 5 [(0, .ref this), (1, .int (tw_I a1)), (2, .int (tw_I a2)), (3, .int (tw_I a3))] := hl
  have hL : tw_L G [] := fun q z => by cases z
  generalize hlc : ([] : List Loc) = locs at hL ⊢
  refine lv_aload_n hC.1 hC.2.1 dX8_insert_0 rfl (lv_at hl 0 rfl) ?_
  refine tw_getR hC hR hk flX8_10 dX8_insert_1 (fun r1 hk => ?_)
  refine tw_getR hC hR hk flX8_46 dX8_insert_4 (fun r2 hk => ?_)
  refine lv_astore (lv' := [(4, .ref r2), (0, .ref this), (1, .int (tw_I a1)), (2, .int (tw_I a2)), (3, .int (tw_I a3))]) hC.1 hC.2.1 dX8_insert_7 hl (by decide) rfl (fun ls hl => ?_)
  refine lv_aload hC.1 hC.2.1 dX8_insert_9 (lv_at hl 0 rfl) ?_
  refine lv_iload_n hC.1 hC.2.1 dX8_insert_11 rfl (lv_at hl 2 rfl) ?_
  refine kX0_has hC hR hL hk ga1 mlX8_50 ⟨by decide, by decide⟩ hl.1 (Nat.le_of_ble_eq_true rfl) ⟨Nat.zero_le _, Nat.zero_le _⟩ dX8_insert_12 (fun v3 H locs hR hL gv3 hk => ?_)
  refine tw_zeq (tgt := 46) hC hk gv3 dX8_insert_15 (by decide) (fun _ hk => ?_) (fun _ hk => ?_)
  · refine lv_iconst (v := tw_I (-1)) hC.1 hC.2.1 dX8_insert_46 rfl ?_
    cases hk
    exact tw_iret hC hR hL ((tw_rgL rfl)) rfl rfl dX8_insert_47
  · refine lv_iload_n hC.1 hC.2.1 dX8_insert_18 rfl (lv_at hl 3 rfl) ?_
    refine tw_zlt (tgt := 46) hC hk ga2 dX8_insert_19 (by decide) (fun _ hk => ?_) (fun _ hk => ?_)
    · refine lv_iconst (v := tw_I (-1)) hC.1 hC.2.1 dX8_insert_46 rfl ?_
      cases hk
      exact tw_iret hC hR hL ((tw_rgL rfl)) rfl rfl dX8_insert_47
    · refine lv_iload_n hC.1 hC.2.1 dX8_insert_22 rfl (lv_at hl 3 rfl) ?_
      refine lv_aload hC.1 hC.2.1 dX8_insert_23 (lv_at hl 0 rfl) ?_
      refine lv_iload_n hC.1 hC.2.1 dX8_insert_25 rfl (lv_at hl 2 rfl) ?_
      refine kX0_lengthOf hC hR hL hk ga1 mlX8_56 ⟨by decide, by decide⟩ hl.1 (Nat.le_of_ble_eq_true rfl) ⟨Nat.zero_le _, Nat.zero_le _⟩ dX8_insert_26 (fun v4 H locs hR hL gv4 hk => ?_)
      refine tw_cgt (tgt := 46) hC hk ga2 gv4 dX8_insert_29 (by decide) (fun _ hk => ?_) (fun _ hk => ?_)
      · refine lv_iconst (v := tw_I (-1)) hC.1 hC.2.1 dX8_insert_46 rfl ?_
        cases hk
        exact tw_iret hC hR hL ((tw_rgL rfl)) rfl rfl dX8_insert_47
      · refine lv_aload_n hC.1 hC.2.1 dX8_insert_32 rfl (lv_at hl 1 rfl) ?_
        refine tw_getR hC hR hk flX8_10 dX8_insert_33 (fun r5 hk => ?_)
        refine tw_getR hC hR hk flX8_60 dX8_insert_36 (fun r6 hk => ?_)
        refine lv_iload_n hC.1 hC.2.1 dX8_insert_39 rfl (lv_at hl 4 rfl) ?_
        refine kX7_has hC hR hL hk ga3 mlX8_64 ⟨by decide, by decide⟩ hl.1 (Nat.le_of_ble_eq_true rfl) ⟨Nat.zero_le _, Nat.zero_le _⟩ dX8_insert_40 (fun v7 H locs hR hL gv7 hk => ?_)
        refine tw_zne (tgt := 48) hC hk gv7 dX8_insert_43 (by decide) (fun _ hk => ?_) (fun _ hk => ?_)
        · refine lv_iconst (v := tw_I (-1)) hC.1 hC.2.1 dX8_insert_46 rfl ?_
          cases hk
          exact tw_iret hC hR hL ((tw_rgL rfl)) rfl rfl dX8_insert_47
        · refine lv_aload hC.1 hC.2.1 dX8_insert_48 (lv_at hl 0 rfl) ?_
          refine lv_iload_n hC.1 hC.2.1 dX8_insert_50 rfl (lv_at hl 2 rfl) ?_
          refine kX0_lengthOf hC hR hL hk ga1 mlX8_56 ⟨by decide, by decide⟩ hl.1 (Nat.le_of_ble_eq_true rfl) ⟨Nat.zero_le _, Nat.zero_le _⟩ dX8_insert_51 (fun v8 H locs hR hL gv8 hk => ?_)
          refine lv_bipush (v := tw_I 40) hC.1 hC.2.1 dX8_insert_54 (by decide) ?_
          refine tw_clt (tgt := 62) hC hk gv8 ((tw_rgL rfl)) dX8_insert_56 (by decide) (fun _ hk => ?_) (fun _ hk => ?_)
          · refine lv_aload_n hC.1 hC.2.1 dX8_insert_62 rfl (lv_at hl 1 rfl) ?_
            refine tw_getR hC hR hk flX8_22 dX8_insert_63 (fun r9 hk => ?_)
            refine lv_aload_n hC.1 hC.2.1 dX8_insert_66 rfl (lv_at hl 1 rfl) ?_
            refine tw_getR hC hR hk flX8_10 dX8_insert_67 (fun r10 hk => ?_)
            refine kX1_keep hC hR hL hk mlX8_67 ⟨by decide, by decide⟩ hl.1 (Nat.le_of_ble_eq_true rfl) ⟨Nat.zero_le _, Nat.zero_le _⟩ dX8_insert_70 (fun h11 H locs hR hL hk => ?_)
            refine lv_aload hC.1 hC.2.1 dX8_insert_73 (lv_at hl 0 rfl) ?_
            refine lv_iload_n hC.1 hC.2.1 dX8_insert_75 rfl (lv_at hl 2 rfl) ?_
            refine lv_iload_n hC.1 hC.2.1 dX8_insert_76 rfl (lv_at hl 3 rfl) ?_
            refine lv_iload_n hC.1 hC.2.1 dX8_insert_77 rfl (lv_at hl 4 rfl) ?_
            refine kX0_put hC hR hL hk ga1 ga2 ga3 mlX8_71 ⟨by decide, by decide⟩ hl.1 (Nat.le_of_ble_eq_true rfl) ⟨Nat.zero_le _, Nat.zero_le _⟩ dX8_insert_78 (fun h12 H locs hR hL hk => ?_)
            refine lv_aload hC.1 hC.2.1 dX8_insert_81 (lv_at hl 0 rfl) ?_
            refine lv_iload_n hC.1 hC.2.1 dX8_insert_83 rfl (lv_at hl 2 rfl) ?_
            refine kX0_lengthOf hC hR hL hk ga1 mlX8_56 ⟨by decide, by decide⟩ hl.1 (Nat.le_of_ble_eq_true rfl) ⟨Nat.zero_le _, Nat.zero_le _⟩ dX8_insert_84 (fun v13 H locs hR hL gv13 hk => ?_)
            cases hk
            exact tw_iret hC hR hL gv13 rfl rfl dX8_insert_87
          · refine lv_bipush (v := tw_I (-3)) hC.1 hC.2.1 dX8_insert_59 (by decide) ?_
            cases hk
            exact tw_iret hC hR hL ((tw_rgL rfl)) rfl rfl dX8_insert_61
set_option maxRecDepth 100000 in
theorem kX8_insert {l : Launch} {p : Program} {e : Env} {R : Room} {s : State} {m : MethodId} {args : Array Value} {below : List Frame} {meth : Method} {c : Code} {H : Heap} {locs : List Loc} {cells slots : Nat} {Q : State → Prop} {cc : ByteArray} {pc nL idx : Nat} {ls : Array Slot} {rest : List Value} {G : tw_G} {h : tm_H} {own : String} {ret : Option FieldType} {α : Type} {x : α} {sz : Nat} {this : Nat} {a1 : Int} {a2 : Int} {a3 : Int} (hC : tw_C G p s m args meth c own cc nL ret) (hR : tw_Rel G sz h H) (hL : tw_L G locs) {F : Int × tm_H → Option α} (hk : (fX8_insert this a1 a2 a3 h).bind F = some x) (ga1 : tm_rg a1) (ga2 : tm_rg a2) (ga3 : tm_rg a3) (hl : tw_mL own idx yX8_insert) (hRm : rmX8_insert.frames + 1 ≤ R.frames ∧ 8 + (5 + 11) + rmX8_insert.locals ≤ R.locals) (hsz : ls.size = nL) (hW : (rest.map fun v => v.category).sum ≤ 8) (hf : cells + 0 ≤ R.cells ∧ slots + 0 ≤ R.slots) (hdg : decode cc pc = .ok (.invokevirtual idx, 3)) (kk : ∀ (r : Int) (h1 : tm_H) (H1 : Heap) (locs1 : List Loc), tw_Rel G sz h1 H1 → tw_L G locs1 → tm_rg r → F (r, h1) = some x → W p l e R s m args below meth c H1 locs1 (cells + 0) (slots + 0) Q (F0 m (pc + 3) ls (.int (tw_I r) :: rest))) : W p l e R s m args below meth c H locs cells slots Q (F0 m pc ls (.int (tw_I a3) :: .int (tw_I a2) :: .int (tw_I a1) :: .ref this :: rest)) := by
  obtain ⟨r, hr, hF⟩ := Option.bind_eq_some_iff.mp hk
  have ob : ∀ r, fX8_insert this a1 a2 a3 h = some r → tm_is h 8 this := fun r hr => by
    unfold fX8_insert at hr
    exact (tm_th_is hr).1
  exact tw_backi (tw_runV hC hR (cX8_insert_ok l G sz this a1 a2 a3 ga1 ga2 ga3 h r hr) (n := 3) (As := [.int (tw_I a1), .int (tw_I a2), .int (tw_I a3)]) ⟨tw_in_TB 430 (by decide +kernel) rfl, tw_in_TB 9 (by decide +kernel) rfl, by decide +kernel⟩ (tw_in_TB 428 (by decide +kernel) rfl) (tw_in_TB 429 (by decide +kernel) rfl) hl ⟨rfl, rfl⟩ hRm (ob r hr) (T := TX8) (N := 6) rfl rfl hsz rfl hW hdg hf) hL (fun H1 locs1 a b g => kk r.1 r.2 H1 locs1 a b g hF)
def rmX8_delete : Room := { frames := 4, cells := 0, slots := 0, locals := 91 }
set_option maxRecDepth 100000 in
set_option maxHeartbeats 4000000 in
theorem cX8_delete_ok (l : Launch) (G : tw_G) (sz : Nat) (this : Nat) (a1 : Int) (a2 : Int) (a3 : Int) (ga1 : tm_rg a1) (ga2 : tm_rg a2) (ga3 : tm_rg a3) (h : tm_H) (out : Int × tm_H) (hk : fX8_delete this a1 a2 a3 h = some out) : Met l yX8_delete (tw_WS yX8_delete cX8_delete 5 (some .int)) rmX8_delete (va_Pc [.ref this, .int (tw_I a1), .int (tw_I a2), .int (tw_I a3)] (tw_Pre G sz h)) (tw_Qi G sz out.1 out.2) 0 0 (tw_F G) := by
  refine tw_met (by decide +kernel) (Nat.le_of_ble_eq_true rfl) ?_
  intro p e s m args below meth c H ls hC hnm hR hl
  unfold fX8_delete at hk
  obtain ⟨hob, hk⟩ := tm_th_is hk
  have hl : lv_has ls 5 [(0, .ref this), (1, .int (tw_I a1)), (2, .int (tw_I a2)), (3, .int (tw_I a3))] := hl
  have hL : tw_L G [] := fun q z => by cases z
  generalize hlc : ([] : List Loc) = locs at hL ⊢
  refine lv_aload_n hC.1 hC.2.1 dX8_delete_0 rfl (lv_at hl 0 rfl) ?_
  refine tw_getR hC hR hk flX8_10 dX8_delete_1 (fun r1 hk => ?_)
  refine tw_getR hC hR hk flX8_46 dX8_delete_4 (fun r2 hk => ?_)
  refine lv_astore (lv' := [(4, .ref r2), (0, .ref this), (1, .int (tw_I a1)), (2, .int (tw_I a2)), (3, .int (tw_I a3))]) hC.1 hC.2.1 dX8_delete_7 hl (by decide) rfl (fun ls hl => ?_)
  refine lv_aload hC.1 hC.2.1 dX8_delete_9 (lv_at hl 0 rfl) ?_
  refine lv_iload_n hC.1 hC.2.1 dX8_delete_11 rfl (lv_at hl 2 rfl) ?_
  refine lv_iload_n hC.1 hC.2.1 dX8_delete_12 rfl (lv_at hl 3 rfl) ?_
  refine kX0_hasPlace hC hR hL hk ga1 ga2 mlX8_75 ⟨by decide, by decide⟩ hl.1 (Nat.le_of_ble_eq_true rfl) ⟨Nat.zero_le _, Nat.zero_le _⟩ dX8_delete_13 (fun v3 H locs hR hL gv3 hk => ?_)
  refine tw_zeq (tgt := 34) hC hk gv3 dX8_delete_16 (by decide) (fun _ hk => ?_) (fun _ hk => ?_)
  · refine lv_iconst (v := tw_I (-1)) hC.1 hC.2.1 dX8_delete_34 rfl ?_
    cases hk
    exact tw_iret hC hR hL ((tw_rgL rfl)) rfl rfl dX8_delete_35
  · refine lv_aload hC.1 hC.2.1 dX8_delete_19 (lv_at hl 0 rfl) ?_
    refine lv_iload_n hC.1 hC.2.1 dX8_delete_21 rfl (lv_at hl 2 rfl) ?_
    refine lv_iload_n hC.1 hC.2.1 dX8_delete_22 rfl (lv_at hl 4 rfl) ?_
    refine kX0_hasPlace hC hR hL hk ga1 ga3 mlX8_75 ⟨by decide, by decide⟩ hl.1 (Nat.le_of_ble_eq_true rfl) ⟨Nat.zero_le _, Nat.zero_le _⟩ dX8_delete_23 (fun v4 H locs hR hL gv4 hk => ?_)
    refine tw_zeq (tgt := 34) hC hk gv4 dX8_delete_26 (by decide) (fun _ hk => ?_) (fun _ hk => ?_)
    · refine lv_iconst (v := tw_I (-1)) hC.1 hC.2.1 dX8_delete_34 rfl ?_
      cases hk
      exact tw_iret hC hR hL ((tw_rgL rfl)) rfl rfl dX8_delete_35
    · refine lv_iload_n hC.1 hC.2.1 dX8_delete_29 rfl (lv_at hl 4 rfl) ?_
      refine lv_iload_n hC.1 hC.2.1 dX8_delete_30 rfl (lv_at hl 3 rfl) ?_
      refine tw_cge (tgt := 36) hC hk ga3 ga2 dX8_delete_31 (by decide) (fun _ hk => ?_) (fun _ hk => ?_)
      · refine lv_iconst (v := tw_I (-1)) hC.1 hC.2.1 dX8_delete_34 rfl ?_
        cases hk
        exact tw_iret hC hR hL ((tw_rgL rfl)) rfl rfl dX8_delete_35
      · refine lv_aload_n hC.1 hC.2.1 dX8_delete_36 rfl (lv_at hl 1 rfl) ?_
        refine tw_getR hC hR hk flX8_22 dX8_delete_37 (fun r5 hk => ?_)
        refine lv_aload_n hC.1 hC.2.1 dX8_delete_40 rfl (lv_at hl 1 rfl) ?_
        refine tw_getR hC hR hk flX8_10 dX8_delete_41 (fun r6 hk => ?_)
        refine kX1_keep hC hR hL hk mlX8_67 ⟨by decide, by decide⟩ hl.1 (Nat.le_of_ble_eq_true rfl) ⟨Nat.zero_le _, Nat.zero_le _⟩ dX8_delete_44 (fun h7 H locs hR hL hk => ?_)
        refine lv_aload hC.1 hC.2.1 dX8_delete_47 (lv_at hl 0 rfl) ?_
        refine lv_iload_n hC.1 hC.2.1 dX8_delete_49 rfl (lv_at hl 2 rfl) ?_
        refine lv_iload_n hC.1 hC.2.1 dX8_delete_50 rfl (lv_at hl 3 rfl) ?_
        refine lv_iload_n hC.1 hC.2.1 dX8_delete_51 rfl (lv_at hl 4 rfl) ?_
        refine kX0_cut hC hR hL hk ga1 ga2 ga3 mlX8_79 ⟨by decide, by decide⟩ hl.1 (Nat.le_of_ble_eq_true rfl) ⟨Nat.zero_le _, Nat.zero_le _⟩ dX8_delete_52 (fun h8 H locs hR hL hk => ?_)
        refine lv_aload hC.1 hC.2.1 dX8_delete_55 (lv_at hl 0 rfl) ?_
        refine lv_iload_n hC.1 hC.2.1 dX8_delete_57 rfl (lv_at hl 2 rfl) ?_
        refine kX0_lengthOf hC hR hL hk ga1 mlX8_56 ⟨by decide, by decide⟩ hl.1 (Nat.le_of_ble_eq_true rfl) ⟨Nat.zero_le _, Nat.zero_le _⟩ dX8_delete_58 (fun v9 H locs hR hL gv9 hk => ?_)
        cases hk
        exact tw_iret hC hR hL gv9 rfl rfl dX8_delete_61
set_option maxRecDepth 100000 in
theorem kX8_delete {l : Launch} {p : Program} {e : Env} {R : Room} {s : State} {m : MethodId} {args : Array Value} {below : List Frame} {meth : Method} {c : Code} {H : Heap} {locs : List Loc} {cells slots : Nat} {Q : State → Prop} {cc : ByteArray} {pc nL idx : Nat} {ls : Array Slot} {rest : List Value} {G : tw_G} {h : tm_H} {own : String} {ret : Option FieldType} {α : Type} {x : α} {sz : Nat} {this : Nat} {a1 : Int} {a2 : Int} {a3 : Int} (hC : tw_C G p s m args meth c own cc nL ret) (hR : tw_Rel G sz h H) (hL : tw_L G locs) {F : Int × tm_H → Option α} (hk : (fX8_delete this a1 a2 a3 h).bind F = some x) (ga1 : tm_rg a1) (ga2 : tm_rg a2) (ga3 : tm_rg a3) (hl : tw_mL own idx yX8_delete) (hRm : rmX8_delete.frames + 1 ≤ R.frames ∧ 8 + (5 + 11) + rmX8_delete.locals ≤ R.locals) (hsz : ls.size = nL) (hW : (rest.map fun v => v.category).sum ≤ 8) (hf : cells + 0 ≤ R.cells ∧ slots + 0 ≤ R.slots) (hdg : decode cc pc = .ok (.invokevirtual idx, 3)) (kk : ∀ (r : Int) (h1 : tm_H) (H1 : Heap) (locs1 : List Loc), tw_Rel G sz h1 H1 → tw_L G locs1 → tm_rg r → F (r, h1) = some x → W p l e R s m args below meth c H1 locs1 (cells + 0) (slots + 0) Q (F0 m (pc + 3) ls (.int (tw_I r) :: rest))) : W p l e R s m args below meth c H locs cells slots Q (F0 m pc ls (.int (tw_I a3) :: .int (tw_I a2) :: .int (tw_I a1) :: .ref this :: rest)) := by
  obtain ⟨r, hr, hF⟩ := Option.bind_eq_some_iff.mp hk
  have ob : ∀ r, fX8_delete this a1 a2 a3 h = some r → tm_is h 8 this := fun r hr => by
    unfold fX8_delete at hr
    exact (tm_th_is hr).1
  exact tw_backi (tw_runV hC hR (cX8_delete_ok l G sz this a1 a2 a3 ga1 ga2 ga3 h r hr) (n := 3) (As := [.int (tw_I a1), .int (tw_I a2), .int (tw_I a3)]) ⟨tw_in_TB 448 (by decide +kernel) rfl, tw_in_TB 9 (by decide +kernel) rfl, by decide +kernel⟩ (tw_in_TB 446 (by decide +kernel) rfl) (tw_in_TB 447 (by decide +kernel) rfl) hl ⟨rfl, rfl⟩ hRm (ob r hr) (T := TX8) (N := 6) rfl rfl hsz rfl hW hdg hf) hL (fun H1 locs1 a b g => kk r.1 r.2 H1 locs1 a b g hF)
def rmX8_replace : Room := { frames := 4, cells := 0, slots := 0, locals := 91 }
set_option maxRecDepth 100000 in
set_option maxHeartbeats 4000000 in
theorem cX8_replace_ok (l : Launch) (G : tw_G) (sz : Nat) (this : Nat) (a1 : Int) (a2 : Int) (ga1 : tm_rg a1) (ga2 : tm_rg a2) (h : tm_H) (out : Int × tm_H) (hk : fX8_replace this a1 a2 h = some out) : Met l yX8_replace (tw_WS yX8_replace cX8_replace 3 (some .int)) rmX8_replace (va_Pc [.ref this, .int (tw_I a1), .int (tw_I a2)] (tw_Pre G sz h)) (tw_Qi G sz out.1 out.2) 0 0 (tw_F G) := by
  refine tw_met (by decide +kernel) (Nat.le_of_ble_eq_true rfl) ?_
  intro p e s m args below meth c H ls hC hnm hR hl
  unfold fX8_replace at hk
  obtain ⟨hob, hk⟩ := tm_th_is hk
  have hl : lv_has ls 3 [(0, .ref this), (1, .int (tw_I a1)), (2, .int (tw_I a2))] := hl
  have hL : tw_L G [] := fun q z => by cases z
  generalize hlc : ([] : List Loc) = locs at hL ⊢
  refine lv_aload_n hC.1 hC.2.1 dX8_replace_0 rfl (lv_at hl 0 rfl) ?_
  refine tw_getR hC hR hk flX8_10 dX8_replace_1 (fun r1 hk => ?_)
  refine tw_getR hC hR hk flX8_60 dX8_replace_4 (fun r2 hk => ?_)
  refine lv_iload_n hC.1 hC.2.1 dX8_replace_7 rfl (lv_at hl 1 rfl) ?_
  refine kX7_has hC hR hL hk ga1 mlX8_64 ⟨by decide, by decide⟩ hl.1 (Nat.le_of_ble_eq_true rfl) ⟨Nat.zero_le _, Nat.zero_le _⟩ dX8_replace_8 (fun v3 H locs hR hL gv3 hk => ?_)
  refine tw_zeq (tgt := 33) hC hk gv3 dX8_replace_11 (by decide) (fun _ hk => ?_) (fun _ hk => ?_)
  · refine lv_iconst (v := tw_I (-1)) hC.1 hC.2.1 dX8_replace_33 rfl ?_
    cases hk
    exact tw_iret hC hR hL ((tw_rgL rfl)) rfl rfl dX8_replace_34
  · refine lv_aload_n hC.1 hC.2.1 dX8_replace_14 rfl (lv_at hl 0 rfl) ?_
    refine tw_getR hC hR hk flX8_10 dX8_replace_15 (fun r4 hk => ?_)
    refine tw_getR hC hR hk flX8_60 dX8_replace_18 (fun r5 hk => ?_)
    refine lv_iload_n hC.1 hC.2.1 dX8_replace_21 rfl (lv_at hl 2 rfl) ?_
    refine kX7_has hC hR hL hk ga2 mlX8_64 ⟨by decide, by decide⟩ hl.1 (Nat.le_of_ble_eq_true rfl) ⟨Nat.zero_le _, Nat.zero_le _⟩ dX8_replace_22 (fun v6 H locs hR hL gv6 hk => ?_)
    refine tw_zeq (tgt := 33) hC hk gv6 dX8_replace_25 (by decide) (fun _ hk => ?_) (fun _ hk => ?_)
    · refine lv_iconst (v := tw_I (-1)) hC.1 hC.2.1 dX8_replace_33 rfl ?_
      cases hk
      exact tw_iret hC hR hL ((tw_rgL rfl)) rfl rfl dX8_replace_34
    · refine lv_iload_n hC.1 hC.2.1 dX8_replace_28 rfl (lv_at hl 1 rfl) ?_
      refine lv_iload_n hC.1 hC.2.1 dX8_replace_29 rfl (lv_at hl 2 rfl) ?_
      refine tw_cne (tgt := 35) hC hk ga1 ga2 dX8_replace_30 (by decide) (fun _ hk => ?_) (fun _ hk => ?_)
      · refine lv_iconst (v := tw_I (-1)) hC.1 hC.2.1 dX8_replace_33 rfl ?_
        cases hk
        exact tw_iret hC hR hL ((tw_rgL rfl)) rfl rfl dX8_replace_34
      · refine lv_aload_n hC.1 hC.2.1 dX8_replace_35 rfl (lv_at hl 0 rfl) ?_
        refine tw_getR hC hR hk flX8_22 dX8_replace_36 (fun r7 hk => ?_)
        refine lv_aload_n hC.1 hC.2.1 dX8_replace_39 rfl (lv_at hl 0 rfl) ?_
        refine tw_getR hC hR hk flX8_10 dX8_replace_40 (fun r8 hk => ?_)
        refine kX1_keep hC hR hL hk mlX8_67 ⟨by decide, by decide⟩ hl.1 (Nat.le_of_ble_eq_true rfl) ⟨Nat.zero_le _, Nat.zero_le _⟩ dX8_replace_43 (fun h9 H locs hR hL hk => ?_)
        refine lv_aload_n hC.1 hC.2.1 dX8_replace_46 rfl (lv_at hl 0 rfl) ?_
        refine tw_getR hC hR hk flX8_10 dX8_replace_47 (fun r10 hk => ?_)
        refine tw_getR hC hR hk flX8_46 dX8_replace_50 (fun r11 hk => ?_)
        refine lv_iload_n hC.1 hC.2.1 dX8_replace_53 rfl (lv_at hl 1 rfl) ?_
        refine lv_iload_n hC.1 hC.2.1 dX8_replace_54 rfl (lv_at hl 2 rfl) ?_
        refine kX0_exchange hC hR hL hk ga1 ga2 mlX8_82 ⟨by decide, by decide⟩ hl.1 (Nat.le_of_ble_eq_true rfl) ⟨Nat.zero_le _, Nat.zero_le _⟩ dX8_replace_55 (fun v12 h12 H locs hR hL gv12 hk => ?_)
        cases hk
        exact tw_iret hC hR hL gv12 rfl rfl dX8_replace_58
set_option maxRecDepth 100000 in
theorem kX8_replace {l : Launch} {p : Program} {e : Env} {R : Room} {s : State} {m : MethodId} {args : Array Value} {below : List Frame} {meth : Method} {c : Code} {H : Heap} {locs : List Loc} {cells slots : Nat} {Q : State → Prop} {cc : ByteArray} {pc nL idx : Nat} {ls : Array Slot} {rest : List Value} {G : tw_G} {h : tm_H} {own : String} {ret : Option FieldType} {α : Type} {x : α} {sz : Nat} {this : Nat} {a1 : Int} {a2 : Int} (hC : tw_C G p s m args meth c own cc nL ret) (hR : tw_Rel G sz h H) (hL : tw_L G locs) {F : Int × tm_H → Option α} (hk : (fX8_replace this a1 a2 h).bind F = some x) (ga1 : tm_rg a1) (ga2 : tm_rg a2) (hl : tw_mL own idx yX8_replace) (hRm : rmX8_replace.frames + 1 ≤ R.frames ∧ 8 + (3 + 11) + rmX8_replace.locals ≤ R.locals) (hsz : ls.size = nL) (hW : (rest.map fun v => v.category).sum ≤ 8) (hf : cells + 0 ≤ R.cells ∧ slots + 0 ≤ R.slots) (hdg : decode cc pc = .ok (.invokevirtual idx, 3)) (kk : ∀ (r : Int) (h1 : tm_H) (H1 : Heap) (locs1 : List Loc), tw_Rel G sz h1 H1 → tw_L G locs1 → tm_rg r → F (r, h1) = some x → W p l e R s m args below meth c H1 locs1 (cells + 0) (slots + 0) Q (F0 m (pc + 3) ls (.int (tw_I r) :: rest))) : W p l e R s m args below meth c H locs cells slots Q (F0 m pc ls (.int (tw_I a2) :: .int (tw_I a1) :: .ref this :: rest)) := by
  obtain ⟨r, hr, hF⟩ := Option.bind_eq_some_iff.mp hk
  have ob : ∀ r, fX8_replace this a1 a2 h = some r → tm_is h 8 this := fun r hr => by
    unfold fX8_replace at hr
    exact (tm_th_is hr).1
  exact tw_backi (tw_runV hC hR (cX8_replace_ok l G sz this a1 a2 ga1 ga2 h r hr) (n := 2) (As := [.int (tw_I a1), .int (tw_I a2)]) ⟨tw_in_TB 457 (by decide +kernel) rfl, tw_in_TB 9 (by decide +kernel) rfl, by decide +kernel⟩ (tw_in_TB 455 (by decide +kernel) rfl) (tw_in_TB 456 (by decide +kernel) rfl) hl ⟨rfl, rfl⟩ hRm (ob r hr) (T := TX8) (N := 6) rfl rfl hsz rfl hW hdg hf) hL (fun H1 locs1 a b g => kk r.1 r.2 H1 locs1 a b g hF)
def rmX8_readNow : Room := { frames := 5, cells := 0, slots := 0, locals := 119 }
set_option maxRecDepth 100000 in
set_option maxHeartbeats 4000000 in
theorem cX8_readNow_ok (l : Launch) (G : tw_G) (sz : Nat) (this : Nat)  (h : tm_H) (out : Nat × tm_H) (hk : fX8_readNow this h = some out) : Met l yX8_readNow (tw_WS yX8_readNow cX8_readNow 1 (some (.object "TermMarks$Reading"))) rmX8_readNow (va_Pc [.ref this] (tw_Pre G sz h)) (tw_Qr G sz out.1 out.2) 0 0 (tw_F G) := by
  refine tw_met (by decide +kernel) (Nat.le_of_ble_eq_true rfl) ?_
  intro p e s m args below meth c H ls hC hnm hR hl
  unfold fX8_readNow at hk
  obtain ⟨hob, hk⟩ := tm_th_is hk
  have hl : lv_has ls 1 [(0, .ref this)] := hl
  have hL : tw_L G [] := fun q z => by cases z
  generalize hlc : ([] : List Loc) = locs at hL ⊢
  refine lv_aload_n hC.1 hC.2.1 dX8_readNow_0 rfl (lv_at hl 0 rfl) ?_
  refine tw_getR hC hR hk flX8_36 dX8_readNow_1 (fun r1 hk => ?_)
  refine lv_aload_n hC.1 hC.2.1 dX8_readNow_4 rfl (lv_at hl 0 rfl) ?_
  refine tw_getR hC hR hk flX8_10 dX8_readNow_5 (fun r2 hk => ?_)
  refine kX3_read hC hR hL hk mlX8_227 ⟨by decide, by decide⟩ hl.1 (Nat.le_of_ble_eq_true rfl) ⟨Nat.zero_le _, Nat.zero_le _⟩ dX8_readNow_8 (fun h3 H locs hR hL hk => ?_)
  refine lv_aload_n hC.1 hC.2.1 dX8_readNow_11 rfl (lv_at hl 0 rfl) ?_
  refine tw_getR hC hR hk flX8_36 dX8_readNow_12 (fun r4 hk => ?_)
  cases hk
  exact tw_aret hC (Or.inl ⟨_, rfl⟩) hR hL rfl rfl dX8_readNow_15
set_option maxRecDepth 100000 in
theorem kX8_readNow {l : Launch} {p : Program} {e : Env} {R : Room} {s : State} {m : MethodId} {args : Array Value} {below : List Frame} {meth : Method} {c : Code} {H : Heap} {locs : List Loc} {cells slots : Nat} {Q : State → Prop} {cc : ByteArray} {pc nL idx : Nat} {ls : Array Slot} {rest : List Value} {G : tw_G} {h : tm_H} {own : String} {ret : Option FieldType} {α : Type} {x : α} {sz : Nat} {this : Nat} (hC : tw_C G p s m args meth c own cc nL ret) (hR : tw_Rel G sz h H) (hL : tw_L G locs) {F : Nat × tm_H → Option α} (hk : (fX8_readNow this h).bind F = some x)  (hl : tw_mL own idx yX8_readNow) (hRm : rmX8_readNow.frames + 1 ≤ R.frames ∧ 8 + (1 + 11) + rmX8_readNow.locals ≤ R.locals) (hsz : ls.size = nL) (hW : (rest.map fun v => v.category).sum ≤ 8) (hf : cells + 0 ≤ R.cells ∧ slots + 0 ≤ R.slots) (hdg : decode cc pc = .ok (.invokevirtual idx, 3)) (kk : ∀ (r : Nat) (h1 : tm_H) (H1 : Heap) (locs1 : List Loc), tw_Rel G sz h1 H1 → tw_L G locs1 → F (r, h1) = some x → W p l e R s m args below meth c H1 locs1 (cells + 0) (slots + 0) Q (F0 m (pc + 3) ls (.ref r :: rest))) : W p l e R s m args below meth c H locs cells slots Q (F0 m pc ls (.ref this :: rest)) := by
  obtain ⟨r, hr, hF⟩ := Option.bind_eq_some_iff.mp hk
  have ob : ∀ r, fX8_readNow this h = some r → tm_is h 8 this := fun r hr => by
    unfold fX8_readNow at hr
    exact (tm_th_is hr).1
  exact tw_backr (tw_runV hC hR (cX8_readNow_ok l G sz this  h r hr) (n := 0) (As := []) ⟨tw_in_TB 277 (by decide +kernel) rfl, tw_in_TB 9 (by decide +kernel) rfl, by decide +kernel⟩ (tw_in_TB 276 (by decide +kernel) rfl) (tw_in_TB 0 (by decide +kernel) rfl) hl ⟨rfl, rfl⟩ hRm (ob r hr) (T := TX8) (N := 6) rfl rfl hsz rfl hW hdg hf) hL (fun H1 locs1 a b => kk r.1 r.2 H1 locs1 a b hF)
def rmX8_swap : Room := { frames := 6, cells := 0, slots := 0, locals := 139 }
set_option maxRecDepth 100000 in
set_option maxHeartbeats 4000000 in
theorem cX8_swap_ok (l : Launch) (G : tw_G) (sz : Nat) (this : Nat) (a1 : Int) (a2 : Int) (ga1 : tm_rg a1) (ga2 : tm_rg a2) (h : tm_H) (out : Int × tm_H) (hk : fX8_swap this a1 a2 h = some out) : Met l yX8_swap (tw_WS yX8_swap cX8_swap 3 (some .int)) rmX8_swap (va_Pc [.ref this, .int (tw_I a1), .int (tw_I a2)] (tw_Pre G sz h)) (tw_Qi G sz out.1 out.2) 0 0 (tw_F G) := by
  refine tw_met (by decide +kernel) (Nat.le_of_ble_eq_true rfl) ?_
  intro p e s m args below meth c H ls hC hnm hR hl
  unfold fX8_swap at hk
  obtain ⟨hob, hk⟩ := tm_th_is hk
  have hl : lv_has ls 3 [(0, .ref this), (1, .int (tw_I a1)), (2, .int (tw_I a2))] := hl
  have hL : tw_L G [] := fun q z => by cases z
  generalize hlc : ([] : List Loc) = locs at hL ⊢
  refine lv_aload_n hC.1 hC.2.1 dX8_swap_0 rfl (lv_at hl 0 rfl) ?_
  refine tw_getR hC hR hk flX8_10 dX8_swap_1 (fun r1 hk => ?_)
  refine tw_getR hC hR hk flX8_46 dX8_swap_4 (fun r2 hk => ?_)
  refine lv_iload_n hC.1 hC.2.1 dX8_swap_7 rfl (lv_at hl 1 rfl) ?_
  refine kX0_has hC hR hL hk ga1 mlX8_50 ⟨by decide, by decide⟩ hl.1 (Nat.le_of_ble_eq_true rfl) ⟨Nat.zero_le _, Nat.zero_le _⟩ dX8_swap_8 (fun v3 H locs hR hL gv3 hk => ?_)
  refine tw_zeq (tgt := 28) hC hk gv3 dX8_swap_11 (by decide) (fun _ hk => ?_) (fun _ hk => ?_)
  · refine lv_iconst (v := tw_I (-1)) hC.1 hC.2.1 dX8_swap_28 rfl ?_
    cases hk
    exact tw_iret hC hR hL ((tw_rgL rfl)) rfl rfl dX8_swap_29
  · refine lv_aload_n hC.1 hC.2.1 dX8_swap_14 rfl (lv_at hl 0 rfl) ?_
    refine tw_getR hC hR hk flX8_10 dX8_swap_15 (fun r4 hk => ?_)
    refine tw_getR hC hR hk flX8_46 dX8_swap_18 (fun r5 hk => ?_)
    refine lv_iload_n hC.1 hC.2.1 dX8_swap_21 rfl (lv_at hl 2 rfl) ?_
    refine kX0_has hC hR hL hk ga2 mlX8_50 ⟨by decide, by decide⟩ hl.1 (Nat.le_of_ble_eq_true rfl) ⟨Nat.zero_le _, Nat.zero_le _⟩ dX8_swap_22 (fun v6 H locs hR hL gv6 hk => ?_)
    refine tw_zne (tgt := 30) hC hk gv6 dX8_swap_25 (by decide) (fun _ hk => ?_) (fun _ hk => ?_)
    · refine lv_iconst (v := tw_I (-1)) hC.1 hC.2.1 dX8_swap_28 rfl ?_
      cases hk
      exact tw_iret hC hR hL ((tw_rgL rfl)) rfl rfl dX8_swap_29
    · refine lv_aload_n hC.1 hC.2.1 dX8_swap_30 rfl (lv_at hl 0 rfl) ?_
      refine tw_getR hC hR hk flX8_22 dX8_swap_31 (fun r7 hk => ?_)
      refine lv_aload_n hC.1 hC.2.1 dX8_swap_34 rfl (lv_at hl 0 rfl) ?_
      refine tw_getR hC hR hk flX8_10 dX8_swap_35 (fun r8 hk => ?_)
      refine kX1_keep hC hR hL hk mlX8_67 ⟨by decide, by decide⟩ hl.1 (Nat.le_of_ble_eq_true rfl) ⟨Nat.zero_le _, Nat.zero_le _⟩ dX8_swap_38 (fun h9 H locs hR hL hk => ?_)
      refine lv_aload_n hC.1 hC.2.1 dX8_swap_41 rfl (lv_at hl 0 rfl) ?_
      refine tw_getR hC hR hk flX8_10 dX8_swap_42 (fun r10 hk => ?_)
      refine tw_getR hC hR hk flX8_46 dX8_swap_45 (fun r11 hk => ?_)
      refine lv_iload_n hC.1 hC.2.1 dX8_swap_48 rfl (lv_at hl 1 rfl) ?_
      refine lv_iload_n hC.1 hC.2.1 dX8_swap_49 rfl (lv_at hl 2 rfl) ?_
      refine kX0_trade hC hR hL hk ga1 ga2 mlX8_86 ⟨by decide, by decide⟩ hl.1 (Nat.le_of_ble_eq_true rfl) ⟨Nat.zero_le _, Nat.zero_le _⟩ dX8_swap_50 (fun h12 H locs hR hL hk => ?_)
      refine lv_aload_n hC.1 hC.2.1 dX8_swap_53 rfl (lv_at hl 0 rfl) ?_
      refine kX8_readNow hC hR hL hk mlX8_90 ⟨by decide, by decide⟩ hl.1 (Nat.le_of_ble_eq_true rfl) ⟨Nat.zero_le _, Nat.zero_le _⟩ dX8_swap_54 (fun v13 h13 H locs hR hL hk => ?_)
      refine kX3_markCount hC hR hL hk mlX8_94 ⟨by decide, by decide⟩ hl.1 (Nat.le_of_ble_eq_true rfl) ⟨Nat.zero_le _, Nat.zero_le _⟩ dX8_swap_57 (fun v14 H locs hR hL gv14 hk => ?_)
      cases hk
      exact tw_iret hC hR hL gv14 rfl rfl dX8_swap_60
set_option maxRecDepth 100000 in
theorem kX8_swap {l : Launch} {p : Program} {e : Env} {R : Room} {s : State} {m : MethodId} {args : Array Value} {below : List Frame} {meth : Method} {c : Code} {H : Heap} {locs : List Loc} {cells slots : Nat} {Q : State → Prop} {cc : ByteArray} {pc nL idx : Nat} {ls : Array Slot} {rest : List Value} {G : tw_G} {h : tm_H} {own : String} {ret : Option FieldType} {α : Type} {x : α} {sz : Nat} {this : Nat} {a1 : Int} {a2 : Int} (hC : tw_C G p s m args meth c own cc nL ret) (hR : tw_Rel G sz h H) (hL : tw_L G locs) {F : Int × tm_H → Option α} (hk : (fX8_swap this a1 a2 h).bind F = some x) (ga1 : tm_rg a1) (ga2 : tm_rg a2) (hl : tw_mL own idx yX8_swap) (hRm : rmX8_swap.frames + 1 ≤ R.frames ∧ 8 + (3 + 11) + rmX8_swap.locals ≤ R.locals) (hsz : ls.size = nL) (hW : (rest.map fun v => v.category).sum ≤ 8) (hf : cells + 0 ≤ R.cells ∧ slots + 0 ≤ R.slots) (hdg : decode cc pc = .ok (.invokevirtual idx, 3)) (kk : ∀ (r : Int) (h1 : tm_H) (H1 : Heap) (locs1 : List Loc), tw_Rel G sz h1 H1 → tw_L G locs1 → tm_rg r → F (r, h1) = some x → W p l e R s m args below meth c H1 locs1 (cells + 0) (slots + 0) Q (F0 m (pc + 3) ls (.int (tw_I r) :: rest))) : W p l e R s m args below meth c H locs cells slots Q (F0 m pc ls (.int (tw_I a2) :: .int (tw_I a1) :: .ref this :: rest)) := by
  obtain ⟨r, hr, hF⟩ := Option.bind_eq_some_iff.mp hk
  have ob : ∀ r, fX8_swap this a1 a2 h = some r → tm_is h 8 this := fun r hr => by
    unfold fX8_swap at hr
    exact (tm_th_is hr).1
  exact tw_backi (tw_runV hC hR (cX8_swap_ok l G sz this a1 a2 ga1 ga2 h r hr) (n := 2) (As := [.int (tw_I a1), .int (tw_I a2)]) ⟨tw_in_TB 465 (by decide +kernel) rfl, tw_in_TB 9 (by decide +kernel) rfl, by decide +kernel⟩ (tw_in_TB 463 (by decide +kernel) rfl) (tw_in_TB 464 (by decide +kernel) rfl) hl ⟨rfl, rfl⟩ hRm (ob r hr) (T := TX8) (N := 6) rfl rfl hsz rfl hW hdg hf) hL (fun H1 locs1 a b g => kk r.1 r.2 H1 locs1 a b g hF)
def rmX8_askedLength : Room := { frames := 1, cells := 0, slots := 0, locals := 21 }
set_option maxRecDepth 100000 in
set_option maxHeartbeats 4000000 in
theorem sX8_askedLength_S0 {l : Launch} {p : Program} {e : Env} {s : State} {m : MethodId} {args : Array Value} {below : List Frame} {meth : Method} {c : Code} (G : tw_G) (sz : Nat) (hC : tw_C G p s m args meth c RX8 cX8_askedLength 3 (some .int)) (this : Nat)  (h : tm_H) : ∀ (k : Nat) (st : (Int × Int) ⊕ (Int × Int)) (out : Int), tm_wit (fX8_askedLength_S0 this h) k st = some out → match st with
    | .inl ((x1, x2)) => ∀ (H : Heap) (locs : List Loc) (ls : Array Slot), tm_rg x1 → tm_rg x2 → tw_Rel G sz h H → tw_L G locs → lv_has ls 3 [(0, .ref this), (1, .int (tw_I x1)), (2, .int (tw_I x2))] → W p l e rmX8_askedLength s m args below meth c H locs 0 0 (MQ below (tw_Qi G sz out h) args s 0 0 (tw_F G)) (F0 m 4 ls [])
    | .inr ((x1, x2)) => ∀ (H : Heap) (locs : List Loc) (ls : Array Slot), tm_rg x1 → tm_rg x2 → tw_Rel G sz h H → tw_L G locs → lv_has ls 3 [(0, .ref this), (1, .int (tw_I x1)), (2, .int (tw_I x2))] → W p l e rmX8_askedLength s m args below meth c H locs 0 0 (MQ below (tw_Qi G sz out h) args s 0 0 (tw_F G)) (F0 m 51 ls []) := by
  intro k
  induction k with
  | zero =>
    intro st out hk
    exact absurd hk (by unfold tm_wit; exact fun z => by cases z)
  | succ k ih =>
    intro st out hk
    obtain ⟨X, hk, hf⟩ := tm_wit_succ hk
    obtain ⟨x1, x2⟩ | ⟨x1, x2⟩ := st
    · intro H locs ls gx1 gx2 hR hL hl
      dsimp only [fX8_askedLength_S0] at hk
      refine lv_iload_n hC.1 hC.2.1 dX8_askedLength_4 rfl (lv_at hl 2 rfl) ?_
      refine lv_iconst (v := tw_I 4) hC.1 hC.2.1 dX8_askedLength_5 rfl ?_
      refine tw_cge (tgt := 57) hC hk gx2 ((tw_rgL rfl)) dX8_askedLength_6 (by decide) (fun _ hk => ?_) (fun _ hk => ?_)
      · refine lv_aload_n hC.1 hC.2.1 dX8_askedLength_9 rfl (lv_at hl 0 rfl) ?_
        refine tw_getR hC hR hk flX8_42 dX8_askedLength_10 (fun r1 hk => ?_)
        refine lv_iload_n hC.1 hC.2.1 dX8_askedLength_13 rfl (lv_at hl 2 rfl) ?_
        refine tw_iald hC hR hk dX8_askedLength_14 (fun v2 gv2 hk => ?_)
        refine lv_iconst (v := tw_I (-1)) hC.1 hC.2.1 dX8_askedLength_15 rfl ?_
        refine tw_cne (tgt := 22) hC hk gv2 ((tw_rgL rfl)) dX8_askedLength_16 (by decide) (fun _ hk => ?_) (fun _ hk => ?_)
        · refine lv_goto (tgt := 51) hC.1 hC.2.1 dX8_askedLength_19 (by decide) ?_
          cases hk
          exact ih _ out hf H locs _ gx1 gx2 hR hL (lv_sub hl [0, 1, 2] rfl)
        · refine lv_aload_n hC.1 hC.2.1 dX8_askedLength_22 rfl (lv_at hl 0 rfl) ?_
          refine tw_getR hC hR hk flX8_10 dX8_askedLength_23 (fun r3 hk => ?_)
          refine tw_getR hC hR hk flX8_60 dX8_askedLength_26 (fun r4 hk => ?_)
          refine lv_aload_n hC.1 hC.2.1 dX8_askedLength_29 rfl (lv_at hl 0 rfl) ?_
          refine tw_getR hC hR hk flX8_42 dX8_askedLength_30 (fun r5 hk => ?_)
          refine lv_iload_n hC.1 hC.2.1 dX8_askedLength_33 rfl (lv_at hl 2 rfl) ?_
          refine tw_iald hC hR hk dX8_askedLength_34 (fun v6 gv6 hk => ?_)
          refine kX7_has hC hR hL hk gv6 mlX8_64 ⟨by decide, by decide⟩ hl.1 (Nat.le_of_ble_eq_true rfl) ⟨Nat.zero_le _, Nat.zero_le _⟩ dX8_askedLength_35 (fun v7 H locs hR hL gv7 hk => ?_)
          refine tw_zeq (tgt := 46) hC hk gv7 dX8_askedLength_38 (by decide) (fun _ hk => ?_) (fun _ hk => ?_)
          · refine lv_iconst (v := tw_I (-1)) hC.1 hC.2.1 dX8_askedLength_46 rfl ?_
            cases hk
            cases hf
            exact tw_iret hC hR hL ((tw_rgL rfl)) rfl rfl dX8_askedLength_47
          · refine lv_iload_n hC.1 hC.2.1 dX8_askedLength_41 rfl (lv_at hl 2 rfl) ?_
            refine lv_iload_n hC.1 hC.2.1 dX8_askedLength_42 rfl (lv_at hl 1 rfl) ?_
            refine tw_cle (tgt := 48) hC hk gx2 gx1 dX8_askedLength_43 (by decide) (fun _ hk => ?_) (fun _ hk => ?_)
            · refine lv_iconst (v := tw_I (-1)) hC.1 hC.2.1 dX8_askedLength_46 rfl ?_
              cases hk
              cases hf
              exact tw_iret hC hR hL ((tw_rgL rfl)) rfl rfl dX8_askedLength_47
            · refine tw_iinc (lv' := [(1, .int (tw_I (tm_wr (x1 + 1)))), (0, .ref this), (2, .int (tw_I x2))]) hC dX8_askedLength_48 hl (k := 1) rfl (by decide) rfl (fun ls hl => ?_)
              cases hk
              exact ih _ out hf H locs _ ((tm_wr_rg _)) gx2 hR hL (lv_sub hl [1, 0, 2] rfl)
      · refine lv_iload_n hC.1 hC.2.1 dX8_askedLength_57 rfl (lv_at hl 1 rfl) ?_
        refine tw_zne (tgt := 65) hC hk gx1 dX8_askedLength_58 (by decide) (fun _ hk => ?_) (fun _ hk => ?_)
        · refine lv_iconst (v := tw_I (-1)) hC.1 hC.2.1 dX8_askedLength_61 rfl ?_
          refine lv_goto (tgt := 66) hC.1 hC.2.1 dX8_askedLength_62 (by decide) ?_
          cases hk
          cases hf
          exact tw_iret hC hR hL ((tw_rgL rfl)) rfl rfl dX8_askedLength_66
        · refine lv_iload_n hC.1 hC.2.1 dX8_askedLength_65 rfl (lv_at hl 1 rfl) ?_
          cases hk
          cases hf
          exact tw_iret hC hR hL gx1 rfl rfl dX8_askedLength_66
    · intro H locs ls gx1 gx2 hR hL hl
      dsimp only [fX8_askedLength_S0] at hk
      refine tw_iinc (lv' := [(2, .int (tw_I (tm_wr (x2 + 1)))), (0, .ref this), (1, .int (tw_I x1))]) hC dX8_askedLength_51 hl (k := 2) rfl (by decide) rfl (fun ls hl => ?_)
      refine lv_goto (tgt := 4) hC.1 hC.2.1 dX8_askedLength_54 (by decide) ?_
      cases hk
      exact ih _ out hf H locs _ gx1 ((tm_wr_rg _)) hR hL (lv_sub hl [1, 2, 0] rfl)
theorem sX8_askedLength_L4 {l : Launch} {p : Program} {e : Env} {s : State} {m : MethodId} {args : Array Value} {below : List Frame} {meth : Method} {c : Code} (G : tw_G) (sz : Nat) (hC : tw_C G p s m args meth c RX8 cX8_askedLength 3 (some .int)) (this : Nat)  (h : tm_H) (x1 : Int) (x2 : Int) (gx1 : tm_rg x1) (gx2 : tm_rg x2) (out : Int) (hk : fX8_askedLength_L4 this h x1 x2 = some out) (H : Heap) (locs : List Loc) (ls : Array Slot) (hR : tw_Rel G sz h H) (hL : tw_L G locs) (hl : lv_has ls 3 [(0, .ref this), (1, .int (tw_I x1)), (2, .int (tw_I x2))]) : W p l e rmX8_askedLength s m args below meth c H locs 0 0 (MQ below (tw_Qi G sz out h) args s 0 0 (tw_F G)) (F0 m 4 ls []) := by
  obtain ⟨k, hk⟩ := tm_wl_iff.mp hk
  exact sX8_askedLength_S0 G sz hC this  h k (.inl ((x1, x2))) out hk H locs ls gx1 gx2 hR hL hl
theorem sX8_askedLength_L51 {l : Launch} {p : Program} {e : Env} {s : State} {m : MethodId} {args : Array Value} {below : List Frame} {meth : Method} {c : Code} (G : tw_G) (sz : Nat) (hC : tw_C G p s m args meth c RX8 cX8_askedLength 3 (some .int)) (this : Nat)  (h : tm_H) (x1 : Int) (x2 : Int) (gx1 : tm_rg x1) (gx2 : tm_rg x2) (out : Int) (hk : fX8_askedLength_L51 this h x1 x2 = some out) (H : Heap) (locs : List Loc) (ls : Array Slot) (hR : tw_Rel G sz h H) (hL : tw_L G locs) (hl : lv_has ls 3 [(0, .ref this), (1, .int (tw_I x1)), (2, .int (tw_I x2))]) : W p l e rmX8_askedLength s m args below meth c H locs 0 0 (MQ below (tw_Qi G sz out h) args s 0 0 (tw_F G)) (F0 m 51 ls []) := by
  obtain ⟨k, hk⟩ := tm_wl_iff.mp hk
  exact sX8_askedLength_S0 G sz hC this  h k (.inr ((x1, x2))) out hk H locs ls gx1 gx2 hR hL hl
set_option maxRecDepth 100000 in
set_option maxHeartbeats 4000000 in
theorem cX8_askedLength_ok (l : Launch) (G : tw_G) (sz : Nat) (this : Nat)  (h : tm_H) (out : Int) (hk : fX8_askedLength this h = some out) : Met l yX8_askedLength (tw_WS yX8_askedLength cX8_askedLength 3 (some .int)) rmX8_askedLength (va_Pc [.ref this] (tw_Pre G sz h)) (tw_Qi G sz out h) 0 0 (tw_F G) := by
  refine tw_met (by decide +kernel) (Nat.le_of_ble_eq_true rfl) ?_
  intro p e s m args below meth c H ls hC hnm hR hl
  unfold fX8_askedLength at hk
  obtain ⟨hob, hk⟩ := tm_th_is hk
  have hl : lv_has ls 3 [(0, .ref this)] := hl
  have hL : tw_L G [] := fun q z => by cases z
  generalize hlc : ([] : List Loc) = locs at hL ⊢
  refine lv_iconst (v := tw_I 0) hC.1 hC.2.1 dX8_askedLength_0 rfl ?_
  refine lv_istore_n (lv' := [(1, .int (tw_I 0)), (0, .ref this)]) hC.1 hC.2.1 dX8_askedLength_1 rfl hl (by decide) rfl (fun ls hl => ?_)
  refine lv_iconst (v := tw_I 0) hC.1 hC.2.1 dX8_askedLength_2 rfl ?_
  refine lv_istore_n (lv' := [(2, .int (tw_I 0)), (1, .int (tw_I 0)), (0, .ref this)]) hC.1 hC.2.1 dX8_askedLength_3 rfl hl (by decide) rfl (fun ls hl => ?_)
  exact sX8_askedLength_L4 G sz hC this h 0 0 ((tw_rgL rfl)) ((tw_rgL rfl)) out hk H locs _ hR hL (lv_sub hl [2, 1, 0] rfl)
set_option maxRecDepth 100000 in
theorem kX8_askedLength {l : Launch} {p : Program} {e : Env} {R : Room} {s : State} {m : MethodId} {args : Array Value} {below : List Frame} {meth : Method} {c : Code} {H : Heap} {locs : List Loc} {cells slots : Nat} {Q : State → Prop} {cc : ByteArray} {pc nL idx : Nat} {ls : Array Slot} {rest : List Value} {G : tw_G} {h : tm_H} {own : String} {ret : Option FieldType} {α : Type} {x : α} {sz : Nat} {this : Nat} (hC : tw_C G p s m args meth c own cc nL ret) (hR : tw_Rel G sz h H) (hL : tw_L G locs) {F : Int → Option α} (hk : (fX8_askedLength this h).bind F = some x)  (hl : tw_mL own idx yX8_askedLength) (hRm : rmX8_askedLength.frames + 1 ≤ R.frames ∧ 8 + (3 + 11) + rmX8_askedLength.locals ≤ R.locals) (hsz : ls.size = nL) (hW : (rest.map fun v => v.category).sum ≤ 8) (hf : cells + 0 ≤ R.cells ∧ slots + 0 ≤ R.slots) (hdg : decode cc pc = .ok (.invokevirtual idx, 3)) (kk : ∀ (r : Int) (H1 : Heap) (locs1 : List Loc), tw_Rel G sz h H1 → tw_L G locs1 → tm_rg r → F r = some x → W p l e R s m args below meth c H1 locs1 (cells + 0) (slots + 0) Q (F0 m (pc + 3) ls (.int (tw_I r) :: rest))) : W p l e R s m args below meth c H locs cells slots Q (F0 m pc ls (.ref this :: rest)) := by
  obtain ⟨r, hr, hF⟩ := Option.bind_eq_some_iff.mp hk
  have ob : ∀ r, fX8_askedLength this h = some r → tm_is h 8 this := fun r hr => by
    unfold fX8_askedLength at hr
    exact (tm_th_is hr).1
  exact tw_backi (tw_runV hC hR (cX8_askedLength_ok l G sz this  h r hr) (n := 0) (As := []) ⟨tw_in_TB 481 (by decide +kernel) rfl, tw_in_TB 9 (by decide +kernel) rfl, by decide +kernel⟩ (tw_in_TB 480 (by decide +kernel) rfl) (tw_in_TB 6 (by decide +kernel) rfl) hl ⟨rfl, rfl⟩ hRm (ob r hr) (T := TX8) (N := 6) rfl rfl hsz rfl hW hdg hf) hL (fun H1 locs1 a b g => kk r H1 locs1 a b g hF)
def rmX8_ask : Room := { frames := 3, cells := 0, slots := 0, locals := 69 }
set_option maxRecDepth 100000 in
set_option maxHeartbeats 4000000 in
theorem cX8_ask_ok (l : Launch) (G : tw_G) (sz : Nat) (this : Nat) (a1 : Int) (a2 : Int) (a3 : Int) (a4 : Int) (ga1 : tm_rg a1) (ga2 : tm_rg a2) (ga3 : tm_rg a3) (ga4 : tm_rg a4) (h : tm_H) (out : Int × tm_H) (hk : fX8_ask this a1 a2 a3 a4 h = some out) : Met l yX8_ask (tw_WS yX8_ask cX8_ask 6 (some .int)) rmX8_ask (va_Pc [.ref this, .int (tw_I a1), .int (tw_I a2), .int (tw_I a3), .int (tw_I a4)] (tw_Pre G sz h)) (tw_Qi G sz out.1 out.2) 0 0 (tw_F G) := by
  refine tw_met (by decide +kernel) (Nat.le_of_ble_eq_true rfl) ?_
  intro p e s m args below meth c H ls hC hnm hR hl
  unfold fX8_ask at hk
  obtain ⟨hob, hk⟩ := tm_th_is hk
  have hl : lv_has ls 6 [(0, .ref this), (1, .int (tw_I a1)), (2, .int (tw_I a2)), (3, .int (tw_I a3)), (4, .int (tw_I a4))] := hl
  have hL : tw_L G [] := fun q z => by cases z
  generalize hlc : ([] : List Loc) = locs at hL ⊢
  refine lv_aload_n hC.1 hC.2.1 dX8_ask_0 rfl (lv_at hl 0 rfl) ?_
  refine tw_getR hC hR hk flX8_42 dX8_ask_1 (fun r1 hk => ?_)
  refine lv_iconst (v := tw_I 0) hC.1 hC.2.1 dX8_ask_4 rfl ?_
  refine lv_iload_n hC.1 hC.2.1 dX8_ask_5 rfl (lv_at hl 1 rfl) ?_
  refine tw_iast hC hR hL ga1 hk dX8_ask_6 (fun h2 H locs hR hL hk => ?_)
  refine lv_aload_n hC.1 hC.2.1 dX8_ask_7 rfl (lv_at hl 0 rfl) ?_
  refine tw_getR hC hR hk flX8_42 dX8_ask_8 (fun r3 hk => ?_)
  refine lv_iconst (v := tw_I 1) hC.1 hC.2.1 dX8_ask_11 rfl ?_
  refine lv_iload_n hC.1 hC.2.1 dX8_ask_12 rfl (lv_at hl 2 rfl) ?_
  refine tw_iast hC hR hL ga2 hk dX8_ask_13 (fun h4 H locs hR hL hk => ?_)
  refine lv_aload_n hC.1 hC.2.1 dX8_ask_14 rfl (lv_at hl 0 rfl) ?_
  refine tw_getR hC hR hk flX8_42 dX8_ask_15 (fun r5 hk => ?_)
  refine lv_iconst (v := tw_I 2) hC.1 hC.2.1 dX8_ask_18 rfl ?_
  refine lv_iload_n hC.1 hC.2.1 dX8_ask_19 rfl (lv_at hl 3 rfl) ?_
  refine tw_iast hC hR hL ga3 hk dX8_ask_20 (fun h6 H locs hR hL hk => ?_)
  refine lv_aload_n hC.1 hC.2.1 dX8_ask_21 rfl (lv_at hl 0 rfl) ?_
  refine tw_getR hC hR hk flX8_42 dX8_ask_22 (fun r7 hk => ?_)
  refine lv_iconst (v := tw_I 3) hC.1 hC.2.1 dX8_ask_25 rfl ?_
  refine lv_iload hC.1 hC.2.1 dX8_ask_26 (lv_at hl 4 rfl) ?_
  refine tw_iast hC hR hL ga4 hk dX8_ask_28 (fun h8 H locs hR hL hk => ?_)
  refine lv_aload_n hC.1 hC.2.1 dX8_ask_29 rfl (lv_at hl 0 rfl) ?_
  refine kX8_askedLength hC hR hL hk mlX8_229 ⟨by decide, by decide⟩ hl.1 (Nat.le_of_ble_eq_true rfl) ⟨Nat.zero_le _, Nat.zero_le _⟩ dX8_ask_30 (fun v9 H locs hR hL gv9 hk => ?_)
  refine lv_istore (lv' := [(5, .int (tw_I v9)), (0, .ref this), (1, .int (tw_I a1)), (2, .int (tw_I a2)), (3, .int (tw_I a3)), (4, .int (tw_I a4))]) hC.1 hC.2.1 dX8_ask_33 hl (by decide) rfl (fun ls hl => ?_)
  refine lv_iload hC.1 hC.2.1 dX8_ask_35 (lv_at hl 0 rfl) ?_
  refine tw_zle (tgt := 69) hC hk gv9 dX8_ask_37 (by decide) (fun _ hk => ?_) (fun _ hk => ?_)
  · refine lv_aload_n hC.1 hC.2.1 dX8_ask_40 rfl (lv_at hl 1 rfl) ?_
    refine tw_getR hC hR hk flX8_10 dX8_ask_41 (fun r10 hk => ?_)
    refine tw_getR hC hR hk flX8_102 dX8_ask_44 (fun r11 hk => ?_)
    refine lv_aload_n hC.1 hC.2.1 dX8_ask_47 rfl (lv_at hl 1 rfl) ?_
    refine tw_getR hC hR hk flX8_10 dX8_ask_48 (fun r12 hk => ?_)
    refine tw_getR hC hR hk flX8_60 dX8_ask_51 (fun r13 hk => ?_)
    refine lv_aload_n hC.1 hC.2.1 dX8_ask_54 rfl (lv_at hl 1 rfl) ?_
    refine tw_getR hC hR hk flX8_42 dX8_ask_55 (fun r14 hk => ?_)
    refine lv_iload hC.1 hC.2.1 dX8_ask_58 (lv_at hl 0 rfl) ?_
    refine kX5_hasLike hC hR hL hk gv9 mlX8_232 ⟨by decide, by decide⟩ hl.1 (Nat.le_of_ble_eq_true rfl) ⟨Nat.zero_le _, Nat.zero_le _⟩ dX8_ask_60 (fun v15 H locs hR hL gv15 hk => ?_)
    refine tw_zeq (tgt := 69) hC hk gv15 dX8_ask_63 (by decide) (fun _ hk => ?_) (fun _ hk => ?_)
    · refine lv_iload hC.1 hC.2.1 dX8_ask_69 (lv_at hl 0 rfl) ?_
      cases hk
      exact tw_iret hC hR hL gv9 rfl rfl dX8_ask_71
    · refine lv_bipush (v := tw_I (-2)) hC.1 hC.2.1 dX8_ask_66 (by decide) ?_
      cases hk
      exact tw_iret hC hR hL ((tw_rgL rfl)) rfl rfl dX8_ask_68
  · refine lv_iload hC.1 hC.2.1 dX8_ask_69 (lv_at hl 0 rfl) ?_
    cases hk
    exact tw_iret hC hR hL gv9 rfl rfl dX8_ask_71
set_option maxRecDepth 100000 in
theorem kX8_ask {l : Launch} {p : Program} {e : Env} {R : Room} {s : State} {m : MethodId} {args : Array Value} {below : List Frame} {meth : Method} {c : Code} {H : Heap} {locs : List Loc} {cells slots : Nat} {Q : State → Prop} {cc : ByteArray} {pc nL idx : Nat} {ls : Array Slot} {rest : List Value} {G : tw_G} {h : tm_H} {own : String} {ret : Option FieldType} {α : Type} {x : α} {sz : Nat} {this : Nat} {a1 : Int} {a2 : Int} {a3 : Int} {a4 : Int} (hC : tw_C G p s m args meth c own cc nL ret) (hR : tw_Rel G sz h H) (hL : tw_L G locs) {F : Int × tm_H → Option α} (hk : (fX8_ask this a1 a2 a3 a4 h).bind F = some x) (ga1 : tm_rg a1) (ga2 : tm_rg a2) (ga3 : tm_rg a3) (ga4 : tm_rg a4) (hl : tw_mL own idx yX8_ask) (hRm : rmX8_ask.frames + 1 ≤ R.frames ∧ 8 + (6 + 11) + rmX8_ask.locals ≤ R.locals) (hsz : ls.size = nL) (hW : (rest.map fun v => v.category).sum ≤ 8) (hf : cells + 0 ≤ R.cells ∧ slots + 0 ≤ R.slots) (hdg : decode cc pc = .ok (.invokevirtual idx, 3)) (kk : ∀ (r : Int) (h1 : tm_H) (H1 : Heap) (locs1 : List Loc), tw_Rel G sz h1 H1 → tw_L G locs1 → tm_rg r → F (r, h1) = some x → W p l e R s m args below meth c H1 locs1 (cells + 0) (slots + 0) Q (F0 m (pc + 3) ls (.int (tw_I r) :: rest))) : W p l e R s m args below meth c H locs cells slots Q (F0 m pc ls (.int (tw_I a4) :: .int (tw_I a3) :: .int (tw_I a2) :: .int (tw_I a1) :: .ref this :: rest)) := by
  obtain ⟨r, hr, hF⟩ := Option.bind_eq_some_iff.mp hk
  have ob : ∀ r, fX8_ask this a1 a2 a3 a4 h = some r → tm_is h 8 this := fun r hr => by
    unfold fX8_ask at hr
    exact (tm_th_is hr).1
  exact tw_backi (tw_runV hC hR (cX8_ask_ok l G sz this a1 a2 a3 a4 ga1 ga2 ga3 ga4 h r hr) (n := 4) (As := [.int (tw_I a1), .int (tw_I a2), .int (tw_I a3), .int (tw_I a4)]) ⟨tw_in_TB 477 (by decide +kernel) rfl, tw_in_TB 9 (by decide +kernel) rfl, by decide +kernel⟩ (tw_in_TB 476 (by decide +kernel) rfl) (tw_in_TB 5 (by decide +kernel) rfl) hl ⟨rfl, rfl⟩ hRm (ob r hr) (T := TX8) (N := 6) rfl rfl hsz rfl hW hdg hf) hL (fun H1 locs1 a b g => kk r.1 r.2 H1 locs1 a b g hF)
def rmX8_addTerm : Room := { frames := 4, cells := 0, slots := 0, locals := 94 }
set_option maxRecDepth 100000 in
set_option maxHeartbeats 4000000 in
theorem cX8_addTerm_ok (l : Launch) (G : tw_G) (sz : Nat) (this : Nat) (a1 : Int) (a2 : Int) (a3 : Int) (a4 : Int) (ga1 : tm_rg a1) (ga2 : tm_rg a2) (ga3 : tm_rg a3) (ga4 : tm_rg a4) (h : tm_H) (out : Int × tm_H) (hk : fX8_addTerm this a1 a2 a3 a4 h = some out) : Met l yX8_addTerm (tw_WS yX8_addTerm cX8_addTerm 6 (some .int)) rmX8_addTerm (va_Pc [.ref this, .int (tw_I a1), .int (tw_I a2), .int (tw_I a3), .int (tw_I a4)] (tw_Pre G sz h)) (tw_Qi G sz out.1 out.2) 0 0 (tw_F G) := by
  refine tw_met (by decide +kernel) (Nat.le_of_ble_eq_true rfl) ?_
  intro p e s m args below meth c H ls hC hnm hR hl
  unfold fX8_addTerm at hk
  obtain ⟨hob, hk⟩ := tm_th_is hk
  have hl : lv_has ls 6 [(0, .ref this), (1, .int (tw_I a1)), (2, .int (tw_I a2)), (3, .int (tw_I a3)), (4, .int (tw_I a4))] := hl
  have hL : tw_L G [] := fun q z => by cases z
  generalize hlc : ([] : List Loc) = locs at hL ⊢
  refine lv_aload_n hC.1 hC.2.1 dX8_addTerm_0 rfl (lv_at hl 0 rfl) ?_
  refine lv_iload_n hC.1 hC.2.1 dX8_addTerm_1 rfl (lv_at hl 1 rfl) ?_
  refine lv_iload_n hC.1 hC.2.1 dX8_addTerm_2 rfl (lv_at hl 2 rfl) ?_
  refine lv_iload_n hC.1 hC.2.1 dX8_addTerm_3 rfl (lv_at hl 3 rfl) ?_
  refine lv_iload hC.1 hC.2.1 dX8_addTerm_4 (lv_at hl 4 rfl) ?_
  refine kX8_ask hC hR hL hk ga1 ga2 ga3 ga4 mlX8_98 ⟨by decide, by decide⟩ hl.1 (Nat.le_of_ble_eq_true rfl) ⟨Nat.zero_le _, Nat.zero_le _⟩ dX8_addTerm_6 (fun v1 h1 H locs hR hL gv1 hk => ?_)
  refine lv_istore (lv' := [(5, .int (tw_I v1)), (0, .ref this), (1, .int (tw_I a1)), (2, .int (tw_I a2)), (3, .int (tw_I a3)), (4, .int (tw_I a4))]) hC.1 hC.2.1 dX8_addTerm_9 hl (by decide) rfl (fun ls hl => ?_)
  refine lv_iload hC.1 hC.2.1 dX8_addTerm_11 (lv_at hl 0 rfl) ?_
  refine tw_zge (tgt := 19) hC hk gv1 dX8_addTerm_13 (by decide) (fun _ hk => ?_) (fun _ hk => ?_)
  · refine lv_iload hC.1 hC.2.1 dX8_addTerm_16 (lv_at hl 0 rfl) ?_
    cases hk
    exact tw_iret hC hR hL gv1 rfl rfl dX8_addTerm_18
  · refine lv_aload_n hC.1 hC.2.1 dX8_addTerm_19 rfl (lv_at hl 1 rfl) ?_
    refine tw_getR hC hR hk flX8_10 dX8_addTerm_20 (fun r2 hk => ?_)
    refine tw_getR hC hR hk flX8_102 dX8_addTerm_23 (fun r3 hk => ?_)
    refine kX5_size hC hR hL hk mlX8_106 ⟨by decide, by decide⟩ hl.1 (Nat.le_of_ble_eq_true rfl) ⟨Nat.zero_le _, Nat.zero_le _⟩ dX8_addTerm_26 (fun v4 H locs hR hL gv4 hk => ?_)
    refine lv_bipush (v := tw_I 12) hC.1 hC.2.1 dX8_addTerm_29 (by decide) ?_
    refine tw_clt (tgt := 37) hC hk gv4 ((tw_rgL rfl)) dX8_addTerm_31 (by decide) (fun _ hk => ?_) (fun _ hk => ?_)
    · refine lv_aload_n hC.1 hC.2.1 dX8_addTerm_37 rfl (lv_at hl 1 rfl) ?_
      refine tw_getR hC hR hk flX8_22 dX8_addTerm_38 (fun r5 hk => ?_)
      refine lv_aload_n hC.1 hC.2.1 dX8_addTerm_41 rfl (lv_at hl 1 rfl) ?_
      refine tw_getR hC hR hk flX8_10 dX8_addTerm_42 (fun r6 hk => ?_)
      refine kX1_keep hC hR hL hk mlX8_67 ⟨by decide, by decide⟩ hl.1 (Nat.le_of_ble_eq_true rfl) ⟨Nat.zero_le _, Nat.zero_le _⟩ dX8_addTerm_45 (fun h7 H locs hR hL hk => ?_)
      refine lv_aload_n hC.1 hC.2.1 dX8_addTerm_48 rfl (lv_at hl 1 rfl) ?_
      refine tw_getR hC hR hk flX8_10 dX8_addTerm_49 (fun r8 hk => ?_)
      refine tw_getR hC hR hk flX8_102 dX8_addTerm_52 (fun r9 hk => ?_)
      refine lv_aload_n hC.1 hC.2.1 dX8_addTerm_55 rfl (lv_at hl 1 rfl) ?_
      refine tw_getR hC hR hk flX8_42 dX8_addTerm_56 (fun r10 hk => ?_)
      refine lv_iload hC.1 hC.2.1 dX8_addTerm_59 (lv_at hl 0 rfl) ?_
      refine kX5_add hC hR hL hk gv1 mlX8_109 ⟨by decide, by decide⟩ hl.1 (Nat.le_of_ble_eq_true rfl) ⟨Nat.zero_le _, Nat.zero_le _⟩ dX8_addTerm_61 (fun h11 H locs hR hL hk => ?_)
      refine lv_aload_n hC.1 hC.2.1 dX8_addTerm_64 rfl (lv_at hl 1 rfl) ?_
      refine tw_getR hC hR hk flX8_10 dX8_addTerm_65 (fun r12 hk => ?_)
      refine tw_getR hC hR hk flX8_102 dX8_addTerm_68 (fun r13 hk => ?_)
      refine kX5_size hC hR hL hk mlX8_106 ⟨by decide, by decide⟩ hl.1 (Nat.le_of_ble_eq_true rfl) ⟨Nat.zero_le _, Nat.zero_le _⟩ dX8_addTerm_71 (fun v14 H locs hR hL gv14 hk => ?_)
      refine lv_iconst (v := tw_I 1) hC.1 hC.2.1 dX8_addTerm_74 rfl ?_
      refine tw_isub hC dX8_addTerm_75 ?_
      cases hk
      exact tw_iret hC hR hL ((tm_wr_rg _)) rfl rfl dX8_addTerm_76
    · refine lv_bipush (v := tw_I (-3)) hC.1 hC.2.1 dX8_addTerm_34 (by decide) ?_
      cases hk
      exact tw_iret hC hR hL ((tw_rgL rfl)) rfl rfl dX8_addTerm_36
set_option maxRecDepth 100000 in
theorem kX8_addTerm {l : Launch} {p : Program} {e : Env} {R : Room} {s : State} {m : MethodId} {args : Array Value} {below : List Frame} {meth : Method} {c : Code} {H : Heap} {locs : List Loc} {cells slots : Nat} {Q : State → Prop} {cc : ByteArray} {pc nL idx : Nat} {ls : Array Slot} {rest : List Value} {G : tw_G} {h : tm_H} {own : String} {ret : Option FieldType} {α : Type} {x : α} {sz : Nat} {this : Nat} {a1 : Int} {a2 : Int} {a3 : Int} {a4 : Int} (hC : tw_C G p s m args meth c own cc nL ret) (hR : tw_Rel G sz h H) (hL : tw_L G locs) {F : Int × tm_H → Option α} (hk : (fX8_addTerm this a1 a2 a3 a4 h).bind F = some x) (ga1 : tm_rg a1) (ga2 : tm_rg a2) (ga3 : tm_rg a3) (ga4 : tm_rg a4) (hl : tw_mL own idx yX8_addTerm) (hRm : rmX8_addTerm.frames + 1 ≤ R.frames ∧ 8 + (6 + 11) + rmX8_addTerm.locals ≤ R.locals) (hsz : ls.size = nL) (hW : (rest.map fun v => v.category).sum ≤ 8) (hf : cells + 0 ≤ R.cells ∧ slots + 0 ≤ R.slots) (hdg : decode cc pc = .ok (.invokevirtual idx, 3)) (kk : ∀ (r : Int) (h1 : tm_H) (H1 : Heap) (locs1 : List Loc), tw_Rel G sz h1 H1 → tw_L G locs1 → tm_rg r → F (r, h1) = some x → W p l e R s m args below meth c H1 locs1 (cells + 0) (slots + 0) Q (F0 m (pc + 3) ls (.int (tw_I r) :: rest))) : W p l e R s m args below meth c H locs cells slots Q (F0 m pc ls (.int (tw_I a4) :: .int (tw_I a3) :: .int (tw_I a2) :: .int (tw_I a1) :: .ref this :: rest)) := by
  obtain ⟨r, hr, hF⟩ := Option.bind_eq_some_iff.mp hk
  have ob : ∀ r, fX8_addTerm this a1 a2 a3 a4 h = some r → tm_is h 8 this := fun r hr => by
    unfold fX8_addTerm at hr
    exact (tm_th_is hr).1
  exact tw_backi (tw_runV hC hR (cX8_addTerm_ok l G sz this a1 a2 a3 a4 ga1 ga2 ga3 ga4 h r hr) (n := 4) (As := [.int (tw_I a1), .int (tw_I a2), .int (tw_I a3), .int (tw_I a4)]) ⟨tw_in_TB 473 (by decide +kernel) rfl, tw_in_TB 9 (by decide +kernel) rfl, by decide +kernel⟩ (tw_in_TB 471 (by decide +kernel) rfl) (tw_in_TB 472 (by decide +kernel) rfl) hl ⟨rfl, rfl⟩ hRm (ob r hr) (T := TX8) (N := 6) rfl rfl hsz rfl hW hdg hf) hL (fun H1 locs1 a b g => kk r.1 r.2 H1 locs1 a b g hF)
def rmX8_removeTerm : Room := { frames := 4, cells := 0, slots := 0, locals := 91 }
set_option maxRecDepth 100000 in
set_option maxHeartbeats 4000000 in
theorem cX8_removeTerm_ok (l : Launch) (G : tw_G) (sz : Nat) (this : Nat) (a1 : Int) (ga1 : tm_rg a1) (h : tm_H) (out : Int × tm_H) (hk : fX8_removeTerm this a1 h = some out) : Met l yX8_removeTerm (tw_WS yX8_removeTerm cX8_removeTerm 2 (some .int)) rmX8_removeTerm (va_Pc [.ref this, .int (tw_I a1)] (tw_Pre G sz h)) (tw_Qi G sz out.1 out.2) 0 0 (tw_F G) := by
  refine tw_met (by decide +kernel) (Nat.le_of_ble_eq_true rfl) ?_
  intro p e s m args below meth c H ls hC hnm hR hl
  unfold fX8_removeTerm at hk
  obtain ⟨hob, hk⟩ := tm_th_is hk
  have hl : lv_has ls 2 [(0, .ref this), (1, .int (tw_I a1))] := hl
  have hL : tw_L G [] := fun q z => by cases z
  generalize hlc : ([] : List Loc) = locs at hL ⊢
  refine lv_aload_n hC.1 hC.2.1 dX8_removeTerm_0 rfl (lv_at hl 0 rfl) ?_
  refine tw_getR hC hR hk flX8_10 dX8_removeTerm_1 (fun r1 hk => ?_)
  refine tw_getR hC hR hk flX8_102 dX8_removeTerm_4 (fun r2 hk => ?_)
  refine lv_iload_n hC.1 hC.2.1 dX8_removeTerm_7 rfl (lv_at hl 1 rfl) ?_
  refine kX5_has hC hR hL hk ga1 mlX8_113 ⟨by decide, by decide⟩ hl.1 (Nat.le_of_ble_eq_true rfl) ⟨Nat.zero_le _, Nat.zero_le _⟩ dX8_removeTerm_8 (fun v3 H locs hR hL gv3 hk => ?_)
  refine tw_zne (tgt := 16) hC hk gv3 dX8_removeTerm_11 (by decide) (fun _ hk => ?_) (fun _ hk => ?_)
  · refine lv_iconst (v := tw_I (-1)) hC.1 hC.2.1 dX8_removeTerm_14 rfl ?_
    cases hk
    exact tw_iret hC hR hL ((tw_rgL rfl)) rfl rfl dX8_removeTerm_15
  · refine lv_aload_n hC.1 hC.2.1 dX8_removeTerm_16 rfl (lv_at hl 0 rfl) ?_
    refine tw_getR hC hR hk flX8_22 dX8_removeTerm_17 (fun r4 hk => ?_)
    refine lv_aload_n hC.1 hC.2.1 dX8_removeTerm_20 rfl (lv_at hl 0 rfl) ?_
    refine tw_getR hC hR hk flX8_10 dX8_removeTerm_21 (fun r5 hk => ?_)
    refine kX1_keep hC hR hL hk mlX8_67 ⟨by decide, by decide⟩ hl.1 (Nat.le_of_ble_eq_true rfl) ⟨Nat.zero_le _, Nat.zero_le _⟩ dX8_removeTerm_24 (fun h6 H locs hR hL hk => ?_)
    refine lv_aload_n hC.1 hC.2.1 dX8_removeTerm_27 rfl (lv_at hl 0 rfl) ?_
    refine tw_getR hC hR hk flX8_10 dX8_removeTerm_28 (fun r7 hk => ?_)
    refine tw_getR hC hR hk flX8_102 dX8_removeTerm_31 (fun r8 hk => ?_)
    refine lv_iload_n hC.1 hC.2.1 dX8_removeTerm_34 rfl (lv_at hl 1 rfl) ?_
    refine kX5_drop hC hR hL hk ga1 mlX8_114 ⟨by decide, by decide⟩ hl.1 (Nat.le_of_ble_eq_true rfl) ⟨Nat.zero_le _, Nat.zero_le _⟩ dX8_removeTerm_35 (fun h9 H locs hR hL hk => ?_)
    refine lv_aload_n hC.1 hC.2.1 dX8_removeTerm_38 rfl (lv_at hl 0 rfl) ?_
    refine tw_getR hC hR hk flX8_10 dX8_removeTerm_39 (fun r10 hk => ?_)
    refine tw_getR hC hR hk flX8_102 dX8_removeTerm_42 (fun r11 hk => ?_)
    refine kX5_size hC hR hL hk mlX8_106 ⟨by decide, by decide⟩ hl.1 (Nat.le_of_ble_eq_true rfl) ⟨Nat.zero_le _, Nat.zero_le _⟩ dX8_removeTerm_45 (fun v12 H locs hR hL gv12 hk => ?_)
    cases hk
    exact tw_iret hC hR hL gv12 rfl rfl dX8_removeTerm_48
set_option maxRecDepth 100000 in
theorem kX8_removeTerm {l : Launch} {p : Program} {e : Env} {R : Room} {s : State} {m : MethodId} {args : Array Value} {below : List Frame} {meth : Method} {c : Code} {H : Heap} {locs : List Loc} {cells slots : Nat} {Q : State → Prop} {cc : ByteArray} {pc nL idx : Nat} {ls : Array Slot} {rest : List Value} {G : tw_G} {h : tm_H} {own : String} {ret : Option FieldType} {α : Type} {x : α} {sz : Nat} {this : Nat} {a1 : Int} (hC : tw_C G p s m args meth c own cc nL ret) (hR : tw_Rel G sz h H) (hL : tw_L G locs) {F : Int × tm_H → Option α} (hk : (fX8_removeTerm this a1 h).bind F = some x) (ga1 : tm_rg a1) (hl : tw_mL own idx yX8_removeTerm) (hRm : rmX8_removeTerm.frames + 1 ≤ R.frames ∧ 8 + (2 + 11) + rmX8_removeTerm.locals ≤ R.locals) (hsz : ls.size = nL) (hW : (rest.map fun v => v.category).sum ≤ 8) (hf : cells + 0 ≤ R.cells ∧ slots + 0 ≤ R.slots) (hdg : decode cc pc = .ok (.invokevirtual idx, 3)) (kk : ∀ (r : Int) (h1 : tm_H) (H1 : Heap) (locs1 : List Loc), tw_Rel G sz h1 H1 → tw_L G locs1 → tm_rg r → F (r, h1) = some x → W p l e R s m args below meth c H1 locs1 (cells + 0) (slots + 0) Q (F0 m (pc + 3) ls (.int (tw_I r) :: rest))) : W p l e R s m args below meth c H locs cells slots Q (F0 m pc ls (.int (tw_I a1) :: .ref this :: rest)) := by
  obtain ⟨r, hr, hF⟩ := Option.bind_eq_some_iff.mp hk
  have ob : ∀ r, fX8_removeTerm this a1 h = some r → tm_is h 8 this := fun r hr => by
    unfold fX8_removeTerm at hr
    exact (tm_th_is hr).1
  exact tw_backi (tw_runV hC hR (cX8_removeTerm_ok l G sz this a1 ga1 h r hr) (n := 1) (As := [.int (tw_I a1)]) ⟨tw_in_TB 497 (by decide +kernel) rfl, tw_in_TB 9 (by decide +kernel) rfl, by decide +kernel⟩ (tw_in_TB 495 (by decide +kernel) rfl) (tw_in_TB 496 (by decide +kernel) rfl) hl ⟨rfl, rfl⟩ hRm (ob r hr) (T := TX8) (N := 6) rfl rfl hsz rfl hW hdg hf) hL (fun H1 locs1 a b g => kk r.1 r.2 H1 locs1 a b g hF)
def rmX8_setQuiet : Room := { frames := 6, cells := 0, slots := 0, locals := 139 }
set_option maxRecDepth 100000 in
set_option maxHeartbeats 4000000 in
theorem sX8_setQuiet_L54 {l : Launch} {p : Program} {e : Env} {s : State} {m : MethodId} {args : Array Value} {below : List Frame} {meth : Method} {c : Code} (G : tw_G) (sz : Nat) (hC : tw_C G p s m args meth c RX8 cX8_setQuiet 3 (some .int)) (this : Nat) (a1 : Int) (a2 : Int) (ga1 : tm_rg a1) (ga2 : tm_rg a2) (s0 : Nat) (s1 : Int) (s2 : Int) (h : tm_H) (gs1 : tm_rg s1) (gs2 : tm_rg s2) (out : Int × tm_H) (hk : fX8_setQuiet_L54 this a1 a2 s0 s1 s2 h = some out) (H : Heap) (locs : List Loc) (ls : Array Slot) (hR : tw_Rel G sz h H) (hL : tw_L G locs) (hl : lv_has ls 3 [(0, .ref this), (1, .int (tw_I a1)), (2, .int (tw_I a2))]) : W p l e rmX8_setQuiet s m args below meth c H locs 0 0 (MQ below (tw_Qi G sz out.1 out.2) args s 0 0 (tw_F G)) (F0 m 54 ls [.int (tw_I s2), .int (tw_I s1), .ref s0]) := by
  unfold fX8_setQuiet_L54 at hk
  refine kX5_hush hC hR hL hk gs1 gs2 mlX8_118 ⟨by decide, by decide⟩ hl.1 (Nat.le_of_ble_eq_true rfl) ⟨Nat.zero_le _, Nat.zero_le _⟩ dX8_setQuiet_54 (fun h9 H locs hR hL hk => ?_)
  refine lv_aload_n hC.1 hC.2.1 dX8_setQuiet_57 rfl (lv_at hl 0 rfl) ?_
  refine kX8_readNow hC hR hL hk mlX8_90 ⟨by decide, by decide⟩ hl.1 (Nat.le_of_ble_eq_true rfl) ⟨Nat.zero_le _, Nat.zero_le _⟩ dX8_setQuiet_58 (fun v10 h10 H locs hR hL hk => ?_)
  refine kX3_markCount hC hR hL hk mlX8_94 ⟨by decide, by decide⟩ hl.1 (Nat.le_of_ble_eq_true rfl) ⟨Nat.zero_le _, Nat.zero_le _⟩ dX8_setQuiet_61 (fun v11 H locs hR hL gv11 hk => ?_)
  cases hk
  exact tw_iret hC hR hL gv11 rfl rfl dX8_setQuiet_64
set_option maxRecDepth 100000 in
set_option maxHeartbeats 4000000 in
theorem cX8_setQuiet_ok (l : Launch) (G : tw_G) (sz : Nat) (this : Nat) (a1 : Int) (a2 : Int) (ga1 : tm_rg a1) (ga2 : tm_rg a2) (h : tm_H) (out : Int × tm_H) (hk : fX8_setQuiet this a1 a2 h = some out) : Met l yX8_setQuiet (tw_WS yX8_setQuiet cX8_setQuiet 3 (some .int)) rmX8_setQuiet (va_Pc [.ref this, .int (tw_I a1), .int (tw_I a2)] (tw_Pre G sz h)) (tw_Qi G sz out.1 out.2) 0 0 (tw_F G) := by
  refine tw_met (by decide +kernel) (Nat.le_of_ble_eq_true rfl) ?_
  intro p e s m args below meth c H ls hC hnm hR hl
  unfold fX8_setQuiet at hk
  obtain ⟨hob, hk⟩ := tm_th_is hk
  have hl : lv_has ls 3 [(0, .ref this), (1, .int (tw_I a1)), (2, .int (tw_I a2))] := hl
  have hL : tw_L G [] := fun q z => by cases z
  generalize hlc : ([] : List Loc) = locs at hL ⊢
  refine lv_aload_n hC.1 hC.2.1 dX8_setQuiet_0 rfl (lv_at hl 0 rfl) ?_
  refine tw_getR hC hR hk flX8_10 dX8_setQuiet_1 (fun r1 hk => ?_)
  refine tw_getR hC hR hk flX8_102 dX8_setQuiet_4 (fun r2 hk => ?_)
  refine lv_iload_n hC.1 hC.2.1 dX8_setQuiet_7 rfl (lv_at hl 1 rfl) ?_
  refine kX5_has hC hR hL hk ga1 mlX8_113 ⟨by decide, by decide⟩ hl.1 (Nat.le_of_ble_eq_true rfl) ⟨Nat.zero_le _, Nat.zero_le _⟩ dX8_setQuiet_8 (fun v3 H locs hR hL gv3 hk => ?_)
  refine tw_zeq (tgt := 23) hC hk gv3 dX8_setQuiet_11 (by decide) (fun _ hk => ?_) (fun _ hk => ?_)
  · refine lv_iconst (v := tw_I (-1)) hC.1 hC.2.1 dX8_setQuiet_23 rfl ?_
    cases hk
    exact tw_iret hC hR hL ((tw_rgL rfl)) rfl rfl dX8_setQuiet_24
  · refine lv_iload_n hC.1 hC.2.1 dX8_setQuiet_14 rfl (lv_at hl 2 rfl) ?_
    refine tw_zlt (tgt := 23) hC hk ga2 dX8_setQuiet_15 (by decide) (fun _ hk => ?_) (fun _ hk => ?_)
    · refine lv_iconst (v := tw_I (-1)) hC.1 hC.2.1 dX8_setQuiet_23 rfl ?_
      cases hk
      exact tw_iret hC hR hL ((tw_rgL rfl)) rfl rfl dX8_setQuiet_24
    · refine lv_iload_n hC.1 hC.2.1 dX8_setQuiet_18 rfl (lv_at hl 2 rfl) ?_
      refine lv_iconst (v := tw_I 1) hC.1 hC.2.1 dX8_setQuiet_19 rfl ?_
      refine tw_cle (tgt := 25) hC hk ga2 ((tw_rgL rfl)) dX8_setQuiet_20 (by decide) (fun _ hk => ?_) (fun _ hk => ?_)
      · refine lv_iconst (v := tw_I (-1)) hC.1 hC.2.1 dX8_setQuiet_23 rfl ?_
        cases hk
        exact tw_iret hC hR hL ((tw_rgL rfl)) rfl rfl dX8_setQuiet_24
      · refine lv_aload_n hC.1 hC.2.1 dX8_setQuiet_25 rfl (lv_at hl 0 rfl) ?_
        refine tw_getR hC hR hk flX8_22 dX8_setQuiet_26 (fun r4 hk => ?_)
        refine lv_aload_n hC.1 hC.2.1 dX8_setQuiet_29 rfl (lv_at hl 0 rfl) ?_
        refine tw_getR hC hR hk flX8_10 dX8_setQuiet_30 (fun r5 hk => ?_)
        refine kX1_keep hC hR hL hk mlX8_67 ⟨by decide, by decide⟩ hl.1 (Nat.le_of_ble_eq_true rfl) ⟨Nat.zero_le _, Nat.zero_le _⟩ dX8_setQuiet_33 (fun h6 H locs hR hL hk => ?_)
        refine lv_aload_n hC.1 hC.2.1 dX8_setQuiet_36 rfl (lv_at hl 0 rfl) ?_
        refine tw_getR hC hR hk flX8_10 dX8_setQuiet_37 (fun r7 hk => ?_)
        refine tw_getR hC hR hk flX8_102 dX8_setQuiet_40 (fun r8 hk => ?_)
        refine lv_iload_n hC.1 hC.2.1 dX8_setQuiet_43 rfl (lv_at hl 1 rfl) ?_
        refine lv_iload_n hC.1 hC.2.1 dX8_setQuiet_44 rfl (lv_at hl 2 rfl) ?_
        refine lv_iconst (v := tw_I 1) hC.1 hC.2.1 dX8_setQuiet_45 rfl ?_
        refine tw_cne (tgt := 53) hC hk ga2 ((tw_rgL rfl)) dX8_setQuiet_46 (by decide) (fun _ hk => ?_) (fun _ hk => ?_)
        · refine lv_iconst (v := tw_I 1) hC.1 hC.2.1 dX8_setQuiet_49 rfl ?_
          refine lv_goto (tgt := 54) hC.1 hC.2.1 dX8_setQuiet_50 (by decide) ?_
          exact sX8_setQuiet_L54 G sz hC this a1 a2 ga1 ga2 r8 a1 1 h6 ga1 ((tw_rgL rfl)) out hk H locs _ hR hL (lv_sub hl [0, 1, 2] rfl)
        · refine lv_iconst (v := tw_I 0) hC.1 hC.2.1 dX8_setQuiet_53 rfl ?_
          exact sX8_setQuiet_L54 G sz hC this a1 a2 ga1 ga2 r8 a1 0 h6 ga1 ((tw_rgL rfl)) out hk H locs _ hR hL (lv_sub hl [0, 1, 2] rfl)
set_option maxRecDepth 100000 in
theorem kX8_setQuiet {l : Launch} {p : Program} {e : Env} {R : Room} {s : State} {m : MethodId} {args : Array Value} {below : List Frame} {meth : Method} {c : Code} {H : Heap} {locs : List Loc} {cells slots : Nat} {Q : State → Prop} {cc : ByteArray} {pc nL idx : Nat} {ls : Array Slot} {rest : List Value} {G : tw_G} {h : tm_H} {own : String} {ret : Option FieldType} {α : Type} {x : α} {sz : Nat} {this : Nat} {a1 : Int} {a2 : Int} (hC : tw_C G p s m args meth c own cc nL ret) (hR : tw_Rel G sz h H) (hL : tw_L G locs) {F : Int × tm_H → Option α} (hk : (fX8_setQuiet this a1 a2 h).bind F = some x) (ga1 : tm_rg a1) (ga2 : tm_rg a2) (hl : tw_mL own idx yX8_setQuiet) (hRm : rmX8_setQuiet.frames + 1 ≤ R.frames ∧ 8 + (3 + 11) + rmX8_setQuiet.locals ≤ R.locals) (hsz : ls.size = nL) (hW : (rest.map fun v => v.category).sum ≤ 8) (hf : cells + 0 ≤ R.cells ∧ slots + 0 ≤ R.slots) (hdg : decode cc pc = .ok (.invokevirtual idx, 3)) (kk : ∀ (r : Int) (h1 : tm_H) (H1 : Heap) (locs1 : List Loc), tw_Rel G sz h1 H1 → tw_L G locs1 → tm_rg r → F (r, h1) = some x → W p l e R s m args below meth c H1 locs1 (cells + 0) (slots + 0) Q (F0 m (pc + 3) ls (.int (tw_I r) :: rest))) : W p l e R s m args below meth c H locs cells slots Q (F0 m pc ls (.int (tw_I a2) :: .int (tw_I a1) :: .ref this :: rest)) := by
  obtain ⟨r, hr, hF⟩ := Option.bind_eq_some_iff.mp hk
  have ob : ∀ r, fX8_setQuiet this a1 a2 h = some r → tm_is h 8 this := fun r hr => by
    unfold fX8_setQuiet at hr
    exact (tm_th_is hr).1
  exact tw_backi (tw_runV hC hR (cX8_setQuiet_ok l G sz this a1 a2 ga1 ga2 h r hr) (n := 2) (As := [.int (tw_I a1), .int (tw_I a2)]) ⟨tw_in_TB 505 (by decide +kernel) rfl, tw_in_TB 9 (by decide +kernel) rfl, by decide +kernel⟩ (tw_in_TB 503 (by decide +kernel) rfl) (tw_in_TB 504 (by decide +kernel) rfl) hl ⟨rfl, rfl⟩ hRm (ob r hr) (T := TX8) (N := 6) rfl rfl hsz rfl hW hdg hf) hL (fun H1 locs1 a b g => kk r.1 r.2 H1 locs1 a b g hF)
def rmX8_setBase : Room := { frames := 4, cells := 0, slots := 0, locals := 92 }
set_option maxRecDepth 100000 in
set_option maxHeartbeats 4000000 in
theorem cX8_setBase_ok (l : Launch) (G : tw_G) (sz : Nat) (this : Nat) (a1 : Int) (a2 : Int) (ga1 : tm_rg a1) (ga2 : tm_rg a2) (h : tm_H) (out : Int × tm_H) (hk : fX8_setBase this a1 a2 h = some out) : Met l yX8_setBase (tw_WS yX8_setBase cX8_setBase 4 (some .int)) rmX8_setBase (va_Pc [.ref this, .int (tw_I a1), .int (tw_I a2)] (tw_Pre G sz h)) (tw_Qi G sz out.1 out.2) 0 0 (tw_F G) := by
  refine tw_met (by decide +kernel) (Nat.le_of_ble_eq_true rfl) ?_
  intro p e s m args below meth c H ls hC hnm hR hl
  unfold fX8_setBase at hk
  obtain ⟨hob, hk⟩ := tm_th_is hk
  have hl : lv_has ls 4 [(0, .ref this), (1, .int (tw_I a1)), (2, .int (tw_I a2))] := hl
  have hL : tw_L G [] := fun q z => by cases z
  generalize hlc : ([] : List Loc) = locs at hL ⊢
  refine lv_aload_n hC.1 hC.2.1 dX8_setBase_0 rfl (lv_at hl 0 rfl) ?_
  refine tw_getR hC hR hk flX8_10 dX8_setBase_1 (fun r1 hk => ?_)
  refine tw_getR hC hR hk flX8_60 dX8_setBase_4 (fun r2 hk => ?_)
  refine lv_iload_n hC.1 hC.2.1 dX8_setBase_7 rfl (lv_at hl 1 rfl) ?_
  refine kX7_has hC hR hL hk ga1 mlX8_64 ⟨by decide, by decide⟩ hl.1 (Nat.le_of_ble_eq_true rfl) ⟨Nat.zero_le _, Nat.zero_le _⟩ dX8_setBase_8 (fun v3 H locs hR hL gv3 hk => ?_)
  refine tw_zeq (tgt := 28) hC hk gv3 dX8_setBase_11 (by decide) (fun _ hk => ?_) (fun _ hk => ?_)
  · refine lv_iconst (v := tw_I (-1)) hC.1 hC.2.1 dX8_setBase_28 rfl ?_
    cases hk
    exact tw_iret hC hR hL ((tw_rgL rfl)) rfl rfl dX8_setBase_29
  · refine lv_aload_n hC.1 hC.2.1 dX8_setBase_14 rfl (lv_at hl 0 rfl) ?_
    refine tw_getR hC hR hk flX8_10 dX8_setBase_15 (fun r4 hk => ?_)
    refine tw_getR hC hR hk flX8_60 dX8_setBase_18 (fun r5 hk => ?_)
    refine lv_iload_n hC.1 hC.2.1 dX8_setBase_21 rfl (lv_at hl 2 rfl) ?_
    refine kX7_has hC hR hL hk ga2 mlX8_64 ⟨by decide, by decide⟩ hl.1 (Nat.le_of_ble_eq_true rfl) ⟨Nat.zero_le _, Nat.zero_le _⟩ dX8_setBase_22 (fun v6 H locs hR hL gv6 hk => ?_)
    refine tw_zne (tgt := 30) hC hk gv6 dX8_setBase_25 (by decide) (fun _ hk => ?_) (fun _ hk => ?_)
    · refine lv_iconst (v := tw_I (-1)) hC.1 hC.2.1 dX8_setBase_28 rfl ?_
      cases hk
      exact tw_iret hC hR hL ((tw_rgL rfl)) rfl rfl dX8_setBase_29
    · refine lv_aload_n hC.1 hC.2.1 dX8_setBase_30 rfl (lv_at hl 0 rfl) ?_
      refine tw_getR hC hR hk flX8_10 dX8_setBase_31 (fun r7 hk => ?_)
      refine lv_iload_n hC.1 hC.2.1 dX8_setBase_34 rfl (lv_at hl 1 rfl) ?_
      refine lv_iload_n hC.1 hC.2.1 dX8_setBase_35 rfl (lv_at hl 2 rfl) ?_
      refine kX4_mayHaveBase hC hR hL hk ga1 ga2 mlX8_122 ⟨by decide, by decide⟩ hl.1 (Nat.le_of_ble_eq_true rfl) ⟨Nat.zero_le _, Nat.zero_le _⟩ dX8_setBase_36 (fun v8 h8 H locs hR hL gv8 hk => ?_)
      refine tw_zne (tgt := 45) hC hk gv8 dX8_setBase_39 (by decide) (fun _ hk => ?_) (fun _ hk => ?_)
      · refine lv_bipush (v := tw_I (-2)) hC.1 hC.2.1 dX8_setBase_42 (by decide) ?_
        cases hk
        exact tw_iret hC hR hL ((tw_rgL rfl)) rfl rfl dX8_setBase_44
      · refine lv_aload_n hC.1 hC.2.1 dX8_setBase_45 rfl (lv_at hl 0 rfl) ?_
        refine tw_getR hC hR hk flX8_22 dX8_setBase_46 (fun r9 hk => ?_)
        refine lv_aload_n hC.1 hC.2.1 dX8_setBase_49 rfl (lv_at hl 0 rfl) ?_
        refine tw_getR hC hR hk flX8_10 dX8_setBase_50 (fun r10 hk => ?_)
        refine kX1_keep hC hR hL hk mlX8_67 ⟨by decide, by decide⟩ hl.1 (Nat.le_of_ble_eq_true rfl) ⟨Nat.zero_le _, Nat.zero_le _⟩ dX8_setBase_53 (fun h11 H locs hR hL hk => ?_)
        refine lv_aload_n hC.1 hC.2.1 dX8_setBase_56 rfl (lv_at hl 0 rfl) ?_
        refine tw_getR hC hR hk flX8_10 dX8_setBase_57 (fun r12 hk => ?_)
        refine tw_getR hC hR hk flX8_60 dX8_setBase_60 (fun r13 hk => ?_)
        refine lv_iload_n hC.1 hC.2.1 dX8_setBase_63 rfl (lv_at hl 1 rfl) ?_
        refine kX7_baseOf hC hR hL hk ga1 mlX8_125 ⟨by decide, by decide⟩ hl.1 (Nat.le_of_ble_eq_true rfl) ⟨Nat.zero_le _, Nat.zero_le _⟩ dX8_setBase_64 (fun v14 H locs hR hL gv14 hk => ?_)
        refine lv_istore_n (lv' := [(3, .int (tw_I v14)), (0, .ref this), (1, .int (tw_I a1)), (2, .int (tw_I a2))]) hC.1 hC.2.1 dX8_setBase_67 rfl hl (by decide) rfl (fun ls hl => ?_)
        refine lv_aload_n hC.1 hC.2.1 dX8_setBase_68 rfl (lv_at hl 1 rfl) ?_
        refine tw_getR hC hR hk flX8_10 dX8_setBase_69 (fun r15 hk => ?_)
        refine tw_getR hC hR hk flX8_60 dX8_setBase_72 (fun r16 hk => ?_)
        refine lv_iload_n hC.1 hC.2.1 dX8_setBase_75 rfl (lv_at hl 2 rfl) ?_
        refine lv_iload_n hC.1 hC.2.1 dX8_setBase_76 rfl (lv_at hl 3 rfl) ?_
        refine kX7_putBase hC hR hL hk ga1 ga2 mlX8_128 ⟨by decide, by decide⟩ hl.1 (Nat.le_of_ble_eq_true rfl) ⟨Nat.zero_le _, Nat.zero_le _⟩ dX8_setBase_77 (fun h17 H locs hR hL hk => ?_)
        refine lv_iload_n hC.1 hC.2.1 dX8_setBase_80 rfl (lv_at hl 0 rfl) ?_
        cases hk
        exact tw_iret hC hR hL gv14 rfl rfl dX8_setBase_81
set_option maxRecDepth 100000 in
theorem kX8_setBase {l : Launch} {p : Program} {e : Env} {R : Room} {s : State} {m : MethodId} {args : Array Value} {below : List Frame} {meth : Method} {c : Code} {H : Heap} {locs : List Loc} {cells slots : Nat} {Q : State → Prop} {cc : ByteArray} {pc nL idx : Nat} {ls : Array Slot} {rest : List Value} {G : tw_G} {h : tm_H} {own : String} {ret : Option FieldType} {α : Type} {x : α} {sz : Nat} {this : Nat} {a1 : Int} {a2 : Int} (hC : tw_C G p s m args meth c own cc nL ret) (hR : tw_Rel G sz h H) (hL : tw_L G locs) {F : Int × tm_H → Option α} (hk : (fX8_setBase this a1 a2 h).bind F = some x) (ga1 : tm_rg a1) (ga2 : tm_rg a2) (hl : tw_mL own idx yX8_setBase) (hRm : rmX8_setBase.frames + 1 ≤ R.frames ∧ 8 + (4 + 11) + rmX8_setBase.locals ≤ R.locals) (hsz : ls.size = nL) (hW : (rest.map fun v => v.category).sum ≤ 8) (hf : cells + 0 ≤ R.cells ∧ slots + 0 ≤ R.slots) (hdg : decode cc pc = .ok (.invokevirtual idx, 3)) (kk : ∀ (r : Int) (h1 : tm_H) (H1 : Heap) (locs1 : List Loc), tw_Rel G sz h1 H1 → tw_L G locs1 → tm_rg r → F (r, h1) = some x → W p l e R s m args below meth c H1 locs1 (cells + 0) (slots + 0) Q (F0 m (pc + 3) ls (.int (tw_I r) :: rest))) : W p l e R s m args below meth c H locs cells slots Q (F0 m pc ls (.int (tw_I a2) :: .int (tw_I a1) :: .ref this :: rest)) := by
  obtain ⟨r, hr, hF⟩ := Option.bind_eq_some_iff.mp hk
  have ob : ∀ r, fX8_setBase this a1 a2 h = some r → tm_is h 8 this := fun r hr => by
    unfold fX8_setBase at hr
    exact (tm_th_is hr).1
  exact tw_backi (tw_runV hC hR (cX8_setBase_ok l G sz this a1 a2 ga1 ga2 h r hr) (n := 2) (As := [.int (tw_I a1), .int (tw_I a2)]) ⟨tw_in_TB 513 (by decide +kernel) rfl, tw_in_TB 9 (by decide +kernel) rfl, by decide +kernel⟩ (tw_in_TB 511 (by decide +kernel) rfl) (tw_in_TB 512 (by decide +kernel) rfl) hl ⟨rfl, rfl⟩ hRm (ob r hr) (T := TX8) (N := 6) rfl rfl hsz rfl hW hdg hf) hL (fun H1 locs1 a b g => kk r.1 r.2 H1 locs1 a b g hF)
def rmX8_take : Room := { frames := 4, cells := 0, slots := 0, locals := 91 }
set_option maxRecDepth 100000 in
set_option maxHeartbeats 4000000 in
theorem cX8_take_ok (l : Launch) (G : tw_G) (sz : Nat) (this : Nat) (a1 : Int) (ga1 : tm_rg a1) (h : tm_H) (out : Int × tm_H) (hk : fX8_take this a1 h = some out) : Met l yX8_take (tw_WS yX8_take cX8_take 2 (some .int)) rmX8_take (va_Pc [.ref this, .int (tw_I a1)] (tw_Pre G sz h)) (tw_Qi G sz out.1 out.2) 0 0 (tw_F G) := by
  refine tw_met (by decide +kernel) (Nat.le_of_ble_eq_true rfl) ?_
  intro p e s m args below meth c H ls hC hnm hR hl
  unfold fX8_take at hk
  obtain ⟨hob, hk⟩ := tm_th_is hk
  have hl : lv_has ls 2 [(0, .ref this), (1, .int (tw_I a1))] := hl
  have hL : tw_L G [] := fun q z => by cases z
  generalize hlc : ([] : List Loc) = locs at hL ⊢
  refine lv_aload_n hC.1 hC.2.1 dX8_take_0 rfl (lv_at hl 0 rfl) ?_
  refine tw_getR hC hR hk flX8_10 dX8_take_1 (fun r1 hk => ?_)
  refine lv_iload_n hC.1 hC.2.1 dX8_take_4 rfl (lv_at hl 1 rfl) ?_
  refine kX4_hasSlot hC hR hL hk ga1 mlX8_131 ⟨by decide, by decide⟩ hl.1 (Nat.le_of_ble_eq_true rfl) ⟨Nat.zero_le _, Nat.zero_le _⟩ dX8_take_5 (fun v2 H locs hR hL gv2 hk => ?_)
  refine tw_zne (tgt := 13) hC hk gv2 dX8_take_8 (by decide) (fun _ hk => ?_) (fun _ hk => ?_)
  · refine lv_iconst (v := tw_I (-1)) hC.1 hC.2.1 dX8_take_11 rfl ?_
    cases hk
    exact tw_iret hC hR hL ((tw_rgL rfl)) rfl rfl dX8_take_12
  · refine lv_aload_n hC.1 hC.2.1 dX8_take_13 rfl (lv_at hl 0 rfl) ?_
    refine tw_getR hC hR hk flX8_22 dX8_take_14 (fun r3 hk => ?_)
    refine lv_aload_n hC.1 hC.2.1 dX8_take_17 rfl (lv_at hl 0 rfl) ?_
    refine tw_getR hC hR hk flX8_10 dX8_take_18 (fun r4 hk => ?_)
    refine kX1_keep hC hR hL hk mlX8_67 ⟨by decide, by decide⟩ hl.1 (Nat.le_of_ble_eq_true rfl) ⟨Nat.zero_le _, Nat.zero_le _⟩ dX8_take_21 (fun h5 H locs hR hL hk => ?_)
    refine lv_aload_n hC.1 hC.2.1 dX8_take_24 rfl (lv_at hl 0 rfl) ?_
    refine tw_getR hC hR hk flX8_10 dX8_take_25 (fun r6 hk => ?_)
    refine lv_iload_n hC.1 hC.2.1 dX8_take_28 rfl (lv_at hl 1 rfl) ?_
    refine kX4_keepChapters hC hR hL hk ga1 mlX8_134 ⟨by decide, by decide⟩ hl.1 (Nat.le_of_ble_eq_true rfl) ⟨Nat.zero_le _, Nat.zero_le _⟩ dX8_take_29 (fun h7 H locs hR hL hk => ?_)
    refine lv_aload_n hC.1 hC.2.1 dX8_take_32 rfl (lv_at hl 0 rfl) ?_
    refine tw_getR hC hR hk flX8_10 dX8_take_33 (fun r8 hk => ?_)
    refine tw_getR hC hR hk flX8_46 dX8_take_36 (fun r9 hk => ?_)
    refine kX0_total hC hR hL hk mlX8_137 ⟨by decide, by decide⟩ hl.1 (Nat.le_of_ble_eq_true rfl) ⟨Nat.zero_le _, Nat.zero_le _⟩ dX8_take_39 (fun v10 H locs hR hL gv10 hk => ?_)
    cases hk
    exact tw_iret hC hR hL gv10 rfl rfl dX8_take_42
set_option maxRecDepth 100000 in
theorem kX8_take {l : Launch} {p : Program} {e : Env} {R : Room} {s : State} {m : MethodId} {args : Array Value} {below : List Frame} {meth : Method} {c : Code} {H : Heap} {locs : List Loc} {cells slots : Nat} {Q : State → Prop} {cc : ByteArray} {pc nL idx : Nat} {ls : Array Slot} {rest : List Value} {G : tw_G} {h : tm_H} {own : String} {ret : Option FieldType} {α : Type} {x : α} {sz : Nat} {this : Nat} {a1 : Int} (hC : tw_C G p s m args meth c own cc nL ret) (hR : tw_Rel G sz h H) (hL : tw_L G locs) {F : Int × tm_H → Option α} (hk : (fX8_take this a1 h).bind F = some x) (ga1 : tm_rg a1) (hl : tw_mL own idx yX8_take) (hRm : rmX8_take.frames + 1 ≤ R.frames ∧ 8 + (2 + 11) + rmX8_take.locals ≤ R.locals) (hsz : ls.size = nL) (hW : (rest.map fun v => v.category).sum ≤ 8) (hf : cells + 0 ≤ R.cells ∧ slots + 0 ≤ R.slots) (hdg : decode cc pc = .ok (.invokevirtual idx, 3)) (kk : ∀ (r : Int) (h1 : tm_H) (H1 : Heap) (locs1 : List Loc), tw_Rel G sz h1 H1 → tw_L G locs1 → tm_rg r → F (r, h1) = some x → W p l e R s m args below meth c H1 locs1 (cells + 0) (slots + 0) Q (F0 m (pc + 3) ls (.int (tw_I r) :: rest))) : W p l e R s m args below meth c H locs cells slots Q (F0 m pc ls (.int (tw_I a1) :: .ref this :: rest)) := by
  obtain ⟨r, hr, hF⟩ := Option.bind_eq_some_iff.mp hk
  have ob : ∀ r, fX8_take this a1 h = some r → tm_is h 8 this := fun r hr => by
    unfold fX8_take at hr
    exact (tm_th_is hr).1
  exact tw_backi (tw_runV hC hR (cX8_take_ok l G sz this a1 ga1 h r hr) (n := 1) (As := [.int (tw_I a1)]) ⟨tw_in_TB 540 (by decide +kernel) rfl, tw_in_TB 9 (by decide +kernel) rfl, by decide +kernel⟩ (tw_in_TB 538 (by decide +kernel) rfl) (tw_in_TB 539 (by decide +kernel) rfl) hl ⟨rfl, rfl⟩ hRm (ob r hr) (T := TX8) (N := 6) rfl rfl hsz rfl hW hdg hf) hL (fun H1 locs1 a b g => kk r.1 r.2 H1 locs1 a b g hF)
def rmX8_restore : Room := { frames := 4, cells := 0, slots := 0, locals := 91 }
set_option maxRecDepth 100000 in
set_option maxHeartbeats 4000000 in
theorem cX8_restore_ok (l : Launch) (G : tw_G) (sz : Nat) (this : Nat) (a1 : Int) (ga1 : tm_rg a1) (h : tm_H) (out : Int × tm_H) (hk : fX8_restore this a1 h = some out) : Met l yX8_restore (tw_WS yX8_restore cX8_restore 2 (some .int)) rmX8_restore (va_Pc [.ref this, .int (tw_I a1)] (tw_Pre G sz h)) (tw_Qi G sz out.1 out.2) 0 0 (tw_F G) := by
  refine tw_met (by decide +kernel) (Nat.le_of_ble_eq_true rfl) ?_
  intro p e s m args below meth c H ls hC hnm hR hl
  unfold fX8_restore at hk
  obtain ⟨hob, hk⟩ := tm_th_is hk
  have hl : lv_has ls 2 [(0, .ref this), (1, .int (tw_I a1))] := hl
  have hL : tw_L G [] := fun q z => by cases z
  generalize hlc : ([] : List Loc) = locs at hL ⊢
  refine lv_aload_n hC.1 hC.2.1 dX8_restore_0 rfl (lv_at hl 0 rfl) ?_
  refine tw_getR hC hR hk flX8_10 dX8_restore_1 (fun r1 hk => ?_)
  refine lv_iload_n hC.1 hC.2.1 dX8_restore_4 rfl (lv_at hl 1 rfl) ?_
  refine kX4_hasSlot hC hR hL hk ga1 mlX8_131 ⟨by decide, by decide⟩ hl.1 (Nat.le_of_ble_eq_true rfl) ⟨Nat.zero_le _, Nat.zero_le _⟩ dX8_restore_5 (fun v2 H locs hR hL gv2 hk => ?_)
  refine tw_zne (tgt := 13) hC hk gv2 dX8_restore_8 (by decide) (fun _ hk => ?_) (fun _ hk => ?_)
  · refine lv_iconst (v := tw_I (-1)) hC.1 hC.2.1 dX8_restore_11 rfl ?_
    cases hk
    exact tw_iret hC hR hL ((tw_rgL rfl)) rfl rfl dX8_restore_12
  · refine lv_aload_n hC.1 hC.2.1 dX8_restore_13 rfl (lv_at hl 0 rfl) ?_
    refine tw_getR hC hR hk flX8_10 dX8_restore_14 (fun r3 hk => ?_)
    refine lv_iload_n hC.1 hC.2.1 dX8_restore_17 rfl (lv_at hl 1 rfl) ?_
    refine kX4_isTaken hC hR hL hk ga1 mlX8_140 ⟨by decide, by decide⟩ hl.1 (Nat.le_of_ble_eq_true rfl) ⟨Nat.zero_le _, Nat.zero_le _⟩ dX8_restore_18 (fun v4 H locs hR hL gv4 hk => ?_)
    refine tw_zne (tgt := 27) hC hk gv4 dX8_restore_21 (by decide) (fun _ hk => ?_) (fun _ hk => ?_)
    · refine lv_bipush (v := tw_I (-2)) hC.1 hC.2.1 dX8_restore_24 (by decide) ?_
      cases hk
      exact tw_iret hC hR hL ((tw_rgL rfl)) rfl rfl dX8_restore_26
    · refine lv_aload_n hC.1 hC.2.1 dX8_restore_27 rfl (lv_at hl 0 rfl) ?_
      refine tw_getR hC hR hk flX8_22 dX8_restore_28 (fun r5 hk => ?_)
      refine lv_aload_n hC.1 hC.2.1 dX8_restore_31 rfl (lv_at hl 0 rfl) ?_
      refine tw_getR hC hR hk flX8_10 dX8_restore_32 (fun r6 hk => ?_)
      refine kX1_keep hC hR hL hk mlX8_67 ⟨by decide, by decide⟩ hl.1 (Nat.le_of_ble_eq_true rfl) ⟨Nat.zero_le _, Nat.zero_le _⟩ dX8_restore_35 (fun h7 H locs hR hL hk => ?_)
      refine lv_aload_n hC.1 hC.2.1 dX8_restore_38 rfl (lv_at hl 0 rfl) ?_
      refine tw_getR hC hR hk flX8_10 dX8_restore_39 (fun r8 hk => ?_)
      refine lv_iload_n hC.1 hC.2.1 dX8_restore_42 rfl (lv_at hl 1 rfl) ?_
      refine kX4_bringChapters hC hR hL hk ga1 mlX8_143 ⟨by decide, by decide⟩ hl.1 (Nat.le_of_ble_eq_true rfl) ⟨Nat.zero_le _, Nat.zero_le _⟩ dX8_restore_43 (fun h9 H locs hR hL hk => ?_)
      refine lv_aload_n hC.1 hC.2.1 dX8_restore_46 rfl (lv_at hl 0 rfl) ?_
      refine tw_getR hC hR hk flX8_10 dX8_restore_47 (fun r10 hk => ?_)
      refine tw_getR hC hR hk flX8_46 dX8_restore_50 (fun r11 hk => ?_)
      refine kX0_total hC hR hL hk mlX8_137 ⟨by decide, by decide⟩ hl.1 (Nat.le_of_ble_eq_true rfl) ⟨Nat.zero_le _, Nat.zero_le _⟩ dX8_restore_53 (fun v12 H locs hR hL gv12 hk => ?_)
      cases hk
      exact tw_iret hC hR hL gv12 rfl rfl dX8_restore_56
set_option maxRecDepth 100000 in
theorem kX8_restore {l : Launch} {p : Program} {e : Env} {R : Room} {s : State} {m : MethodId} {args : Array Value} {below : List Frame} {meth : Method} {c : Code} {H : Heap} {locs : List Loc} {cells slots : Nat} {Q : State → Prop} {cc : ByteArray} {pc nL idx : Nat} {ls : Array Slot} {rest : List Value} {G : tw_G} {h : tm_H} {own : String} {ret : Option FieldType} {α : Type} {x : α} {sz : Nat} {this : Nat} {a1 : Int} (hC : tw_C G p s m args meth c own cc nL ret) (hR : tw_Rel G sz h H) (hL : tw_L G locs) {F : Int × tm_H → Option α} (hk : (fX8_restore this a1 h).bind F = some x) (ga1 : tm_rg a1) (hl : tw_mL own idx yX8_restore) (hRm : rmX8_restore.frames + 1 ≤ R.frames ∧ 8 + (2 + 11) + rmX8_restore.locals ≤ R.locals) (hsz : ls.size = nL) (hW : (rest.map fun v => v.category).sum ≤ 8) (hf : cells + 0 ≤ R.cells ∧ slots + 0 ≤ R.slots) (hdg : decode cc pc = .ok (.invokevirtual idx, 3)) (kk : ∀ (r : Int) (h1 : tm_H) (H1 : Heap) (locs1 : List Loc), tw_Rel G sz h1 H1 → tw_L G locs1 → tm_rg r → F (r, h1) = some x → W p l e R s m args below meth c H1 locs1 (cells + 0) (slots + 0) Q (F0 m (pc + 3) ls (.int (tw_I r) :: rest))) : W p l e R s m args below meth c H locs cells slots Q (F0 m pc ls (.int (tw_I a1) :: .ref this :: rest)) := by
  obtain ⟨r, hr, hF⟩ := Option.bind_eq_some_iff.mp hk
  have ob : ∀ r, fX8_restore this a1 h = some r → tm_is h 8 this := fun r hr => by
    unfold fX8_restore at hr
    exact (tm_th_is hr).1
  exact tw_backi (tw_runV hC hR (cX8_restore_ok l G sz this a1 ga1 h r hr) (n := 1) (As := [.int (tw_I a1)]) ⟨tw_in_TB 553 (by decide +kernel) rfl, tw_in_TB 9 (by decide +kernel) rfl, by decide +kernel⟩ (tw_in_TB 551 (by decide +kernel) rfl) (tw_in_TB 552 (by decide +kernel) rfl) hl ⟨rfl, rfl⟩ hRm (ob r hr) (T := TX8) (N := 6) rfl rfl hsz rfl hW hdg hf) hL (fun H1 locs1 a b g => kk r.1 r.2 H1 locs1 a b g hF)
def rmX8_undo : Room := { frames := 4, cells := 0, slots := 0, locals := 91 }
set_option maxRecDepth 100000 in
set_option maxHeartbeats 4000000 in
theorem cX8_undo_ok (l : Launch) (G : tw_G) (sz : Nat) (this : Nat)  (h : tm_H) (out : Int × tm_H) (hk : fX8_undo this h = some out) : Met l yX8_undo (tw_WS yX8_undo cX8_undo 1 (some .int)) rmX8_undo (va_Pc [.ref this] (tw_Pre G sz h)) (tw_Qi G sz out.1 out.2) 0 0 (tw_F G) := by
  refine tw_met (by decide +kernel) (Nat.le_of_ble_eq_true rfl) ?_
  intro p e s m args below meth c H ls hC hnm hR hl
  unfold fX8_undo at hk
  obtain ⟨hob, hk⟩ := tm_th_is hk
  have hl : lv_has ls 1 [(0, .ref this)] := hl
  have hL : tw_L G [] := fun q z => by cases z
  generalize hlc : ([] : List Loc) = locs at hL ⊢
  refine lv_aload_n hC.1 hC.2.1 dX8_undo_0 rfl (lv_at hl 0 rfl) ?_
  refine tw_getR hC hR hk flX8_22 dX8_undo_1 (fun r1 hk => ?_)
  refine kX1_size hC hR hL hk mlX8_146 ⟨by decide, by decide⟩ hl.1 (Nat.le_of_ble_eq_true rfl) ⟨Nat.zero_le _, Nat.zero_le _⟩ dX8_undo_4 (fun v2 H locs hR hL gv2 hk => ?_)
  refine tw_zne (tgt := 13) hC hk gv2 dX8_undo_7 (by decide) (fun _ hk => ?_) (fun _ hk => ?_)
  · refine lv_bipush (v := tw_I (-2)) hC.1 hC.2.1 dX8_undo_10 (by decide) ?_
    cases hk
    exact tw_iret hC hR hL ((tw_rgL rfl)) rfl rfl dX8_undo_12
  · refine lv_aload_n hC.1 hC.2.1 dX8_undo_13 rfl (lv_at hl 0 rfl) ?_
    refine tw_getR hC hR hk flX8_22 dX8_undo_14 (fun r3 hk => ?_)
    refine lv_aload_n hC.1 hC.2.1 dX8_undo_17 rfl (lv_at hl 0 rfl) ?_
    refine tw_getR hC hR hk flX8_10 dX8_undo_18 (fun r4 hk => ?_)
    refine kX1_giveBack hC hR hL hk mlX8_147 ⟨by decide, by decide⟩ hl.1 (Nat.le_of_ble_eq_true rfl) ⟨Nat.zero_le _, Nat.zero_le _⟩ dX8_undo_21 (fun h5 H locs hR hL hk => ?_)
    refine lv_aload_n hC.1 hC.2.1 dX8_undo_24 rfl (lv_at hl 0 rfl) ?_
    refine tw_getR hC hR hk flX8_22 dX8_undo_25 (fun r6 hk => ?_)
    refine kX1_size hC hR hL hk mlX8_146 ⟨by decide, by decide⟩ hl.1 (Nat.le_of_ble_eq_true rfl) ⟨Nat.zero_le _, Nat.zero_le _⟩ dX8_undo_28 (fun v7 H locs hR hL gv7 hk => ?_)
    cases hk
    exact tw_iret hC hR hL gv7 rfl rfl dX8_undo_31
set_option maxRecDepth 100000 in
theorem kX8_undo {l : Launch} {p : Program} {e : Env} {R : Room} {s : State} {m : MethodId} {args : Array Value} {below : List Frame} {meth : Method} {c : Code} {H : Heap} {locs : List Loc} {cells slots : Nat} {Q : State → Prop} {cc : ByteArray} {pc nL idx : Nat} {ls : Array Slot} {rest : List Value} {G : tw_G} {h : tm_H} {own : String} {ret : Option FieldType} {α : Type} {x : α} {sz : Nat} {this : Nat} (hC : tw_C G p s m args meth c own cc nL ret) (hR : tw_Rel G sz h H) (hL : tw_L G locs) {F : Int × tm_H → Option α} (hk : (fX8_undo this h).bind F = some x)  (hl : tw_mL own idx yX8_undo) (hRm : rmX8_undo.frames + 1 ≤ R.frames ∧ 8 + (1 + 11) + rmX8_undo.locals ≤ R.locals) (hsz : ls.size = nL) (hW : (rest.map fun v => v.category).sum ≤ 8) (hf : cells + 0 ≤ R.cells ∧ slots + 0 ≤ R.slots) (hdg : decode cc pc = .ok (.invokevirtual idx, 3)) (kk : ∀ (r : Int) (h1 : tm_H) (H1 : Heap) (locs1 : List Loc), tw_Rel G sz h1 H1 → tw_L G locs1 → tm_rg r → F (r, h1) = some x → W p l e R s m args below meth c H1 locs1 (cells + 0) (slots + 0) Q (F0 m (pc + 3) ls (.int (tw_I r) :: rest))) : W p l e R s m args below meth c H locs cells slots Q (F0 m pc ls (.ref this :: rest)) := by
  obtain ⟨r, hr, hF⟩ := Option.bind_eq_some_iff.mp hk
  have ob : ∀ r, fX8_undo this h = some r → tm_is h 8 this := fun r hr => by
    unfold fX8_undo at hr
    exact (tm_th_is hr).1
  exact tw_backi (tw_runV hC hR (cX8_undo_ok l G sz this  h r hr) (n := 0) (As := []) ⟨tw_in_TB 224 (by decide +kernel) rfl, tw_in_TB 9 (by decide +kernel) rfl, by decide +kernel⟩ (tw_in_TB 222 (by decide +kernel) rfl) (tw_in_TB 223 (by decide +kernel) rfl) hl ⟨rfl, rfl⟩ hRm (ob r hr) (T := TX8) (N := 6) rfl rfl hsz rfl hW hdg hf) hL (fun H1 locs1 a b g => kk r.1 r.2 H1 locs1 a b g hF)
def rmX8_append : Room := { frames := 1, cells := 0, slots := 0, locals := 21 }
set_option maxRecDepth 100000 in
set_option maxHeartbeats 4000000 in
theorem cX8_append_ok (l : Launch) (G : tw_G) (sz : Nat) (this : Nat) (a1 : Int) (ga1 : tm_rg a1) (h : tm_H) (out : Int × tm_H) (hk : fX8_append this a1 h = some out) : Met l yX8_append (tw_WS yX8_append cX8_append 2 (some .int)) rmX8_append (va_Pc [.ref this, .int (tw_I a1)] (tw_Pre G sz h)) (tw_Qi G sz out.1 out.2) 0 0 (tw_F G) := by
  refine tw_met (by decide +kernel) (Nat.le_of_ble_eq_true rfl) ?_
  intro p e s m args below meth c H ls hC hnm hR hl
  unfold fX8_append at hk
  obtain ⟨hob, hk⟩ := tm_th_is hk
  have hl : lv_has ls 2 [(0, .ref this), (1, .int (tw_I a1))] := hl
  have hL : tw_L G [] := fun q z => by cases z
  generalize hlc : ([] : List Loc) = locs at hL ⊢
  refine lv_iload_n hC.1 hC.2.1 dX8_append_0 rfl (lv_at hl 1 rfl) ?_
  refine lv_iconst (v := tw_I 1) hC.1 hC.2.1 dX8_append_1 rfl ?_
  refine tw_clt (tgt := 12) hC hk ga1 ((tw_rgL rfl)) dX8_append_2 (by decide) (fun _ hk => ?_) (fun _ hk => ?_)
  · refine lv_iconst (v := tw_I (-1)) hC.1 hC.2.1 dX8_append_12 rfl ?_
    cases hk
    exact tw_iret hC hR hL ((tw_rgL rfl)) rfl rfl dX8_append_13
  · refine lv_iload_n hC.1 hC.2.1 dX8_append_5 rfl (lv_at hl 1 rfl) ?_
    refine lv_sipush (v := tw_I 255) hC.1 hC.2.1 dX8_append_6 (by decide) ?_
    refine tw_cle (tgt := 14) hC hk ga1 ((tw_rgL rfl)) dX8_append_9 (by decide) (fun _ hk => ?_) (fun _ hk => ?_)
    · refine lv_iconst (v := tw_I (-1)) hC.1 hC.2.1 dX8_append_12 rfl ?_
      cases hk
      exact tw_iret hC hR hL ((tw_rgL rfl)) rfl rfl dX8_append_13
    · refine lv_aload_n hC.1 hC.2.1 dX8_append_14 rfl (lv_at hl 0 rfl) ?_
      refine tw_getR hC hR hk flX8_29 dX8_append_15 (fun r1 hk => ?_)
      refine tw_getR hC hR hk flX8_150 dX8_append_18 (fun r2 hk => ?_)
      refine kX6_length hC hR hL hk mlX8_154 ⟨by decide, by decide⟩ hl.1 (Nat.le_of_ble_eq_true rfl) ⟨Nat.zero_le _, Nat.zero_le _⟩ dX8_append_21 (fun v3 H locs hR hL gv3 hk => ?_)
      refine lv_sipush (v := tw_I 140) hC.1 hC.2.1 dX8_append_24 (by decide) ?_
      refine tw_clt (tgt := 33) hC hk gv3 ((tw_rgL rfl)) dX8_append_27 (by decide) (fun _ hk => ?_) (fun _ hk => ?_)
      · refine lv_aload_n hC.1 hC.2.1 dX8_append_33 rfl (lv_at hl 0 rfl) ?_
        refine tw_getR hC hR hk flX8_29 dX8_append_34 (fun r4 hk => ?_)
        refine tw_getR hC hR hk flX8_150 dX8_append_37 (fun r5 hk => ?_)
        refine lv_iload_n hC.1 hC.2.1 dX8_append_40 rfl (lv_at hl 1 rfl) ?_
        refine kX6_add hC hR hL hk ga1 mlX8_159 ⟨by decide, by decide⟩ hl.1 (Nat.le_of_ble_eq_true rfl) ⟨Nat.zero_le _, Nat.zero_le _⟩ dX8_append_41 (fun h6 H locs hR hL hk => ?_)
        refine lv_aload_n hC.1 hC.2.1 dX8_append_44 rfl (lv_at hl 0 rfl) ?_
        refine tw_getR hC hR hk flX8_29 dX8_append_45 (fun r7 hk => ?_)
        refine tw_getR hC hR hk flX8_150 dX8_append_48 (fun r8 hk => ?_)
        refine kX6_length hC hR hL hk mlX8_154 ⟨by decide, by decide⟩ hl.1 (Nat.le_of_ble_eq_true rfl) ⟨Nat.zero_le _, Nat.zero_le _⟩ dX8_append_51 (fun v9 H locs hR hL gv9 hk => ?_)
        cases hk
        exact tw_iret hC hR hL gv9 rfl rfl dX8_append_54
      · refine lv_bipush (v := tw_I (-3)) hC.1 hC.2.1 dX8_append_30 (by decide) ?_
        cases hk
        exact tw_iret hC hR hL ((tw_rgL rfl)) rfl rfl dX8_append_32
set_option maxRecDepth 100000 in
theorem kX8_append {l : Launch} {p : Program} {e : Env} {R : Room} {s : State} {m : MethodId} {args : Array Value} {below : List Frame} {meth : Method} {c : Code} {H : Heap} {locs : List Loc} {cells slots : Nat} {Q : State → Prop} {cc : ByteArray} {pc nL idx : Nat} {ls : Array Slot} {rest : List Value} {G : tw_G} {h : tm_H} {own : String} {ret : Option FieldType} {α : Type} {x : α} {sz : Nat} {this : Nat} {a1 : Int} (hC : tw_C G p s m args meth c own cc nL ret) (hR : tw_Rel G sz h H) (hL : tw_L G locs) {F : Int × tm_H → Option α} (hk : (fX8_append this a1 h).bind F = some x) (ga1 : tm_rg a1) (hl : tw_mL own idx yX8_append) (hRm : rmX8_append.frames + 1 ≤ R.frames ∧ 8 + (2 + 11) + rmX8_append.locals ≤ R.locals) (hsz : ls.size = nL) (hW : (rest.map fun v => v.category).sum ≤ 8) (hf : cells + 0 ≤ R.cells ∧ slots + 0 ≤ R.slots) (hdg : decode cc pc = .ok (.invokevirtual idx, 3)) (kk : ∀ (r : Int) (h1 : tm_H) (H1 : Heap) (locs1 : List Loc), tw_Rel G sz h1 H1 → tw_L G locs1 → tm_rg r → F (r, h1) = some x → W p l e R s m args below meth c H1 locs1 (cells + 0) (slots + 0) Q (F0 m (pc + 3) ls (.int (tw_I r) :: rest))) : W p l e R s m args below meth c H locs cells slots Q (F0 m pc ls (.int (tw_I a1) :: .ref this :: rest)) := by
  obtain ⟨r, hr, hF⟩ := Option.bind_eq_some_iff.mp hk
  have ob : ∀ r, fX8_append this a1 h = some r → tm_is h 8 this := fun r hr => by
    unfold fX8_append at hr
    exact (tm_th_is hr).1
  exact tw_backi (tw_runV hC hR (cX8_append_ok l G sz this a1 ga1 h r hr) (n := 1) (As := [.int (tw_I a1)]) ⟨tw_in_TB 566 (by decide +kernel) rfl, tw_in_TB 9 (by decide +kernel) rfl, by decide +kernel⟩ (tw_in_TB 564 (by decide +kernel) rfl) (tw_in_TB 565 (by decide +kernel) rfl) hl ⟨rfl, rfl⟩ hRm (ob r hr) (T := TX8) (N := 6) rfl rfl hsz rfl hW hdg hf) hL (fun H1 locs1 a b g => kk r.1 r.2 H1 locs1 a b g hF)
def rmX8_count : Room := { frames := 6, cells := 0, slots := 0, locals := 139 }
set_option maxRecDepth 100000 in
set_option maxHeartbeats 4000000 in
theorem cX8_count_ok (l : Launch) (G : tw_G) (sz : Nat) (this : Nat) (a1 : Int) (ga1 : tm_rg a1) (h : tm_H) (out : Int × tm_H) (hk : fX8_count this a1 h = some out) : Met l yX8_count (tw_WS yX8_count cX8_count 2 (some .int)) rmX8_count (va_Pc [.ref this, .int (tw_I a1)] (tw_Pre G sz h)) (tw_Qi G sz out.1 out.2) 0 0 (tw_F G) := by
  refine tw_met (by decide +kernel) (Nat.le_of_ble_eq_true rfl) ?_
  intro p e s m args below meth c H ls hC hnm hR hl
  unfold fX8_count at hk
  obtain ⟨hob, hk⟩ := tm_th_is hk
  have hl : lv_has ls 2 [(0, .ref this), (1, .int (tw_I a1))] := hl
  have hL : tw_L G [] := fun q z => by cases z
  generalize hlc : ([] : List Loc) = locs at hL ⊢
  refine lv_iload_n hC.1 hC.2.1 dX8_count_0 rfl (lv_at hl 1 rfl) ?_
  by_cases q4 : a1 = 0
  · rw [if_pos q4] at hk
    refine tw_tsIn (tgt := 56) hC 0 q4 (tw_rgL rfl) dX8_count_1 (by decide) (by decide) rfl (by decide) ?_
    refine lv_aload_n hC.1 hC.2.1 dX8_count_56 rfl (lv_at hl 0 rfl) ?_
    refine tw_getR hC hR hk flX8_10 dX8_count_57 (fun r1 hk => ?_)
    refine tw_getR hC hR hk flX8_60 dX8_count_60 (fun r2 hk => ?_)
    refine kX7_size hC hR hL hk mlX8_172 ⟨by decide, by decide⟩ hl.1 (Nat.le_of_ble_eq_true rfl) ⟨Nat.zero_le _, Nat.zero_le _⟩ dX8_count_63 (fun v3 H locs hR hL gv3 hk => ?_)
    cases hk
    exact tw_iret hC hR hL gv3 rfl rfl dX8_count_66
  · rw [if_neg q4] at hk
    by_cases q8 : a1 = 1
    · rw [if_pos q8] at hk
      refine tw_tsIn (tgt := 67) hC 1 q8 (tw_rgL rfl) dX8_count_1 (by decide) (by decide) rfl (by decide) ?_
      refine lv_aload_n hC.1 hC.2.1 dX8_count_67 rfl (lv_at hl 0 rfl) ?_
      refine tw_getR hC hR hk flX8_10 dX8_count_68 (fun r5 hk => ?_)
      refine tw_getR hC hR hk flX8_46 dX8_count_71 (fun r6 hk => ?_)
      refine kX0_total hC hR hL hk mlX8_137 ⟨by decide, by decide⟩ hl.1 (Nat.le_of_ble_eq_true rfl) ⟨Nat.zero_le _, Nat.zero_le _⟩ dX8_count_74 (fun v7 H locs hR hL gv7 hk => ?_)
      cases hk
      exact tw_iret hC hR hL gv7 rfl rfl dX8_count_77
    · rw [if_neg q8] at hk
      by_cases q12 : a1 = 2
      · rw [if_pos q12] at hk
        refine tw_tsIn (tgt := 78) hC 2 q12 (tw_rgL rfl) dX8_count_1 (by decide) (by decide) rfl (by decide) ?_
        refine lv_aload_n hC.1 hC.2.1 dX8_count_78 rfl (lv_at hl 0 rfl) ?_
        refine tw_getR hC hR hk flX8_10 dX8_count_79 (fun r9 hk => ?_)
        refine tw_getR hC hR hk flX8_102 dX8_count_82 (fun r10 hk => ?_)
        refine kX5_size hC hR hL hk mlX8_106 ⟨by decide, by decide⟩ hl.1 (Nat.le_of_ble_eq_true rfl) ⟨Nat.zero_le _, Nat.zero_le _⟩ dX8_count_85 (fun v11 H locs hR hL gv11 hk => ?_)
        cases hk
        exact tw_iret hC hR hL gv11 rfl rfl dX8_count_88
      · rw [if_neg q12] at hk
        by_cases q16 : a1 = 3
        · rw [if_pos q16] at hk
          refine tw_tsIn (tgt := 89) hC 3 q16 (tw_rgL rfl) dX8_count_1 (by decide) (by decide) rfl (by decide) ?_
          refine lv_aload_n hC.1 hC.2.1 dX8_count_89 rfl (lv_at hl 0 rfl) ?_
          refine tw_getR hC hR hk flX8_10 dX8_count_90 (fun r13 hk => ?_)
          refine tw_getR hC hR hk flX8_102 dX8_count_93 (fun r14 hk => ?_)
          refine kX5_quietCount hC hR hL hk mlX8_173 ⟨by decide, by decide⟩ hl.1 (Nat.le_of_ble_eq_true rfl) ⟨Nat.zero_le _, Nat.zero_le _⟩ dX8_count_96 (fun v15 H locs hR hL gv15 hk => ?_)
          cases hk
          exact tw_iret hC hR hL gv15 rfl rfl dX8_count_99
        · rw [if_neg q16] at hk
          by_cases q19 : a1 = 4
          · rw [if_pos q19] at hk
            refine tw_tsIn (tgt := 100) hC 4 q19 (tw_rgL rfl) dX8_count_1 (by decide) (by decide) rfl (by decide) ?_
            refine lv_aload_n hC.1 hC.2.1 dX8_count_100 rfl (lv_at hl 0 rfl) ?_
            refine kX8_readNow hC hR hL hk mlX8_90 ⟨by decide, by decide⟩ hl.1 (Nat.le_of_ble_eq_true rfl) ⟨Nat.zero_le _, Nat.zero_le _⟩ dX8_count_101 (fun v17 h17 H locs hR hL hk => ?_)
            refine kX3_markCount hC hR hL hk mlX8_94 ⟨by decide, by decide⟩ hl.1 (Nat.le_of_ble_eq_true rfl) ⟨Nat.zero_le _, Nat.zero_le _⟩ dX8_count_104 (fun v18 H locs hR hL gv18 hk => ?_)
            cases hk
            exact tw_iret hC hR hL gv18 rfl rfl dX8_count_107
          · rw [if_neg q19] at hk
            by_cases q22 : a1 = 5
            · rw [if_pos q22] at hk
              refine tw_tsIn (tgt := 108) hC 5 q22 (tw_rgL rfl) dX8_count_1 (by decide) (by decide) rfl (by decide) ?_
              refine lv_aload_n hC.1 hC.2.1 dX8_count_108 rfl (lv_at hl 0 rfl) ?_
              refine kX8_readNow hC hR hL hk mlX8_90 ⟨by decide, by decide⟩ hl.1 (Nat.le_of_ble_eq_true rfl) ⟨Nat.zero_le _, Nat.zero_le _⟩ dX8_count_109 (fun v20 h20 H locs hR hL hk => ?_)
              refine kX3_readingCount hC hR hL hk mlX8_176 ⟨by decide, by decide⟩ hl.1 (Nat.le_of_ble_eq_true rfl) ⟨Nat.zero_le _, Nat.zero_le _⟩ dX8_count_112 (fun v21 H locs hR hL gv21 hk => ?_)
              cases hk
              exact tw_iret hC hR hL gv21 rfl rfl dX8_count_115
            · rw [if_neg q22] at hk
              by_cases q26 : a1 = 6
              · rw [if_pos q26] at hk
                refine tw_tsIn (tgt := 116) hC 6 q26 (tw_rgL rfl) dX8_count_1 (by decide) (by decide) rfl (by decide) ?_
                refine lv_aload_n hC.1 hC.2.1 dX8_count_116 rfl (lv_at hl 0 rfl) ?_
                refine tw_getR hC hR hk flX8_10 dX8_count_117 (fun r23 hk => ?_)
                refine tw_getR hC hR hk flX8_60 dX8_count_120 (fun r24 hk => ?_)
                refine kX7_formCount hC hR hL hk mlX8_179 ⟨by decide, by decide⟩ hl.1 (Nat.le_of_ble_eq_true rfl) ⟨Nat.zero_le _, Nat.zero_le _⟩ dX8_count_123 (fun v25 H locs hR hL gv25 hk => ?_)
                cases hk
                exact tw_iret hC hR hL gv25 rfl rfl dX8_count_126
              · rw [if_neg q26] at hk
                by_cases q29 : a1 = 7
                · rw [if_pos q29] at hk
                  refine tw_tsIn (tgt := 127) hC 7 q29 (tw_rgL rfl) dX8_count_1 (by decide) (by decide) rfl (by decide) ?_
                  refine lv_aload_n hC.1 hC.2.1 dX8_count_127 rfl (lv_at hl 0 rfl) ?_
                  refine tw_getR hC hR hk flX8_10 dX8_count_128 (fun r27 hk => ?_)
                  refine kX4_takenCount hC hR hL hk mlX8_182 ⟨by decide, by decide⟩ hl.1 (Nat.le_of_ble_eq_true rfl) ⟨Nat.zero_le _, Nat.zero_le _⟩ dX8_count_131 (fun v28 H locs hR hL gv28 hk => ?_)
                  cases hk
                  exact tw_iret hC hR hL gv28 rfl rfl dX8_count_134
                · rw [if_neg q29] at hk
                  by_cases q32 : a1 = 8
                  · rw [if_pos q32] at hk
                    refine tw_tsIn (tgt := 135) hC 8 q32 (tw_rgL rfl) dX8_count_1 (by decide) (by decide) rfl (by decide) ?_
                    refine lv_aload_n hC.1 hC.2.1 dX8_count_135 rfl (lv_at hl 0 rfl) ?_
                    refine tw_getR hC hR hk flX8_22 dX8_count_136 (fun r30 hk => ?_)
                    refine kX1_size hC hR hL hk mlX8_146 ⟨by decide, by decide⟩ hl.1 (Nat.le_of_ble_eq_true rfl) ⟨Nat.zero_le _, Nat.zero_le _⟩ dX8_count_139 (fun v31 H locs hR hL gv31 hk => ?_)
                    cases hk
                    exact tw_iret hC hR hL gv31 rfl rfl dX8_count_142
                  · rw [if_neg q32] at hk
                    by_cases q36 : a1 = 9
                    · rw [if_pos q36] at hk
                      refine tw_tsIn (tgt := 143) hC 9 q36 (tw_rgL rfl) dX8_count_1 (by decide) (by decide) rfl (by decide) ?_
                      refine lv_aload_n hC.1 hC.2.1 dX8_count_143 rfl (lv_at hl 0 rfl) ?_
                      refine tw_getR hC hR hk flX8_29 dX8_count_144 (fun r33 hk => ?_)
                      refine tw_getR hC hR hk flX8_150 dX8_count_147 (fun r34 hk => ?_)
                      refine kX6_length hC hR hL hk mlX8_154 ⟨by decide, by decide⟩ hl.1 (Nat.le_of_ble_eq_true rfl) ⟨Nat.zero_le _, Nat.zero_le _⟩ dX8_count_150 (fun v35 H locs hR hL gv35 hk => ?_)
                      cases hk
                      exact tw_iret hC hR hL gv35 rfl rfl dX8_count_153
                    · rw [if_neg q36] at hk
                      refine tw_tsOut (tgt := 154) hC ga1 dX8_count_1 (by omega) (by decide) ?_
                      refine lv_iconst (v := tw_I (-1)) hC.1 hC.2.1 dX8_count_154 rfl ?_
                      cases hk
                      exact tw_iret hC hR hL ((tw_rgL rfl)) rfl rfl dX8_count_155
set_option maxRecDepth 100000 in
theorem kX8_count {l : Launch} {p : Program} {e : Env} {R : Room} {s : State} {m : MethodId} {args : Array Value} {below : List Frame} {meth : Method} {c : Code} {H : Heap} {locs : List Loc} {cells slots : Nat} {Q : State → Prop} {cc : ByteArray} {pc nL idx : Nat} {ls : Array Slot} {rest : List Value} {G : tw_G} {h : tm_H} {own : String} {ret : Option FieldType} {α : Type} {x : α} {sz : Nat} {this : Nat} {a1 : Int} (hC : tw_C G p s m args meth c own cc nL ret) (hR : tw_Rel G sz h H) (hL : tw_L G locs) {F : Int × tm_H → Option α} (hk : (fX8_count this a1 h).bind F = some x) (ga1 : tm_rg a1) (hl : tw_mL own idx yX8_count) (hRm : rmX8_count.frames + 1 ≤ R.frames ∧ 8 + (2 + 11) + rmX8_count.locals ≤ R.locals) (hsz : ls.size = nL) (hW : (rest.map fun v => v.category).sum ≤ 8) (hf : cells + 0 ≤ R.cells ∧ slots + 0 ≤ R.slots) (hdg : decode cc pc = .ok (.invokevirtual idx, 3)) (kk : ∀ (r : Int) (h1 : tm_H) (H1 : Heap) (locs1 : List Loc), tw_Rel G sz h1 H1 → tw_L G locs1 → tm_rg r → F (r, h1) = some x → W p l e R s m args below meth c H1 locs1 (cells + 0) (slots + 0) Q (F0 m (pc + 3) ls (.int (tw_I r) :: rest))) : W p l e R s m args below meth c H locs cells slots Q (F0 m pc ls (.int (tw_I a1) :: .ref this :: rest)) := by
  obtain ⟨r, hr, hF⟩ := Option.bind_eq_some_iff.mp hk
  have ob : ∀ r, fX8_count this a1 h = some r → tm_is h 8 this := fun r hr => by
    unfold fX8_count at hr
    exact (tm_th_is hr).1
  exact tw_backi (tw_runV hC hR (cX8_count_ok l G sz this a1 ga1 h r hr) (n := 1) (As := [.int (tw_I a1)]) ⟨tw_in_TB 257 (by decide +kernel) rfl, tw_in_TB 9 (by decide +kernel) rfl, by decide +kernel⟩ (tw_in_TB 255 (by decide +kernel) rfl) (tw_in_TB 256 (by decide +kernel) rfl) hl ⟨rfl, rfl⟩ hRm (ob r hr) (T := TX8) (N := 6) rfl rfl hsz rfl hW hdg hf) hL (fun H1 locs1 a b g => kk r.1 r.2 H1 locs1 a b g hF)
def rmX8_letter : Room := { frames := 2, cells := 0, slots := 0, locals := 44 }
set_option maxRecDepth 100000 in
set_option maxHeartbeats 4000000 in
theorem cX8_letter_ok (l : Launch) (G : tw_G) (sz : Nat) (this : Nat) (a1 : Int) (a2 : Int) (ga1 : tm_rg a1) (ga2 : tm_rg a2) (h : tm_H) (out : Int) (hk : fX8_letter this a1 a2 h = some out) : Met l yX8_letter (tw_WS yX8_letter cX8_letter 3 (some .int)) rmX8_letter (va_Pc [.ref this, .int (tw_I a1), .int (tw_I a2)] (tw_Pre G sz h)) (tw_Qi G sz out h) 0 0 (tw_F G) := by
  refine tw_met (by decide +kernel) (Nat.le_of_ble_eq_true rfl) ?_
  intro p e s m args below meth c H ls hC hnm hR hl
  unfold fX8_letter at hk
  obtain ⟨hob, hk⟩ := tm_th_is hk
  have hl : lv_has ls 3 [(0, .ref this), (1, .int (tw_I a1)), (2, .int (tw_I a2))] := hl
  have hL : tw_L G [] := fun q z => by cases z
  generalize hlc : ([] : List Loc) = locs at hL ⊢
  refine lv_aload_n hC.1 hC.2.1 dX8_letter_0 rfl (lv_at hl 0 rfl) ?_
  refine tw_getR hC hR hk flX8_10 dX8_letter_1 (fun r1 hk => ?_)
  refine tw_getR hC hR hk flX8_60 dX8_letter_4 (fun r2 hk => ?_)
  refine lv_iload_n hC.1 hC.2.1 dX8_letter_7 rfl (lv_at hl 1 rfl) ?_
  refine kX7_has hC hR hL hk ga1 mlX8_64 ⟨by decide, by decide⟩ hl.1 (Nat.le_of_ble_eq_true rfl) ⟨Nat.zero_le _, Nat.zero_le _⟩ dX8_letter_8 (fun v3 H locs hR hL gv3 hk => ?_)
  refine tw_zeq (tgt := 18) hC hk gv3 dX8_letter_11 (by decide) (fun _ hk => ?_) (fun _ hk => ?_)
  · refine lv_iconst (v := tw_I (-1)) hC.1 hC.2.1 dX8_letter_18 rfl ?_
    cases hk
    exact tw_iret hC hR hL ((tw_rgL rfl)) rfl rfl dX8_letter_19
  · refine lv_iload_n hC.1 hC.2.1 dX8_letter_14 rfl (lv_at hl 2 rfl) ?_
    refine tw_zge (tgt := 20) hC hk ga2 dX8_letter_15 (by decide) (fun _ hk => ?_) (fun _ hk => ?_)
    · refine lv_iconst (v := tw_I (-1)) hC.1 hC.2.1 dX8_letter_18 rfl ?_
      cases hk
      exact tw_iret hC hR hL ((tw_rgL rfl)) rfl rfl dX8_letter_19
    · refine lv_aload_n hC.1 hC.2.1 dX8_letter_20 rfl (lv_at hl 0 rfl) ?_
      refine tw_getR hC hR hk flX8_10 dX8_letter_21 (fun r4 hk => ?_)
      refine tw_getR hC hR hk flX8_60 dX8_letter_24 (fun r5 hk => ?_)
      refine lv_iload_n hC.1 hC.2.1 dX8_letter_27 rfl (lv_at hl 1 rfl) ?_
      refine lv_iload_n hC.1 hC.2.1 dX8_letter_28 rfl (lv_at hl 2 rfl) ?_
      refine kX7_letterAt hC hR hL hk ga1 ga2 mlX8_185 ⟨by decide, by decide⟩ hl.1 (Nat.le_of_ble_eq_true rfl) ⟨Nat.zero_le _, Nat.zero_le _⟩ dX8_letter_29 (fun v6 H locs hR hL gv6 hk => ?_)
      cases hk
      exact tw_iret hC hR hL gv6 rfl rfl dX8_letter_32
set_option maxRecDepth 100000 in
theorem kX8_letter {l : Launch} {p : Program} {e : Env} {R : Room} {s : State} {m : MethodId} {args : Array Value} {below : List Frame} {meth : Method} {c : Code} {H : Heap} {locs : List Loc} {cells slots : Nat} {Q : State → Prop} {cc : ByteArray} {pc nL idx : Nat} {ls : Array Slot} {rest : List Value} {G : tw_G} {h : tm_H} {own : String} {ret : Option FieldType} {α : Type} {x : α} {sz : Nat} {this : Nat} {a1 : Int} {a2 : Int} (hC : tw_C G p s m args meth c own cc nL ret) (hR : tw_Rel G sz h H) (hL : tw_L G locs) {F : Int → Option α} (hk : (fX8_letter this a1 a2 h).bind F = some x) (ga1 : tm_rg a1) (ga2 : tm_rg a2) (hl : tw_mL own idx yX8_letter) (hRm : rmX8_letter.frames + 1 ≤ R.frames ∧ 8 + (3 + 11) + rmX8_letter.locals ≤ R.locals) (hsz : ls.size = nL) (hW : (rest.map fun v => v.category).sum ≤ 8) (hf : cells + 0 ≤ R.cells ∧ slots + 0 ≤ R.slots) (hdg : decode cc pc = .ok (.invokevirtual idx, 3)) (kk : ∀ (r : Int) (H1 : Heap) (locs1 : List Loc), tw_Rel G sz h H1 → tw_L G locs1 → tm_rg r → F r = some x → W p l e R s m args below meth c H1 locs1 (cells + 0) (slots + 0) Q (F0 m (pc + 3) ls (.int (tw_I r) :: rest))) : W p l e R s m args below meth c H locs cells slots Q (F0 m pc ls (.int (tw_I a2) :: .int (tw_I a1) :: .ref this :: rest)) := by
  obtain ⟨r, hr, hF⟩ := Option.bind_eq_some_iff.mp hk
  have ob : ∀ r, fX8_letter this a1 a2 h = some r → tm_is h 8 this := fun r hr => by
    unfold fX8_letter at hr
    exact (tm_th_is hr).1
  exact tw_backi (tw_runV hC hR (cX8_letter_ok l G sz this a1 a2 ga1 ga2 h r hr) (n := 2) (As := [.int (tw_I a1), .int (tw_I a2)]) ⟨tw_in_TB 574 (by decide +kernel) rfl, tw_in_TB 9 (by decide +kernel) rfl, by decide +kernel⟩ (tw_in_TB 572 (by decide +kernel) rfl) (tw_in_TB 573 (by decide +kernel) rfl) hl ⟨rfl, rfl⟩ hRm (ob r hr) (T := TX8) (N := 6) rfl rfl hsz rfl hW hdg hf) hL (fun H1 locs1 a b g => kk r H1 locs1 a b g hF)
def rmX8_base : Room := { frames := 1, cells := 0, slots := 0, locals := 21 }
set_option maxRecDepth 100000 in
set_option maxHeartbeats 4000000 in
theorem cX8_base_ok (l : Launch) (G : tw_G) (sz : Nat) (this : Nat) (a1 : Int) (ga1 : tm_rg a1) (h : tm_H) (out : Int) (hk : fX8_base this a1 h = some out) : Met l yX8_base (tw_WS yX8_base cX8_base 2 (some .int)) rmX8_base (va_Pc [.ref this, .int (tw_I a1)] (tw_Pre G sz h)) (tw_Qi G sz out h) 0 0 (tw_F G) := by
  refine tw_met (by decide +kernel) (Nat.le_of_ble_eq_true rfl) ?_
  intro p e s m args below meth c H ls hC hnm hR hl
  unfold fX8_base at hk
  obtain ⟨hob, hk⟩ := tm_th_is hk
  have hl : lv_has ls 2 [(0, .ref this), (1, .int (tw_I a1))] := hl
  have hL : tw_L G [] := fun q z => by cases z
  generalize hlc : ([] : List Loc) = locs at hL ⊢
  refine lv_aload_n hC.1 hC.2.1 dX8_base_0 rfl (lv_at hl 0 rfl) ?_
  refine tw_getR hC hR hk flX8_10 dX8_base_1 (fun r1 hk => ?_)
  refine tw_getR hC hR hk flX8_60 dX8_base_4 (fun r2 hk => ?_)
  refine lv_iload_n hC.1 hC.2.1 dX8_base_7 rfl (lv_at hl 1 rfl) ?_
  refine kX7_has hC hR hL hk ga1 mlX8_64 ⟨by decide, by decide⟩ hl.1 (Nat.le_of_ble_eq_true rfl) ⟨Nat.zero_le _, Nat.zero_le _⟩ dX8_base_8 (fun v3 H locs hR hL gv3 hk => ?_)
  refine tw_zeq (tgt := 28) hC hk gv3 dX8_base_11 (by decide) (fun _ hk => ?_) (fun _ hk => ?_)
  · refine lv_iconst (v := tw_I (-1)) hC.1 hC.2.1 dX8_base_28 rfl ?_
    cases hk
    exact tw_iret hC hR hL ((tw_rgL rfl)) rfl rfl dX8_base_29
  · refine lv_aload_n hC.1 hC.2.1 dX8_base_14 rfl (lv_at hl 0 rfl) ?_
    refine tw_getR hC hR hk flX8_10 dX8_base_15 (fun r4 hk => ?_)
    refine tw_getR hC hR hk flX8_60 dX8_base_18 (fun r5 hk => ?_)
    refine lv_iload_n hC.1 hC.2.1 dX8_base_21 rfl (lv_at hl 1 rfl) ?_
    refine kX7_baseOf hC hR hL hk ga1 mlX8_125 ⟨by decide, by decide⟩ hl.1 (Nat.le_of_ble_eq_true rfl) ⟨Nat.zero_le _, Nat.zero_le _⟩ dX8_base_22 (fun v6 H locs hR hL gv6 hk => ?_)
    refine lv_goto (tgt := 29) hC.1 hC.2.1 dX8_base_25 (by decide) ?_
    cases hk
    exact tw_iret hC hR hL gv6 rfl rfl dX8_base_29
set_option maxRecDepth 100000 in
theorem kX8_base {l : Launch} {p : Program} {e : Env} {R : Room} {s : State} {m : MethodId} {args : Array Value} {below : List Frame} {meth : Method} {c : Code} {H : Heap} {locs : List Loc} {cells slots : Nat} {Q : State → Prop} {cc : ByteArray} {pc nL idx : Nat} {ls : Array Slot} {rest : List Value} {G : tw_G} {h : tm_H} {own : String} {ret : Option FieldType} {α : Type} {x : α} {sz : Nat} {this : Nat} {a1 : Int} (hC : tw_C G p s m args meth c own cc nL ret) (hR : tw_Rel G sz h H) (hL : tw_L G locs) {F : Int → Option α} (hk : (fX8_base this a1 h).bind F = some x) (ga1 : tm_rg a1) (hl : tw_mL own idx yX8_base) (hRm : rmX8_base.frames + 1 ≤ R.frames ∧ 8 + (2 + 11) + rmX8_base.locals ≤ R.locals) (hsz : ls.size = nL) (hW : (rest.map fun v => v.category).sum ≤ 8) (hf : cells + 0 ≤ R.cells ∧ slots + 0 ≤ R.slots) (hdg : decode cc pc = .ok (.invokevirtual idx, 3)) (kk : ∀ (r : Int) (H1 : Heap) (locs1 : List Loc), tw_Rel G sz h H1 → tw_L G locs1 → tm_rg r → F r = some x → W p l e R s m args below meth c H1 locs1 (cells + 0) (slots + 0) Q (F0 m (pc + 3) ls (.int (tw_I r) :: rest))) : W p l e R s m args below meth c H locs cells slots Q (F0 m pc ls (.int (tw_I a1) :: .ref this :: rest)) := by
  obtain ⟨r, hr, hF⟩ := Option.bind_eq_some_iff.mp hk
  have ob : ∀ r, fX8_base this a1 h = some r → tm_is h 8 this := fun r hr => by
    unfold fX8_base at hr
    exact (tm_th_is hr).1
  exact tw_backi (tw_runV hC hR (cX8_base_ok l G sz this a1 ga1 h r hr) (n := 1) (As := [.int (tw_I a1)]) ⟨tw_in_TB 418 (by decide +kernel) rfl, tw_in_TB 9 (by decide +kernel) rfl, by decide +kernel⟩ (tw_in_TB 416 (by decide +kernel) rfl) (tw_in_TB 417 (by decide +kernel) rfl) hl ⟨rfl, rfl⟩ hRm (ob r hr) (T := TX8) (N := 6) rfl rfl hsz rfl hW hdg hf) hL (fun H1 locs1 a b g => kk r H1 locs1 a b g hF)
def rmX8_place : Room := { frames := 6, cells := 0, slots := 0, locals := 139 }
set_option maxRecDepth 100000 in
set_option maxHeartbeats 4000000 in
theorem cX8_place_ok (l : Launch) (G : tw_G) (sz : Nat) (this : Nat) (a1 : Int) (a2 : Int) (a3 : Int) (ga1 : tm_rg a1) (ga2 : tm_rg a2) (ga3 : tm_rg a3) (h : tm_H) (out : Int × tm_H) (hk : fX8_place this a1 a2 a3 h = some out) : Met l yX8_place (tw_WS yX8_place cX8_place 4 (some .int)) rmX8_place (va_Pc [.ref this, .int (tw_I a1), .int (tw_I a2), .int (tw_I a3)] (tw_Pre G sz h)) (tw_Qi G sz out.1 out.2) 0 0 (tw_F G) := by
  refine tw_met (by decide +kernel) (Nat.le_of_ble_eq_true rfl) ?_
  intro p e s m args below meth c H ls hC hnm hR hl
  unfold fX8_place at hk
  obtain ⟨hob, hk⟩ := tm_th_is hk
  have hl : lv_has ls 4 [(0, .ref this), (1, .int (tw_I a1)), (2, .int (tw_I a2)), (3, .int (tw_I a3))] := hl
  have hL : tw_L G [] := fun q z => by cases z
  generalize hlc : ([] : List Loc) = locs at hL ⊢
  refine lv_aload_n hC.1 hC.2.1 dX8_place_0 rfl (lv_at hl 0 rfl) ?_
  refine tw_getR hC hR hk flX8_10 dX8_place_1 (fun r1 hk => ?_)
  refine tw_getR hC hR hk flX8_46 dX8_place_4 (fun r2 hk => ?_)
  refine lv_iload_n hC.1 hC.2.1 dX8_place_7 rfl (lv_at hl 1 rfl) ?_
  refine kX0_has hC hR hL hk ga1 mlX8_50 ⟨by decide, by decide⟩ hl.1 (Nat.le_of_ble_eq_true rfl) ⟨Nat.zero_le _, Nat.zero_le _⟩ dX8_place_8 (fun v3 H locs hR hL gv3 hk => ?_)
  refine tw_zeq (tgt := 27) hC hk gv3 dX8_place_11 (by decide) (fun _ hk => ?_) (fun _ hk => ?_)
  · refine lv_iconst (v := tw_I (-1)) hC.1 hC.2.1 dX8_place_27 rfl ?_
    cases hk
    exact tw_iret hC hR hL ((tw_rgL rfl)) rfl rfl dX8_place_28
  · refine lv_iload_n hC.1 hC.2.1 dX8_place_14 rfl (lv_at hl 2 rfl) ?_
    refine tw_zlt (tgt := 27) hC hk ga2 dX8_place_15 (by decide) (fun _ hk => ?_) (fun _ hk => ?_)
    · refine lv_iconst (v := tw_I (-1)) hC.1 hC.2.1 dX8_place_27 rfl ?_
      cases hk
      exact tw_iret hC hR hL ((tw_rgL rfl)) rfl rfl dX8_place_28
    · refine lv_iload_n hC.1 hC.2.1 dX8_place_18 rfl (lv_at hl 3 rfl) ?_
      refine tw_zlt (tgt := 27) hC hk ga3 dX8_place_19 (by decide) (fun _ hk => ?_) (fun _ hk => ?_)
      · refine lv_iconst (v := tw_I (-1)) hC.1 hC.2.1 dX8_place_27 rfl ?_
        cases hk
        exact tw_iret hC hR hL ((tw_rgL rfl)) rfl rfl dX8_place_28
      · refine lv_iload_n hC.1 hC.2.1 dX8_place_22 rfl (lv_at hl 3 rfl) ?_
        refine lv_iconst (v := tw_I 3) hC.1 hC.2.1 dX8_place_23 rfl ?_
        refine tw_cle (tgt := 29) hC hk ga3 ((tw_rgL rfl)) dX8_place_24 (by decide) (fun _ hk => ?_) (fun _ hk => ?_)
        · refine lv_iconst (v := tw_I (-1)) hC.1 hC.2.1 dX8_place_27 rfl ?_
          cases hk
          exact tw_iret hC hR hL ((tw_rgL rfl)) rfl rfl dX8_place_28
        · refine lv_aload_n hC.1 hC.2.1 dX8_place_29 rfl (lv_at hl 0 rfl) ?_
          refine tw_getR hC hR hk flX8_10 dX8_place_30 (fun r4 hk => ?_)
          refine tw_getR hC hR hk flX8_46 dX8_place_33 (fun r5 hk => ?_)
          refine lv_iload_n hC.1 hC.2.1 dX8_place_36 rfl (lv_at hl 1 rfl) ?_
          refine lv_iload_n hC.1 hC.2.1 dX8_place_37 rfl (lv_at hl 2 rfl) ?_
          refine kX0_hasPlace hC hR hL hk ga1 ga2 mlX8_75 ⟨by decide, by decide⟩ hl.1 (Nat.le_of_ble_eq_true rfl) ⟨Nat.zero_le _, Nat.zero_le _⟩ dX8_place_38 (fun v6 H locs hR hL gv6 hk => ?_)
          refine tw_zne (tgt := 47) hC hk gv6 dX8_place_41 (by decide) (fun _ hk => ?_) (fun _ hk => ?_)
          · refine lv_bipush (v := tw_I (-99)) hC.1 hC.2.1 dX8_place_44 (by decide) ?_
            cases hk
            exact tw_iret hC hR hL ((tw_rgL rfl)) rfl rfl dX8_place_46
          · refine lv_iload_n hC.1 hC.2.1 dX8_place_47 rfl (lv_at hl 3 rfl) ?_
            by_cases q10 : a3 = 0
            · rw [if_pos q10] at hk
              refine tw_tsIn (tgt := 76) hC 0 q10 (tw_rgL rfl) dX8_place_48 (by decide) (by decide) rfl (by decide) ?_
              refine lv_aload_n hC.1 hC.2.1 dX8_place_76 rfl (lv_at hl 0 rfl) ?_
              refine tw_getR hC hR hk flX8_10 dX8_place_77 (fun r7 hk => ?_)
              refine tw_getR hC hR hk flX8_46 dX8_place_80 (fun r8 hk => ?_)
              refine lv_iload_n hC.1 hC.2.1 dX8_place_83 rfl (lv_at hl 1 rfl) ?_
              refine lv_iload_n hC.1 hC.2.1 dX8_place_84 rfl (lv_at hl 2 rfl) ?_
              refine kX0_wordAt hC hR hL hk ga1 ga2 mlX8_188 ⟨by decide, by decide⟩ hl.1 (Nat.le_of_ble_eq_true rfl) ⟨Nat.zero_le _, Nat.zero_le _⟩ dX8_place_85 (fun v9 H locs hR hL gv9 hk => ?_)
              cases hk
              exact tw_iret hC hR hL gv9 rfl rfl dX8_place_88
            · rw [if_neg q10] at hk
              by_cases q13 : a3 = 1
              · rw [if_pos q13] at hk
                refine tw_tsIn (tgt := 89) hC 1 q13 (tw_rgL rfl) dX8_place_48 (by decide) (by decide) rfl (by decide) ?_
                refine lv_aload_n hC.1 hC.2.1 dX8_place_89 rfl (lv_at hl 0 rfl) ?_
                refine kX8_readNow hC hR hL hk mlX8_90 ⟨by decide, by decide⟩ hl.1 (Nat.le_of_ble_eq_true rfl) ⟨Nat.zero_le _, Nat.zero_le _⟩ dX8_place_90 (fun v11 h11 H locs hR hL hk => ?_)
                refine lv_iload_n hC.1 hC.2.1 dX8_place_93 rfl (lv_at hl 1 rfl) ?_
                refine lv_iload_n hC.1 hC.2.1 dX8_place_94 rfl (lv_at hl 2 rfl) ?_
                refine kX3_termOver hC hR hL hk ga1 ga2 mlX8_191 ⟨by decide, by decide⟩ hl.1 (Nat.le_of_ble_eq_true rfl) ⟨Nat.zero_le _, Nat.zero_le _⟩ dX8_place_95 (fun v12 H locs hR hL gv12 hk => ?_)
                cases hk
                exact tw_iret hC hR hL gv12 rfl rfl dX8_place_98
              · rw [if_neg q13] at hk
                by_cases q16 : a3 = 2
                · rw [if_pos q16] at hk
                  refine tw_tsIn (tgt := 99) hC 2 q16 (tw_rgL rfl) dX8_place_48 (by decide) (by decide) rfl (by decide) ?_
                  refine lv_aload_n hC.1 hC.2.1 dX8_place_99 rfl (lv_at hl 0 rfl) ?_
                  refine kX8_readNow hC hR hL hk mlX8_90 ⟨by decide, by decide⟩ hl.1 (Nat.le_of_ble_eq_true rfl) ⟨Nat.zero_le _, Nat.zero_le _⟩ dX8_place_100 (fun v14 h14 H locs hR hL hk => ?_)
                  refine lv_iload_n hC.1 hC.2.1 dX8_place_103 rfl (lv_at hl 1 rfl) ?_
                  refine lv_iload_n hC.1 hC.2.1 dX8_place_104 rfl (lv_at hl 2 rfl) ?_
                  refine kX3_stepOver hC hR hL hk ga1 ga2 mlX8_194 ⟨by decide, by decide⟩ hl.1 (Nat.le_of_ble_eq_true rfl) ⟨Nat.zero_le _, Nat.zero_le _⟩ dX8_place_105 (fun v15 H locs hR hL gv15 hk => ?_)
                  cases hk
                  exact tw_iret hC hR hL gv15 rfl rfl dX8_place_108
                · rw [if_neg q16] at hk
                  refine tw_tsOut (tgt := 109) hC ga3 dX8_place_48 (by omega) (by decide) ?_
                  refine lv_aload_n hC.1 hC.2.1 dX8_place_109 rfl (lv_at hl 0 rfl) ?_
                  refine kX8_readNow hC hR hL hk mlX8_90 ⟨by decide, by decide⟩ hl.1 (Nat.le_of_ble_eq_true rfl) ⟨Nat.zero_le _, Nat.zero_le _⟩ dX8_place_110 (fun v17 h17 H locs hR hL hk => ?_)
                  refine lv_iload_n hC.1 hC.2.1 dX8_place_113 rfl (lv_at hl 1 rfl) ?_
                  refine lv_iload_n hC.1 hC.2.1 dX8_place_114 rfl (lv_at hl 2 rfl) ?_
                  refine kX3_hasMark hC hR hL hk ga1 ga2 mlX8_197 ⟨by decide, by decide⟩ hl.1 (Nat.le_of_ble_eq_true rfl) ⟨Nat.zero_le _, Nat.zero_le _⟩ dX8_place_115 (fun v18 H locs hR hL gv18 hk => ?_)
                  refine tw_zeq (tgt := 125) hC hk gv18 dX8_place_118 (by decide) (fun _ hk => ?_) (fun _ hk => ?_)
                  · refine lv_iconst (v := tw_I 0) hC.1 hC.2.1 dX8_place_125 rfl ?_
                    cases hk
                    exact tw_iret hC hR hL ((tw_rgL rfl)) rfl rfl dX8_place_126
                  · refine lv_iconst (v := tw_I 1) hC.1 hC.2.1 dX8_place_121 rfl ?_
                    refine lv_goto (tgt := 126) hC.1 hC.2.1 dX8_place_122 (by decide) ?_
                    cases hk
                    exact tw_iret hC hR hL ((tw_rgL rfl)) rfl rfl dX8_place_126
set_option maxRecDepth 100000 in
theorem kX8_place {l : Launch} {p : Program} {e : Env} {R : Room} {s : State} {m : MethodId} {args : Array Value} {below : List Frame} {meth : Method} {c : Code} {H : Heap} {locs : List Loc} {cells slots : Nat} {Q : State → Prop} {cc : ByteArray} {pc nL idx : Nat} {ls : Array Slot} {rest : List Value} {G : tw_G} {h : tm_H} {own : String} {ret : Option FieldType} {α : Type} {x : α} {sz : Nat} {this : Nat} {a1 : Int} {a2 : Int} {a3 : Int} (hC : tw_C G p s m args meth c own cc nL ret) (hR : tw_Rel G sz h H) (hL : tw_L G locs) {F : Int × tm_H → Option α} (hk : (fX8_place this a1 a2 a3 h).bind F = some x) (ga1 : tm_rg a1) (ga2 : tm_rg a2) (ga3 : tm_rg a3) (hl : tw_mL own idx yX8_place) (hRm : rmX8_place.frames + 1 ≤ R.frames ∧ 8 + (4 + 11) + rmX8_place.locals ≤ R.locals) (hsz : ls.size = nL) (hW : (rest.map fun v => v.category).sum ≤ 8) (hf : cells + 0 ≤ R.cells ∧ slots + 0 ≤ R.slots) (hdg : decode cc pc = .ok (.invokevirtual idx, 3)) (kk : ∀ (r : Int) (h1 : tm_H) (H1 : Heap) (locs1 : List Loc), tw_Rel G sz h1 H1 → tw_L G locs1 → tm_rg r → F (r, h1) = some x → W p l e R s m args below meth c H1 locs1 (cells + 0) (slots + 0) Q (F0 m (pc + 3) ls (.int (tw_I r) :: rest))) : W p l e R s m args below meth c H locs cells slots Q (F0 m pc ls (.int (tw_I a3) :: .int (tw_I a2) :: .int (tw_I a1) :: .ref this :: rest)) := by
  obtain ⟨r, hr, hF⟩ := Option.bind_eq_some_iff.mp hk
  have ob : ∀ r, fX8_place this a1 a2 a3 h = some r → tm_is h 8 this := fun r hr => by
    unfold fX8_place at hr
    exact (tm_th_is hr).1
  exact tw_backi (tw_runV hC hR (cX8_place_ok l G sz this a1 a2 a3 ga1 ga2 ga3 h r hr) (n := 3) (As := [.int (tw_I a1), .int (tw_I a2), .int (tw_I a3)]) ⟨tw_in_TB 370 (by decide +kernel) rfl, tw_in_TB 9 (by decide +kernel) rfl, by decide +kernel⟩ (tw_in_TB 368 (by decide +kernel) rfl) (tw_in_TB 369 (by decide +kernel) rfl) hl ⟨rfl, rfl⟩ hRm (ob r hr) (T := TX8) (N := 6) rfl rfl hsz rfl hW hdg hf) hL (fun H1 locs1 a b g => kk r.1 r.2 H1 locs1 a b g hF)
def rmX8_term : Room := { frames := 6, cells := 0, slots := 0, locals := 139 }
set_option maxRecDepth 100000 in
set_option maxHeartbeats 4000000 in
theorem cX8_term_ok (l : Launch) (G : tw_G) (sz : Nat) (this : Nat) (a1 : Int) (a2 : Int) (ga1 : tm_rg a1) (ga2 : tm_rg a2) (h : tm_H) (out : Int × tm_H) (hk : fX8_term this a1 a2 h = some out) : Met l yX8_term (tw_WS yX8_term cX8_term 3 (some .int)) rmX8_term (va_Pc [.ref this, .int (tw_I a1), .int (tw_I a2)] (tw_Pre G sz h)) (tw_Qi G sz out.1 out.2) 0 0 (tw_F G) := by
  refine tw_met (by decide +kernel) (Nat.le_of_ble_eq_true rfl) ?_
  intro p e s m args below meth c H ls hC hnm hR hl
  unfold fX8_term at hk
  obtain ⟨hob, hk⟩ := tm_th_is hk
  have hl : lv_has ls 3 [(0, .ref this), (1, .int (tw_I a1)), (2, .int (tw_I a2))] := hl
  have hL : tw_L G [] := fun q z => by cases z
  generalize hlc : ([] : List Loc) = locs at hL ⊢
  refine lv_aload_n hC.1 hC.2.1 dX8_term_0 rfl (lv_at hl 0 rfl) ?_
  refine tw_getR hC hR hk flX8_10 dX8_term_1 (fun r1 hk => ?_)
  refine tw_getR hC hR hk flX8_102 dX8_term_4 (fun r2 hk => ?_)
  refine lv_iload_n hC.1 hC.2.1 dX8_term_7 rfl (lv_at hl 1 rfl) ?_
  refine kX5_has hC hR hL hk ga1 mlX8_113 ⟨by decide, by decide⟩ hl.1 (Nat.le_of_ble_eq_true rfl) ⟨Nat.zero_le _, Nat.zero_le _⟩ dX8_term_8 (fun v3 H locs hR hL gv3 hk => ?_)
  refine tw_zne (tgt := 16) hC hk gv3 dX8_term_11 (by decide) (fun _ hk => ?_) (fun _ hk => ?_)
  · refine lv_iconst (v := tw_I (-1)) hC.1 hC.2.1 dX8_term_14 rfl ?_
    cases hk
    exact tw_iret hC hR hL ((tw_rgL rfl)) rfl rfl dX8_term_15
  · refine lv_iload_n hC.1 hC.2.1 dX8_term_16 rfl (lv_at hl 2 rfl) ?_
    by_cases q7 : a2 = 0
    · rw [if_pos q7] at hk
      refine tw_tsIn (tgt := 68) hC 0 q7 (tw_rgL rfl) dX8_term_17 (by decide) (by decide) rfl (by decide) ?_
      refine lv_aload_n hC.1 hC.2.1 dX8_term_68 rfl (lv_at hl 0 rfl) ?_
      refine tw_getR hC hR hk flX8_10 dX8_term_69 (fun r4 hk => ?_)
      refine tw_getR hC hR hk flX8_102 dX8_term_72 (fun r5 hk => ?_)
      refine lv_iload_n hC.1 hC.2.1 dX8_term_75 rfl (lv_at hl 1 rfl) ?_
      refine kX5_lengthOf hC hR hL hk ga1 mlX8_200 ⟨by decide, by decide⟩ hl.1 (Nat.le_of_ble_eq_true rfl) ⟨Nat.zero_le _, Nat.zero_le _⟩ dX8_term_76 (fun v6 H locs hR hL gv6 hk => ?_)
      cases hk
      exact tw_iret hC hR hL gv6 rfl rfl dX8_term_79
    · rw [if_neg q7] at hk
      by_cases q11 : a2 = 1
      · rw [if_pos q11] at hk
        refine tw_tsIn (tgt := 80) hC 1 q11 (tw_rgL rfl) dX8_term_17 (by decide) (by decide) rfl (by decide) ?_
        refine lv_aload_n hC.1 hC.2.1 dX8_term_80 rfl (lv_at hl 0 rfl) ?_
        refine tw_getR hC hR hk flX8_10 dX8_term_81 (fun r8 hk => ?_)
        refine tw_getR hC hR hk flX8_102 dX8_term_84 (fun r9 hk => ?_)
        refine lv_iload_n hC.1 hC.2.1 dX8_term_87 rfl (lv_at hl 1 rfl) ?_
        refine lv_iload_n hC.1 hC.2.1 dX8_term_88 rfl (lv_at hl 2 rfl) ?_
        refine lv_iconst (v := tw_I 1) hC.1 hC.2.1 dX8_term_89 rfl ?_
        refine tw_isub hC dX8_term_90 ?_
        refine kX5_wordAt hC hR hL hk ga1 ((tm_wr_rg _)) mlX8_201 ⟨by decide, by decide⟩ hl.1 (Nat.le_of_ble_eq_true rfl) ⟨Nat.zero_le _, Nat.zero_le _⟩ dX8_term_91 (fun v10 H locs hR hL gv10 hk => ?_)
        cases hk
        exact tw_iret hC hR hL gv10 rfl rfl dX8_term_94
      · rw [if_neg q11] at hk
        by_cases q15 : a2 = 2
        · rw [if_pos q15] at hk
          refine tw_tsIn (tgt := 80) hC 2 q15 (tw_rgL rfl) dX8_term_17 (by decide) (by decide) rfl (by decide) ?_
          refine lv_aload_n hC.1 hC.2.1 dX8_term_80 rfl (lv_at hl 0 rfl) ?_
          refine tw_getR hC hR hk flX8_10 dX8_term_81 (fun r12 hk => ?_)
          refine tw_getR hC hR hk flX8_102 dX8_term_84 (fun r13 hk => ?_)
          refine lv_iload_n hC.1 hC.2.1 dX8_term_87 rfl (lv_at hl 1 rfl) ?_
          refine lv_iload_n hC.1 hC.2.1 dX8_term_88 rfl (lv_at hl 2 rfl) ?_
          refine lv_iconst (v := tw_I 1) hC.1 hC.2.1 dX8_term_89 rfl ?_
          refine tw_isub hC dX8_term_90 ?_
          refine kX5_wordAt hC hR hL hk ga1 ((tm_wr_rg _)) mlX8_201 ⟨by decide, by decide⟩ hl.1 (Nat.le_of_ble_eq_true rfl) ⟨Nat.zero_le _, Nat.zero_le _⟩ dX8_term_91 (fun v14 H locs hR hL gv14 hk => ?_)
          cases hk
          exact tw_iret hC hR hL gv14 rfl rfl dX8_term_94
        · rw [if_neg q15] at hk
          by_cases q19 : a2 = 3
          · rw [if_pos q19] at hk
            refine tw_tsIn (tgt := 80) hC 3 q19 (tw_rgL rfl) dX8_term_17 (by decide) (by decide) rfl (by decide) ?_
            refine lv_aload_n hC.1 hC.2.1 dX8_term_80 rfl (lv_at hl 0 rfl) ?_
            refine tw_getR hC hR hk flX8_10 dX8_term_81 (fun r16 hk => ?_)
            refine tw_getR hC hR hk flX8_102 dX8_term_84 (fun r17 hk => ?_)
            refine lv_iload_n hC.1 hC.2.1 dX8_term_87 rfl (lv_at hl 1 rfl) ?_
            refine lv_iload_n hC.1 hC.2.1 dX8_term_88 rfl (lv_at hl 2 rfl) ?_
            refine lv_iconst (v := tw_I 1) hC.1 hC.2.1 dX8_term_89 rfl ?_
            refine tw_isub hC dX8_term_90 ?_
            refine kX5_wordAt hC hR hL hk ga1 ((tm_wr_rg _)) mlX8_201 ⟨by decide, by decide⟩ hl.1 (Nat.le_of_ble_eq_true rfl) ⟨Nat.zero_le _, Nat.zero_le _⟩ dX8_term_91 (fun v18 H locs hR hL gv18 hk => ?_)
            cases hk
            exact tw_iret hC hR hL gv18 rfl rfl dX8_term_94
          · rw [if_neg q19] at hk
            by_cases q23 : a2 = 4
            · rw [if_pos q23] at hk
              refine tw_tsIn (tgt := 80) hC 4 q23 (tw_rgL rfl) dX8_term_17 (by decide) (by decide) rfl (by decide) ?_
              refine lv_aload_n hC.1 hC.2.1 dX8_term_80 rfl (lv_at hl 0 rfl) ?_
              refine tw_getR hC hR hk flX8_10 dX8_term_81 (fun r20 hk => ?_)
              refine tw_getR hC hR hk flX8_102 dX8_term_84 (fun r21 hk => ?_)
              refine lv_iload_n hC.1 hC.2.1 dX8_term_87 rfl (lv_at hl 1 rfl) ?_
              refine lv_iload_n hC.1 hC.2.1 dX8_term_88 rfl (lv_at hl 2 rfl) ?_
              refine lv_iconst (v := tw_I 1) hC.1 hC.2.1 dX8_term_89 rfl ?_
              refine tw_isub hC dX8_term_90 ?_
              refine kX5_wordAt hC hR hL hk ga1 ((tm_wr_rg _)) mlX8_201 ⟨by decide, by decide⟩ hl.1 (Nat.le_of_ble_eq_true rfl) ⟨Nat.zero_le _, Nat.zero_le _⟩ dX8_term_91 (fun v22 H locs hR hL gv22 hk => ?_)
              cases hk
              exact tw_iret hC hR hL gv22 rfl rfl dX8_term_94
            · rw [if_neg q23] at hk
              by_cases q27 : a2 = 5
              · rw [if_pos q27] at hk
                refine tw_tsIn (tgt := 95) hC 5 q27 (tw_rgL rfl) dX8_term_17 (by decide) (by decide) rfl (by decide) ?_
                refine lv_aload_n hC.1 hC.2.1 dX8_term_95 rfl (lv_at hl 0 rfl) ?_
                refine tw_getR hC hR hk flX8_10 dX8_term_96 (fun r24 hk => ?_)
                refine tw_getR hC hR hk flX8_102 dX8_term_99 (fun r25 hk => ?_)
                refine lv_iload_n hC.1 hC.2.1 dX8_term_102 rfl (lv_at hl 1 rfl) ?_
                refine kX5_isQuiet hC hR hL hk ga1 mlX8_202 ⟨by decide, by decide⟩ hl.1 (Nat.le_of_ble_eq_true rfl) ⟨Nat.zero_le _, Nat.zero_le _⟩ dX8_term_103 (fun v26 H locs hR hL gv26 hk => ?_)
                refine tw_zeq (tgt := 113) hC hk gv26 dX8_term_106 (by decide) (fun _ hk => ?_) (fun _ hk => ?_)
                · refine lv_iconst (v := tw_I 0) hC.1 hC.2.1 dX8_term_113 rfl ?_
                  cases hk
                  exact tw_iret hC hR hL ((tw_rgL rfl)) rfl rfl dX8_term_114
                · refine lv_iconst (v := tw_I 1) hC.1 hC.2.1 dX8_term_109 rfl ?_
                  refine lv_goto (tgt := 114) hC.1 hC.2.1 dX8_term_110 (by decide) ?_
                  cases hk
                  exact tw_iret hC hR hL ((tw_rgL rfl)) rfl rfl dX8_term_114
              · rw [if_neg q27] at hk
                by_cases q30 : a2 = 6
                · rw [if_pos q30] at hk
                  refine tw_tsIn (tgt := 115) hC 6 q30 (tw_rgL rfl) dX8_term_17 (by decide) (by decide) rfl (by decide) ?_
                  refine lv_aload_n hC.1 hC.2.1 dX8_term_115 rfl (lv_at hl 0 rfl) ?_
                  refine kX8_readNow hC hR hL hk mlX8_90 ⟨by decide, by decide⟩ hl.1 (Nat.le_of_ble_eq_true rfl) ⟨Nat.zero_le _, Nat.zero_le _⟩ dX8_term_116 (fun v28 h28 H locs hR hL hk => ?_)
                  refine lv_iload_n hC.1 hC.2.1 dX8_term_119 rfl (lv_at hl 1 rfl) ?_
                  refine kX3_timesRead hC hR hL hk ga1 mlX8_205 ⟨by decide, by decide⟩ hl.1 (Nat.le_of_ble_eq_true rfl) ⟨Nat.zero_le _, Nat.zero_le _⟩ dX8_term_120 (fun v29 H locs hR hL gv29 hk => ?_)
                  cases hk
                  exact tw_iret hC hR hL gv29 rfl rfl dX8_term_123
                · rw [if_neg q30] at hk
                  by_cases q33 : a2 = 7
                  · rw [if_pos q33] at hk
                    refine tw_tsIn (tgt := 124) hC 7 q33 (tw_rgL rfl) dX8_term_17 (by decide) (by decide) rfl (by decide) ?_
                    refine lv_aload_n hC.1 hC.2.1 dX8_term_124 rfl (lv_at hl 0 rfl) ?_
                    refine tw_getR hC hR hk flX8_10 dX8_term_125 (fun r31 hk => ?_)
                    refine lv_iload_n hC.1 hC.2.1 dX8_term_128 rfl (lv_at hl 1 rfl) ?_
                    refine kX4_occurrences hC hR hL hk ga1 mlX8_208 ⟨by decide, by decide⟩ hl.1 (Nat.le_of_ble_eq_true rfl) ⟨Nat.zero_le _, Nat.zero_le _⟩ dX8_term_129 (fun v32 H locs hR hL gv32 hk => ?_)
                    cases hk
                    exact tw_iret hC hR hL gv32 rfl rfl dX8_term_132
                  · rw [if_neg q33] at hk
                    by_cases q36 : a2 = 8
                    · rw [if_pos q36] at hk
                      refine tw_tsIn (tgt := 133) hC 8 q36 (tw_rgL rfl) dX8_term_17 (by decide) (by decide) rfl (by decide) ?_
                      refine lv_aload_n hC.1 hC.2.1 dX8_term_133 rfl (lv_at hl 0 rfl) ?_
                      refine kX8_readNow hC hR hL hk mlX8_90 ⟨by decide, by decide⟩ hl.1 (Nat.le_of_ble_eq_true rfl) ⟨Nat.zero_le _, Nat.zero_le _⟩ dX8_term_134 (fun v34 h34 H locs hR hL hk => ?_)
                      refine lv_iload_n hC.1 hC.2.1 dX8_term_137 rfl (lv_at hl 1 rfl) ?_
                      refine kX3_marksOf hC hR hL hk ga1 mlX8_211 ⟨by decide, by decide⟩ hl.1 (Nat.le_of_ble_eq_true rfl) ⟨Nat.zero_le _, Nat.zero_le _⟩ dX8_term_138 (fun v35 H locs hR hL gv35 hk => ?_)
                      cases hk
                      exact tw_iret hC hR hL gv35 rfl rfl dX8_term_141
                    · rw [if_neg q36] at hk
                      refine tw_tsOut (tgt := 142) hC ga2 dX8_term_17 (by omega) (by decide) ?_
                      refine lv_iconst (v := tw_I (-1)) hC.1 hC.2.1 dX8_term_142 rfl ?_
                      cases hk
                      exact tw_iret hC hR hL ((tw_rgL rfl)) rfl rfl dX8_term_143
set_option maxRecDepth 100000 in
theorem kX8_term {l : Launch} {p : Program} {e : Env} {R : Room} {s : State} {m : MethodId} {args : Array Value} {below : List Frame} {meth : Method} {c : Code} {H : Heap} {locs : List Loc} {cells slots : Nat} {Q : State → Prop} {cc : ByteArray} {pc nL idx : Nat} {ls : Array Slot} {rest : List Value} {G : tw_G} {h : tm_H} {own : String} {ret : Option FieldType} {α : Type} {x : α} {sz : Nat} {this : Nat} {a1 : Int} {a2 : Int} (hC : tw_C G p s m args meth c own cc nL ret) (hR : tw_Rel G sz h H) (hL : tw_L G locs) {F : Int × tm_H → Option α} (hk : (fX8_term this a1 a2 h).bind F = some x) (ga1 : tm_rg a1) (ga2 : tm_rg a2) (hl : tw_mL own idx yX8_term) (hRm : rmX8_term.frames + 1 ≤ R.frames ∧ 8 + (3 + 11) + rmX8_term.locals ≤ R.locals) (hsz : ls.size = nL) (hW : (rest.map fun v => v.category).sum ≤ 8) (hf : cells + 0 ≤ R.cells ∧ slots + 0 ≤ R.slots) (hdg : decode cc pc = .ok (.invokevirtual idx, 3)) (kk : ∀ (r : Int) (h1 : tm_H) (H1 : Heap) (locs1 : List Loc), tw_Rel G sz h1 H1 → tw_L G locs1 → tm_rg r → F (r, h1) = some x → W p l e R s m args below meth c H1 locs1 (cells + 0) (slots + 0) Q (F0 m (pc + 3) ls (.int (tw_I r) :: rest))) : W p l e R s m args below meth c H locs cells slots Q (F0 m pc ls (.int (tw_I a2) :: .int (tw_I a1) :: .ref this :: rest)) := by
  obtain ⟨r, hr, hF⟩ := Option.bind_eq_some_iff.mp hk
  have ob : ∀ r, fX8_term this a1 a2 h = some r → tm_is h 8 this := fun r hr => by
    unfold fX8_term at hr
    exact (tm_th_is hr).1
  exact tw_backi (tw_runV hC hR (cX8_term_ok l G sz this a1 a2 ga1 ga2 h r hr) (n := 2) (As := [.int (tw_I a1), .int (tw_I a2)]) ⟨tw_in_TB 398 (by decide +kernel) rfl, tw_in_TB 9 (by decide +kernel) rfl, by decide +kernel⟩ (tw_in_TB 396 (by decide +kernel) rfl) (tw_in_TB 397 (by decide +kernel) rfl) hl ⟨rfl, rfl⟩ hRm (ob r hr) (T := TX8) (N := 6) rfl rfl hsz rfl hW hdg hf) hL (fun H1 locs1 a b g => kk r.1 r.2 H1 locs1 a b g hF)
def rmX8_firstUse : Room := { frames := 6, cells := 0, slots := 0, locals := 139 }
set_option maxRecDepth 100000 in
set_option maxHeartbeats 4000000 in
theorem cX8_firstUse_ok (l : Launch) (G : tw_G) (sz : Nat) (this : Nat) (a1 : Int) (a2 : Int) (ga1 : tm_rg a1) (ga2 : tm_rg a2) (h : tm_H) (out : Int × tm_H) (hk : fX8_firstUse this a1 a2 h = some out) : Met l yX8_firstUse (tw_WS yX8_firstUse cX8_firstUse 3 (some .int)) rmX8_firstUse (va_Pc [.ref this, .int (tw_I a1), .int (tw_I a2)] (tw_Pre G sz h)) (tw_Qi G sz out.1 out.2) 0 0 (tw_F G) := by
  refine tw_met (by decide +kernel) (Nat.le_of_ble_eq_true rfl) ?_
  intro p e s m args below meth c H ls hC hnm hR hl
  unfold fX8_firstUse at hk
  obtain ⟨hob, hk⟩ := tm_th_is hk
  have hl : lv_has ls 3 [(0, .ref this), (1, .int (tw_I a1)), (2, .int (tw_I a2))] := hl
  have hL : tw_L G [] := fun q z => by cases z
  generalize hlc : ([] : List Loc) = locs at hL ⊢
  refine lv_aload_n hC.1 hC.2.1 dX8_firstUse_0 rfl (lv_at hl 0 rfl) ?_
  refine tw_getR hC hR hk flX8_10 dX8_firstUse_1 (fun r1 hk => ?_)
  refine tw_getR hC hR hk flX8_102 dX8_firstUse_4 (fun r2 hk => ?_)
  refine lv_iload_n hC.1 hC.2.1 dX8_firstUse_7 rfl (lv_at hl 1 rfl) ?_
  refine kX5_has hC hR hL hk ga1 mlX8_113 ⟨by decide, by decide⟩ hl.1 (Nat.le_of_ble_eq_true rfl) ⟨Nat.zero_le _, Nat.zero_le _⟩ dX8_firstUse_8 (fun v3 H locs hR hL gv3 hk => ?_)
  refine tw_zeq (tgt := 28) hC hk gv3 dX8_firstUse_11 (by decide) (fun _ hk => ?_) (fun _ hk => ?_)
  · refine lv_iconst (v := tw_I (-1)) hC.1 hC.2.1 dX8_firstUse_28 rfl ?_
    cases hk
    exact tw_iret hC hR hL ((tw_rgL rfl)) rfl rfl dX8_firstUse_29
  · refine lv_aload_n hC.1 hC.2.1 dX8_firstUse_14 rfl (lv_at hl 0 rfl) ?_
    refine tw_getR hC hR hk flX8_10 dX8_firstUse_15 (fun r4 hk => ?_)
    refine tw_getR hC hR hk flX8_46 dX8_firstUse_18 (fun r5 hk => ?_)
    refine lv_iload_n hC.1 hC.2.1 dX8_firstUse_21 rfl (lv_at hl 2 rfl) ?_
    refine kX0_has hC hR hL hk ga2 mlX8_50 ⟨by decide, by decide⟩ hl.1 (Nat.le_of_ble_eq_true rfl) ⟨Nat.zero_le _, Nat.zero_le _⟩ dX8_firstUse_22 (fun v6 H locs hR hL gv6 hk => ?_)
    refine tw_zne (tgt := 30) hC hk gv6 dX8_firstUse_25 (by decide) (fun _ hk => ?_) (fun _ hk => ?_)
    · refine lv_iconst (v := tw_I (-1)) hC.1 hC.2.1 dX8_firstUse_28 rfl ?_
      cases hk
      exact tw_iret hC hR hL ((tw_rgL rfl)) rfl rfl dX8_firstUse_29
    · refine lv_aload_n hC.1 hC.2.1 dX8_firstUse_30 rfl (lv_at hl 0 rfl) ?_
      refine kX8_readNow hC hR hL hk mlX8_90 ⟨by decide, by decide⟩ hl.1 (Nat.le_of_ble_eq_true rfl) ⟨Nat.zero_le _, Nat.zero_le _⟩ dX8_firstUse_31 (fun v7 h7 H locs hR hL hk => ?_)
      refine lv_iload_n hC.1 hC.2.1 dX8_firstUse_34 rfl (lv_at hl 1 rfl) ?_
      refine lv_iload_n hC.1 hC.2.1 dX8_firstUse_35 rfl (lv_at hl 2 rfl) ?_
      refine kX3_firstPlace hC hR hL hk ga1 ga2 mlX8_214 ⟨by decide, by decide⟩ hl.1 (Nat.le_of_ble_eq_true rfl) ⟨Nat.zero_le _, Nat.zero_le _⟩ dX8_firstUse_36 (fun v8 H locs hR hL gv8 hk => ?_)
      cases hk
      exact tw_iret hC hR hL gv8 rfl rfl dX8_firstUse_39
set_option maxRecDepth 100000 in
theorem kX8_firstUse {l : Launch} {p : Program} {e : Env} {R : Room} {s : State} {m : MethodId} {args : Array Value} {below : List Frame} {meth : Method} {c : Code} {H : Heap} {locs : List Loc} {cells slots : Nat} {Q : State → Prop} {cc : ByteArray} {pc nL idx : Nat} {ls : Array Slot} {rest : List Value} {G : tw_G} {h : tm_H} {own : String} {ret : Option FieldType} {α : Type} {x : α} {sz : Nat} {this : Nat} {a1 : Int} {a2 : Int} (hC : tw_C G p s m args meth c own cc nL ret) (hR : tw_Rel G sz h H) (hL : tw_L G locs) {F : Int × tm_H → Option α} (hk : (fX8_firstUse this a1 a2 h).bind F = some x) (ga1 : tm_rg a1) (ga2 : tm_rg a2) (hl : tw_mL own idx yX8_firstUse) (hRm : rmX8_firstUse.frames + 1 ≤ R.frames ∧ 8 + (3 + 11) + rmX8_firstUse.locals ≤ R.locals) (hsz : ls.size = nL) (hW : (rest.map fun v => v.category).sum ≤ 8) (hf : cells + 0 ≤ R.cells ∧ slots + 0 ≤ R.slots) (hdg : decode cc pc = .ok (.invokevirtual idx, 3)) (kk : ∀ (r : Int) (h1 : tm_H) (H1 : Heap) (locs1 : List Loc), tw_Rel G sz h1 H1 → tw_L G locs1 → tm_rg r → F (r, h1) = some x → W p l e R s m args below meth c H1 locs1 (cells + 0) (slots + 0) Q (F0 m (pc + 3) ls (.int (tw_I r) :: rest))) : W p l e R s m args below meth c H locs cells slots Q (F0 m pc ls (.int (tw_I a2) :: .int (tw_I a1) :: .ref this :: rest)) := by
  obtain ⟨r, hr, hF⟩ := Option.bind_eq_some_iff.mp hk
  have ob : ∀ r, fX8_firstUse this a1 a2 h = some r → tm_is h 8 this := fun r hr => by
    unfold fX8_firstUse at hr
    exact (tm_th_is hr).1
  exact tw_backi (tw_runV hC hR (cX8_firstUse_ok l G sz this a1 a2 ga1 ga2 h r hr) (n := 2) (As := [.int (tw_I a1), .int (tw_I a2)]) ⟨tw_in_TB 582 (by decide +kernel) rfl, tw_in_TB 9 (by decide +kernel) rfl, by decide +kernel⟩ (tw_in_TB 580 (by decide +kernel) rfl) (tw_in_TB 581 (by decide +kernel) rfl) hl ⟨rfl, rfl⟩ hRm (ob r hr) (T := TX8) (N := 6) rfl rfl hsz rfl hW hdg hf) hL (fun H1 locs1 a b g => kk r.1 r.2 H1 locs1 a b g hF)
