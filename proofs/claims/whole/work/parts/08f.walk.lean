def rmX8_greediest : Room := { frames := 5, cells := 0, slots := 0, locals := 119 }
set_option maxRecDepth 100000 in
set_option maxHeartbeats 4000000 in
theorem sX8_greediest_S0 {l : Launch} {p : Program} {e : Env} {s : State} {m : MethodId} {args : Array Value} {below : List Frame} {meth : Method} {c : Code} (G : tw_G) (sz : Nat) (hC : tw_C G p s m args meth c RX8 cX8_greediest 4 (some .int)) (this : Nat)  : ∀ (k : Nat) (st : (Int × Int × Int × tm_H) ⊕ (Int × Int × Int × tm_H)) (out : Int × tm_H), tm_wit (fX8_greediest_S0 this) k st = some out → match st with
    | .inl ((x1, x2, x3, h)) => ∀ (H : Heap) (locs : List Loc) (ls : Array Slot), tm_rg x1 → tm_rg x2 → tm_rg x3 → tw_Rel G sz h H → tw_L G locs → lv_has ls 4 [(0, .ref this), (1, .int (tw_I x1)), (2, .int (tw_I x2)), (3, .int (tw_I x3))] → W p l e rmX8_greediest s m args below meth c H locs 0 0 (MQ below (tw_Qi G sz out.1 out.2) args s 0 0 (tw_F G)) (F0 m 7 ls [])
    | .inr ((x1, x2, x3, h)) => ∀ (H : Heap) (locs : List Loc) (ls : Array Slot), tm_rg x1 → tm_rg x2 → tm_rg x3 → tw_Rel G sz h H → tw_L G locs → lv_has ls 4 [(0, .ref this), (1, .int (tw_I x1)), (2, .int (tw_I x2)), (3, .int (tw_I x3))] → W p l e rmX8_greediest s m args below meth c H locs 0 0 (MQ below (tw_Qi G sz out.1 out.2) args s 0 0 (tw_F G)) (F0 m 75 ls []) := by
  intro k
  induction k with
  | zero =>
    intro st out hk
    exact absurd hk (by unfold tm_wit; exact fun z => by cases z)
  | succ k ih =>
    intro st out hk
    obtain ⟨X, hk, hf⟩ := tm_wit_succ hk
    obtain ⟨x1, x2, x3, h⟩ | ⟨x1, x2, x3, h⟩ := st
    · intro H locs ls gx1 gx2 gx3 hR hL hl
      dsimp only [fX8_greediest_S0] at hk
      refine lv_iload_n hC.1 hC.2.1 dX8_greediest_7 rfl (lv_at hl 3 rfl) ?_
      refine lv_aload_n hC.1 hC.2.1 dX8_greediest_8 rfl (lv_at hl 0 rfl) ?_
      refine tw_getR hC hR hk flX8_10 dX8_greediest_9 (fun r1 hk => ?_)
      refine tw_getR hC hR hk flX8_102 dX8_greediest_12 (fun r2 hk => ?_)
      refine kX5_size hC hR hL hk mlX8_106 ⟨by decide, by decide⟩ hl.1 (Nat.le_of_ble_eq_true rfl) ⟨Nat.zero_le _, Nat.zero_le _⟩ dX8_greediest_15 (fun v3 H locs hR hL gv3 hk => ?_)
      refine tw_cge (tgt := 81) hC hk gx3 gv3 dX8_greediest_18 (by decide) (fun _ hk => ?_) (fun _ hk => ?_)
      · refine lv_aload_n hC.1 hC.2.1 dX8_greediest_21 rfl (lv_at hl 0 rfl) ?_
        refine tw_getR hC hR hk flX8_16 dX8_greediest_22 (fun r4 hk => ?_)
        refine lv_aload_n hC.1 hC.2.1 dX8_greediest_25 rfl (lv_at hl 0 rfl) ?_
        refine tw_getR hC hR hk flX8_10 dX8_greediest_26 (fun r5 hk => ?_)
        refine kX4_copyFrom hC hR hL hk mlX8_169 ⟨by decide, by decide⟩ hl.1 (Nat.le_of_ble_eq_true rfl) ⟨Nat.zero_le _, Nat.zero_le _⟩ dX8_greediest_29 (fun h6 H locs hR hL hk => ?_)
        refine lv_aload_n hC.1 hC.2.1 dX8_greediest_32 rfl (lv_at hl 0 rfl) ?_
        refine tw_getR hC hR hk flX8_16 dX8_greediest_33 (fun r7 hk => ?_)
        refine tw_getR hC hR hk flX8_102 dX8_greediest_36 (fun r8 hk => ?_)
        refine lv_iload_n hC.1 hC.2.1 dX8_greediest_39 rfl (lv_at hl 3 rfl) ?_
        refine kX5_drop hC hR hL hk gx3 mlX8_114 ⟨by decide, by decide⟩ hl.1 (Nat.le_of_ble_eq_true rfl) ⟨Nat.zero_le _, Nat.zero_le _⟩ dX8_greediest_40 (fun h9 H locs hR hL hk => ?_)
        refine lv_aload_n hC.1 hC.2.1 dX8_greediest_43 rfl (lv_at hl 0 rfl) ?_
        refine tw_getR hC hR hk flX8_36 dX8_greediest_44 (fun r10 hk => ?_)
        refine lv_aload_n hC.1 hC.2.1 dX8_greediest_47 rfl (lv_at hl 0 rfl) ?_
        refine tw_getR hC hR hk flX8_16 dX8_greediest_48 (fun r11 hk => ?_)
        refine kX3_read hC hR hL hk mlX8_227 ⟨by decide, by decide⟩ hl.1 (Nat.le_of_ble_eq_true rfl) ⟨Nat.zero_le _, Nat.zero_le _⟩ dX8_greediest_51 (fun h12 H locs hR hL hk => ?_)
        refine lv_aload_n hC.1 hC.2.1 dX8_greediest_54 rfl (lv_at hl 0 rfl) ?_
        refine tw_getR hC hR hk flX8_36 dX8_greediest_55 (fun r13 hk => ?_)
        refine kX3_markCount hC hR hL hk mlX8_94 ⟨by decide, by decide⟩ hl.1 (Nat.le_of_ble_eq_true rfl) ⟨Nat.zero_le _, Nat.zero_le _⟩ dX8_greediest_58 (fun v14 H locs hR hL gv14 hk => ?_)
        refine lv_iload_n hC.1 hC.2.1 dX8_greediest_61 rfl (lv_at hl 2 rfl) ?_
        refine tw_cle (tgt := 75) hC hk gv14 gx2 dX8_greediest_62 (by decide) (fun _ hk => ?_) (fun _ hk => ?_)
        · refine lv_aload_n hC.1 hC.2.1 dX8_greediest_65 rfl (lv_at hl 0 rfl) ?_
          refine tw_getR hC hR hk flX8_36 dX8_greediest_66 (fun r15 hk => ?_)
          refine kX3_markCount hC hR hL hk mlX8_94 ⟨by decide, by decide⟩ hl.1 (Nat.le_of_ble_eq_true rfl) ⟨Nat.zero_le _, Nat.zero_le _⟩ dX8_greediest_69 (fun v16 H locs hR hL gv16 hk => ?_)
          refine lv_istore_n (lv' := [(2, .int (tw_I v16)), (0, .ref this), (1, .int (tw_I x1)), (3, .int (tw_I x3))]) hC.1 hC.2.1 dX8_greediest_72 rfl hl (by decide) rfl (fun ls hl => ?_)
          refine lv_iload_n hC.1 hC.2.1 dX8_greediest_73 rfl (lv_at hl 3 rfl) ?_
          refine lv_istore_n (lv' := [(1, .int (tw_I x3)), (2, .int (tw_I v16)), (0, .ref this), (3, .int (tw_I x3))]) hC.1 hC.2.1 dX8_greediest_74 rfl hl (by decide) rfl (fun ls hl => ?_)
          cases hk
          exact ih _ out hf H locs _ gx3 gv16 gx3 hR hL (lv_sub hl [2, 0, 1, 3] rfl)
        · cases hk
          exact ih _ out hf H locs _ gx1 gx2 gx3 hR hL (lv_sub hl [0, 1, 2, 3] rfl)
      · refine lv_iload_n hC.1 hC.2.1 dX8_greediest_81 rfl (lv_at hl 1 rfl) ?_
        cases hk
        cases hf
        exact tw_iret hC hR hL gx1 rfl rfl dX8_greediest_82
    · intro H locs ls gx1 gx2 gx3 hR hL hl
      dsimp only [fX8_greediest_S0] at hk
      refine tw_iinc (lv' := [(3, .int (tw_I (tm_wr (x3 + 1)))), (0, .ref this), (1, .int (tw_I x1)), (2, .int (tw_I x2))]) hC dX8_greediest_75 hl (k := 3) rfl (by decide) rfl (fun ls hl => ?_)
      refine lv_goto (tgt := 7) hC.1 hC.2.1 dX8_greediest_78 (by decide) ?_
      cases hk
      exact ih _ out hf H locs _ gx1 gx2 ((tm_wr_rg _)) hR hL (lv_sub hl [1, 2, 3, 0] rfl)
theorem sX8_greediest_L7 {l : Launch} {p : Program} {e : Env} {s : State} {m : MethodId} {args : Array Value} {below : List Frame} {meth : Method} {c : Code} (G : tw_G) (sz : Nat) (hC : tw_C G p s m args meth c RX8 cX8_greediest 4 (some .int)) (this : Nat)  (x1 : Int) (x2 : Int) (x3 : Int) (h : tm_H) (gx1 : tm_rg x1) (gx2 : tm_rg x2) (gx3 : tm_rg x3) (out : Int × tm_H) (hk : fX8_greediest_L7 this x1 x2 x3 h = some out) (H : Heap) (locs : List Loc) (ls : Array Slot) (hR : tw_Rel G sz h H) (hL : tw_L G locs) (hl : lv_has ls 4 [(0, .ref this), (1, .int (tw_I x1)), (2, .int (tw_I x2)), (3, .int (tw_I x3))]) : W p l e rmX8_greediest s m args below meth c H locs 0 0 (MQ below (tw_Qi G sz out.1 out.2) args s 0 0 (tw_F G)) (F0 m 7 ls []) := by
  obtain ⟨k, hk⟩ := tm_wl_iff.mp hk
  exact sX8_greediest_S0 G sz hC this  k (.inl ((x1, x2, x3, h))) out hk H locs ls gx1 gx2 gx3 hR hL hl
theorem sX8_greediest_L75 {l : Launch} {p : Program} {e : Env} {s : State} {m : MethodId} {args : Array Value} {below : List Frame} {meth : Method} {c : Code} (G : tw_G) (sz : Nat) (hC : tw_C G p s m args meth c RX8 cX8_greediest 4 (some .int)) (this : Nat)  (x1 : Int) (x2 : Int) (x3 : Int) (h : tm_H) (gx1 : tm_rg x1) (gx2 : tm_rg x2) (gx3 : tm_rg x3) (out : Int × tm_H) (hk : fX8_greediest_L75 this x1 x2 x3 h = some out) (H : Heap) (locs : List Loc) (ls : Array Slot) (hR : tw_Rel G sz h H) (hL : tw_L G locs) (hl : lv_has ls 4 [(0, .ref this), (1, .int (tw_I x1)), (2, .int (tw_I x2)), (3, .int (tw_I x3))]) : W p l e rmX8_greediest s m args below meth c H locs 0 0 (MQ below (tw_Qi G sz out.1 out.2) args s 0 0 (tw_F G)) (F0 m 75 ls []) := by
  obtain ⟨k, hk⟩ := tm_wl_iff.mp hk
  exact sX8_greediest_S0 G sz hC this  k (.inr ((x1, x2, x3, h))) out hk H locs ls gx1 gx2 gx3 hR hL hl
set_option maxRecDepth 100000 in
set_option maxHeartbeats 4000000 in
theorem cX8_greediest_ok (l : Launch) (G : tw_G) (sz : Nat) (this : Nat)  (h : tm_H) (out : Int × tm_H) (hk : fX8_greediest this h = some out) : Met l yX8_greediest (tw_WS yX8_greediest cX8_greediest 4 (some .int)) rmX8_greediest (va_Pc [.ref this] (tw_Pre G sz h)) (tw_Qi G sz out.1 out.2) 0 0 (tw_F G) := by
  refine tw_met (by decide +kernel) (Nat.le_of_ble_eq_true rfl) ?_
  intro p e s m args below meth c H ls hC hnm hR hl
  unfold fX8_greediest at hk
  obtain ⟨hob, hk⟩ := tm_th_is hk
  have hl : lv_has ls 4 [(0, .ref this)] := hl
  have hL : tw_L G [] := fun q z => by cases z
  generalize hlc : ([] : List Loc) = locs at hL ⊢
  refine lv_bipush (v := tw_I (-99)) hC.1 hC.2.1 dX8_greediest_0 (by decide) ?_
  refine lv_istore_n (lv' := [(1, .int (tw_I ((-99)))), (0, .ref this)]) hC.1 hC.2.1 dX8_greediest_2 rfl hl (by decide) rfl (fun ls hl => ?_)
  refine lv_iconst (v := tw_I (-1)) hC.1 hC.2.1 dX8_greediest_3 rfl ?_
  refine lv_istore_n (lv' := [(2, .int (tw_I ((-1)))), (1, .int (tw_I ((-99)))), (0, .ref this)]) hC.1 hC.2.1 dX8_greediest_4 rfl hl (by decide) rfl (fun ls hl => ?_)
  refine lv_iconst (v := tw_I 0) hC.1 hC.2.1 dX8_greediest_5 rfl ?_
  refine lv_istore_n (lv' := [(3, .int (tw_I 0)), (2, .int (tw_I ((-1)))), (1, .int (tw_I ((-99)))), (0, .ref this)]) hC.1 hC.2.1 dX8_greediest_6 rfl hl (by decide) rfl (fun ls hl => ?_)
  exact sX8_greediest_L7 G sz hC this ((-99)) ((-1)) 0 h ((tw_rgL rfl)) ((tw_rgL rfl)) ((tw_rgL rfl)) out hk H locs _ hR hL (lv_sub hl [3, 2, 1, 0] rfl)
set_option maxRecDepth 100000 in
theorem kX8_greediest {l : Launch} {p : Program} {e : Env} {R : Room} {s : State} {m : MethodId} {args : Array Value} {below : List Frame} {meth : Method} {c : Code} {H : Heap} {locs : List Loc} {cells slots : Nat} {Q : State → Prop} {cc : ByteArray} {pc nL idx : Nat} {ls : Array Slot} {rest : List Value} {G : tw_G} {h : tm_H} {own : String} {ret : Option FieldType} {α : Type} {x : α} {sz : Nat} {this : Nat} (hC : tw_C G p s m args meth c own cc nL ret) (hR : tw_Rel G sz h H) (hL : tw_L G locs) {F : Int × tm_H → Option α} (hk : (fX8_greediest this h).bind F = some x)  (hl : tw_mL own idx yX8_greediest) (hRm : rmX8_greediest.frames + 1 ≤ R.frames ∧ 8 + (4 + 11) + rmX8_greediest.locals ≤ R.locals) (hsz : ls.size = nL) (hW : (rest.map fun v => v.category).sum ≤ 8) (hf : cells + 0 ≤ R.cells ∧ slots + 0 ≤ R.slots) (hdg : decode cc pc = .ok (.invokevirtual idx, 3)) (kk : ∀ (r : Int) (h1 : tm_H) (H1 : Heap) (locs1 : List Loc), tw_Rel G sz h1 H1 → tw_L G locs1 → tm_rg r → F (r, h1) = some x → W p l e R s m args below meth c H1 locs1 (cells + 0) (slots + 0) Q (F0 m (pc + 3) ls (.int (tw_I r) :: rest))) : W p l e R s m args below meth c H locs cells slots Q (F0 m pc ls (.ref this :: rest)) := by
  obtain ⟨r, hr, hF⟩ := Option.bind_eq_some_iff.mp hk
  have ob : ∀ r, fX8_greediest this h = some r → tm_is h 8 this := fun r hr => by
    unfold fX8_greediest at hr
    exact (tm_th_is hr).1
  exact tw_backi (tw_runV hC hR (cX8_greediest_ok l G sz this  h r hr) (n := 0) (As := []) ⟨tw_in_TB 786 (by decide +kernel) rfl, tw_in_TB 53 (by decide +kernel) rfl, by decide +kernel⟩ (tw_in_TB 784 (by decide +kernel) rfl) (tw_in_TB 785 (by decide +kernel) rfl) hl ⟨rfl, rfl⟩ hRm (ob r hr) (T := TX8) (N := 6) rfl rfl hsz rfl hW hdg hf) hL (fun H1 locs1 a b g => kk r.1 r.2 H1 locs1 a b g hF)
def rmX9_init : Room := { frames := 1, cells := 10, slots := 6903, locals := 20 }
set_option maxRecDepth 100000 in
set_option maxHeartbeats 4000000 in
theorem sX9_init_S0 {l : Launch} {p : Program} {e : Env} {s : State} {m : MethodId} {args : Array Value} {below : List Frame} {meth : Method} {c : Code} (G : tw_G) (hC : tw_C G p s m args meth c RX9 cX9_init 2 none) (hnm : meth.name = "<init>") (this : Nat) (n : Nat)  : ∀ (k : Nat) (st : (Int × tm_H)) (out : tm_H × Nat), tm_wit (fX9_init_S0 this n) k st = some out → match st with
    | (x1, h) => ∀ (H : Heap) (locs : List Loc) (ls : Array Slot), tm_rg x1 → tw_Rel G (n + 10) h H → tw_L G locs → lv_has ls 2 [(0, .ref this), (1, .int (tw_I x1))] → W p l e rmX9_init s m args below meth c H locs 10 6903 (MQ below (tw_Qv G out.2 out.1) args s 10 6903 (tw_F G)) (F0 m 121 ls []) := by
  intro k
  induction k with
  | zero =>
    intro st out hk
    exact absurd hk (by unfold tm_wit; exact fun z => by cases z)
  | succ k ih =>
    intro st out hk
    obtain ⟨X, hk, hf⟩ := tm_wit_succ hk
    obtain ⟨x1, h⟩ := st
    intro H locs ls gx1 hR hL hl
    dsimp only [fX9_init_S0] at hk
    refine lv_iload_n hC.1 hC.2.1 dX9_init_121 rfl (lv_at hl 1 rfl) ?_
    refine lv_bipush (v := tw_I 26) hC.1 hC.2.1 dX9_init_122 (by decide) ?_
    refine tw_cge (tgt := 146) hC hk gx1 ((tw_rgL rfl)) dX9_init_124 (by decide) (fun _ hk => ?_) (fun _ hk => ?_)
    · refine lv_aload_n hC.1 hC.2.1 dX9_init_127 rfl (lv_at hl 0 rfl) ?_
      refine tw_getR hC hR hk flX9_22 dX9_init_128 (fun r25 hk => ?_)
      refine lv_bipush (v := tw_I 8) hC.1 hC.2.1 dX9_init_131 (by decide) ?_
      refine lv_iload_n hC.1 hC.2.1 dX9_init_133 rfl (lv_at hl 1 rfl) ?_
      refine tw_imul hC dX9_init_134 ?_
      refine lv_bipush (v := tw_I 97) hC.1 hC.2.1 dX9_init_135 (by decide) ?_
      refine lv_iload_n hC.1 hC.2.1 dX9_init_137 rfl (lv_at hl 1 rfl) ?_
      refine tw_iadd hC dX9_init_138 ?_
      refine tw_iast hC hR hL ((tm_wr_rg _)) hk dX9_init_139 (fun h26 H locs hR hL hk => ?_)
      refine tw_iinc (lv' := [(1, .int (tw_I (tm_wr (x1 + 1)))), (0, .ref this)]) hC dX9_init_140 hl (k := 1) rfl (by decide) rfl (fun ls hl => ?_)
      refine lv_goto (tgt := 121) hC.1 hC.2.1 dX9_init_143 (by decide) ?_
      cases hk
      exact ih _ out hf H locs _ ((tm_wr_rg _)) hR hL (lv_sub hl [1, 0] rfl)
    · cases hk
      cases hf
      exact tw_vret hC hR hL rfl dX9_init_146
theorem sX9_init_L121 {l : Launch} {p : Program} {e : Env} {s : State} {m : MethodId} {args : Array Value} {below : List Frame} {meth : Method} {c : Code} (G : tw_G) (hC : tw_C G p s m args meth c RX9 cX9_init 2 none) (hnm : meth.name = "<init>") (this : Nat) (n : Nat)  (x1 : Int) (h : tm_H) (gx1 : tm_rg x1) (out : tm_H × Nat) (hk : fX9_init_L121 this n x1 h = some out) (H : Heap) (locs : List Loc) (ls : Array Slot) (hR : tw_Rel G (n + 10) h H) (hL : tw_L G locs) (hl : lv_has ls 2 [(0, .ref this), (1, .int (tw_I x1))]) : W p l e rmX9_init s m args below meth c H locs 10 6903 (MQ below (tw_Qv G out.2 out.1) args s 10 6903 (tw_F G)) (F0 m 121 ls []) := by
  obtain ⟨k, hk⟩ := tm_wl_iff.mp hk
  exact sX9_init_S0 G hC hnm this n  k ((x1, h)) out hk H locs ls gx1 hR hL hl
set_option maxRecDepth 100000 in
set_option maxHeartbeats 4000000 in
theorem sX9_init_S1 {l : Launch} {p : Program} {e : Env} {s : State} {m : MethodId} {args : Array Value} {below : List Frame} {meth : Method} {c : Code} (G : tw_G) (hC : tw_C G p s m args meth c RX9 cX9_init 2 none) (hnm : meth.name = "<init>") (this : Nat) (n : Nat)  : ∀ (k : Nat) (st : (Int × tm_H)) (out : tm_H × Nat), tm_wit (fX9_init_S1 this n) k st = some out → match st with
    | (x1, h) => ∀ (H : Heap) (locs : List Loc) (ls : Array Slot), tm_rg x1 → tw_Rel G (n + 10) h H → tw_L G locs → lv_has ls 2 [(0, .ref this), (1, .int (tw_I x1))] → W p l e rmX9_init s m args below meth c H locs 10 6903 (MQ below (tw_Qv G out.2 out.1) args s 10 6903 (tw_F G)) (F0 m 98 ls []) := by
  intro k
  induction k with
  | zero =>
    intro st out hk
    exact absurd hk (by unfold tm_wit; exact fun z => by cases z)
  | succ k ih =>
    intro st out hk
    obtain ⟨X, hk, hf⟩ := tm_wit_succ hk
    obtain ⟨x1, h⟩ := st
    intro H locs ls gx1 hR hL hl
    dsimp only [fX9_init_S1] at hk
    refine lv_iload_n hC.1 hC.2.1 dX9_init_98 rfl (lv_at hl 1 rfl) ?_
    refine lv_bipush (v := tw_I 60) hC.1 hC.2.1 dX9_init_99 (by decide) ?_
    refine tw_cge (tgt := 119) hC hk gx1 ((tw_rgL rfl)) dX9_init_101 (by decide) (fun _ hk => ?_) (fun _ hk => ?_)
    · refine lv_aload_n hC.1 hC.2.1 dX9_init_104 rfl (lv_at hl 0 rfl) ?_
      refine tw_getR hC hR hk flX9_7 dX9_init_105 (fun r23 hk => ?_)
      refine lv_iconst (v := tw_I 1) hC.1 hC.2.1 dX9_init_108 rfl ?_
      refine lv_iload_n hC.1 hC.2.1 dX9_init_109 rfl (lv_at hl 1 rfl) ?_
      refine tw_iadd hC dX9_init_110 ?_
      refine lv_iload_n hC.1 hC.2.1 dX9_init_111 rfl (lv_at hl 1 rfl) ?_
      refine tw_iast hC hR hL gx1 hk dX9_init_112 (fun h24 H locs hR hL hk => ?_)
      refine tw_iinc (lv' := [(1, .int (tw_I (tm_wr (x1 + 1)))), (0, .ref this)]) hC dX9_init_113 hl (k := 1) rfl (by decide) rfl (fun ls hl => ?_)
      refine lv_goto (tgt := 98) hC.1 hC.2.1 dX9_init_116 (by decide) ?_
      cases hk
      exact ih _ out hf H locs _ ((tm_wr_rg _)) hR hL (lv_sub hl [1, 0] rfl)
    · refine lv_iconst (v := tw_I 0) hC.1 hC.2.1 dX9_init_119 rfl ?_
      refine lv_istore_n (lv' := [(1, .int (tw_I 0)), (0, .ref this)]) hC.1 hC.2.1 dX9_init_120 rfl hl (by decide) rfl (fun ls hl => ?_)
      obtain ⟨r, hk2, hX⟩ := tm_out_some hk
      rw [hX] at hf
      have hr : r = out := Option.some.inj hf
      rw [hr] at hk2
      exact sX9_init_L121 G hC hnm this n 0 h ((tw_rgL rfl)) out hk2 H locs _ hR hL (lv_sub hl [1, 0] rfl)
theorem sX9_init_L98 {l : Launch} {p : Program} {e : Env} {s : State} {m : MethodId} {args : Array Value} {below : List Frame} {meth : Method} {c : Code} (G : tw_G) (hC : tw_C G p s m args meth c RX9 cX9_init 2 none) (hnm : meth.name = "<init>") (this : Nat) (n : Nat)  (x1 : Int) (h : tm_H) (gx1 : tm_rg x1) (out : tm_H × Nat) (hk : fX9_init_L98 this n x1 h = some out) (H : Heap) (locs : List Loc) (ls : Array Slot) (hR : tw_Rel G (n + 10) h H) (hL : tw_L G locs) (hl : lv_has ls 2 [(0, .ref this), (1, .int (tw_I x1))]) : W p l e rmX9_init s m args below meth c H locs 10 6903 (MQ below (tw_Qv G out.2 out.1) args s 10 6903 (tw_F G)) (F0 m 98 ls []) := by
  obtain ⟨k, hk⟩ := tm_wl_iff.mp hk
  exact sX9_init_S1 G hC hnm this n  k ((x1, h)) out hk H locs ls gx1 hR hL hl
set_option maxRecDepth 100000 in
set_option maxHeartbeats 4000000 in
theorem cX9_init_ok (l : Launch) (G : tw_G) (n : Nat) (this : Nat)  (h : tm_H) (out : tm_H × Nat) (hk : fX9_init this h n = some out) : Met l yX9_init (tw_WS yX9_init cX9_init 2 none) rmX9_init (va_Pc [.ref this] (tw_Pre G n h)) (tw_Qv G out.2 out.1) 10 6903 (tw_F G) := by
  refine tw_met (by decide +kernel) (Nat.le_of_ble_eq_true rfl) ?_
  intro p e s m args below meth c H ls hC hnm hR hl
  unfold fX9_init at hk
  obtain ⟨hob, hk⟩ := tm_th_is hk
  have hl : lv_has ls 2 [(0, .ref this)] := hl
  have hL : tw_L G [] := fun q z => by cases z
  generalize hlc : ([] : List Loc) = locs at hL ⊢
  refine lv_aload_n hC.1 hC.2.1 dX9_init_0 rfl (lv_at hl 0 rfl) ?_
  refine tw_objInit hC (tw_in_TB 792 (by decide +kernel) rfl) tw_oiI tw_oiC hl.1 dX9_init_1 (by decide) (Nat.le_of_ble_eq_true rfl) ?_
  refine lv_aload_n hC.1 hC.2.1 dX9_init_4 rfl (lv_at hl 0 rfl) ?_
  refine lv_sipush (v := tw_I 874) hC.1 hC.2.1 dX9_init_5 (by decide) ?_
  refine tw_nai hC hR tw_ari 874 (by decide) hk ⟨by decide, by decide⟩ dX9_init_8 (fun h1 H hR hk => ?_)
  refine tw_putR hC hR hL hnm rfl rfl hk fpX9_7 dX9_init_10 (fun h2 H locs hR hL hk => ?_)
  refine lv_aload_n hC.1 hC.2.1 dX9_init_13 rfl (lv_at hl 0 rfl) ?_
  refine lv_sipush (v := tw_I 4370) hC.1 hC.2.1 dX9_init_14 (by decide) ?_
  refine tw_nai hC hR tw_ari 4370 (by decide) hk ⟨by decide, by decide⟩ dX9_init_17 (fun h3 H hR hk => ?_)
  refine tw_putR hC hR hL hnm rfl rfl hk fpX9_13 dX9_init_19 (fun h4 H locs hR hL hk => ?_)
  refine lv_aload_n hC.1 hC.2.1 dX9_init_22 rfl (lv_at hl 0 rfl) ?_
  refine lv_sipush (v := tw_I 874) hC.1 hC.2.1 dX9_init_23 (by decide) ?_
  refine tw_nai hC hR tw_ari 874 (by decide) hk ⟨by decide, by decide⟩ dX9_init_26 (fun h5 H hR hk => ?_)
  refine tw_putR hC hR hL hnm rfl rfl hk fpX9_16 dX9_init_28 (fun h6 H locs hR hL hk => ?_)
  refine lv_aload_n hC.1 hC.2.1 dX9_init_31 rfl (lv_at hl 0 rfl) ?_
  refine lv_sipush (v := tw_I 140) hC.1 hC.2.1 dX9_init_32 (by decide) ?_
  refine tw_nai hC hR tw_ari 140 (by decide) hk ⟨by decide, by decide⟩ dX9_init_35 (fun h7 H hR hk => ?_)
  refine tw_putR hC hR hL hnm rfl rfl hk fpX9_19 dX9_init_37 (fun h8 H locs hR hL hk => ?_)
  refine lv_aload_n hC.1 hC.2.1 dX9_init_40 rfl (lv_at hl 0 rfl) ?_
  refine lv_sipush (v := tw_I 480) hC.1 hC.2.1 dX9_init_41 (by decide) ?_
  refine tw_nai hC hR tw_ari 480 (by decide) hk ⟨by decide, by decide⟩ dX9_init_44 (fun h9 H hR hk => ?_)
  refine tw_putR hC hR hL hnm rfl rfl hk fpX9_22 dX9_init_46 (fun h10 H locs hR hL hk => ?_)
  refine lv_aload_n hC.1 hC.2.1 dX9_init_49 rfl (lv_at hl 0 rfl) ?_
  refine lv_iconst (v := tw_I 5) hC.1 hC.2.1 dX9_init_50 rfl ?_
  refine tw_nai hC hR tw_ari 5 (by decide) hk ⟨by decide, by decide⟩ dX9_init_51 (fun h11 H hR hk => ?_)
  refine tw_putR hC hR hL hnm rfl rfl hk fpX9_25 dX9_init_53 (fun h12 H locs hR hL hk => ?_)
  refine lv_aload_n hC.1 hC.2.1 dX9_init_56 rfl (lv_at hl 0 rfl) ?_
  refine lv_bipush (v := tw_I 40) hC.1 hC.2.1 dX9_init_57 (by decide) ?_
  refine tw_nai hC hR tw_ari 40 (by decide) hk ⟨by decide, by decide⟩ dX9_init_59 (fun h13 H hR hk => ?_)
  refine tw_putR hC hR hL hnm rfl rfl hk fpX9_28 dX9_init_61 (fun h14 H locs hR hL hk => ?_)
  refine lv_aload_n hC.1 hC.2.1 dX9_init_64 rfl (lv_at hl 0 rfl) ?_
  refine lv_bipush (v := tw_I 40) hC.1 hC.2.1 dX9_init_65 (by decide) ?_
  refine tw_nai hC hR tw_ari 40 (by decide) hk ⟨by decide, by decide⟩ dX9_init_67 (fun h15 H hR hk => ?_)
  refine tw_putR hC hR hL hnm rfl rfl hk fpX9_31 dX9_init_69 (fun h16 H locs hR hL hk => ?_)
  refine lv_aload_n hC.1 hC.2.1 dX9_init_72 rfl (lv_at hl 0 rfl) ?_
  refine lv_bipush (v := tw_I 40) hC.1 hC.2.1 dX9_init_73 (by decide) ?_
  refine tw_nab hC hR tw_arb 40 (by decide) hk ⟨by decide, by decide⟩ dX9_init_75 (fun h17 H hR hk => ?_)
  refine tw_putR hC hR hL hnm rfl rfl hk fpX9_34 dX9_init_77 (fun h18 H locs hR hL hk => ?_)
  refine lv_aload_n hC.1 hC.2.1 dX9_init_80 rfl (lv_at hl 0 rfl) ?_
  refine lv_bipush (v := tw_I 40) hC.1 hC.2.1 dX9_init_81 (by decide) ?_
  refine tw_nai hC hR tw_ari 40 (by decide) hk ⟨by decide, by decide⟩ dX9_init_83 (fun h19 H hR hk => ?_)
  refine tw_putR hC hR hL hnm rfl rfl hk fpX9_38 dX9_init_85 (fun h20 H locs hR hL hk => ?_)
  refine lv_aload_n hC.1 hC.2.1 dX9_init_88 rfl (lv_at hl 0 rfl) ?_
  refine tw_getR hC hR hk flX9_7 dX9_init_89 (fun r21 hk => ?_)
  refine lv_iconst (v := tw_I 0) hC.1 hC.2.1 dX9_init_92 rfl ?_
  refine lv_bipush (v := tw_I 26) hC.1 hC.2.1 dX9_init_93 (by decide) ?_
  refine tw_iast hC hR hL ((tw_rgL rfl)) hk dX9_init_95 (fun h22 H locs hR hL hk => ?_)
  refine lv_iconst (v := tw_I 0) hC.1 hC.2.1 dX9_init_96 rfl ?_
  refine lv_istore_n (lv' := [(1, .int (tw_I 0)), (0, .ref this)]) hC.1 hC.2.1 dX9_init_97 rfl hl (by decide) rfl (fun ls hl => ?_)
  exact sX9_init_L98 G hC hnm this n 0 h22 ((tw_rgL rfl)) out hk H locs _ hR hL (lv_sub hl [1, 0] rfl)
set_option maxRecDepth 100000 in
theorem kX9_init {l : Launch} {p : Program} {e : Env} {R : Room} {s : State} {m : MethodId} {args : Array Value} {below : List Frame} {meth : Method} {c : Code} {H : Heap} {locs : List Loc} {cells slots : Nat} {Q : State → Prop} {cc : ByteArray} {pc nL idx : Nat} {ls : Array Slot} {rest : List Value} {G : tw_G} {h : tm_H} {own : String} {ret : Option FieldType} {α : Type} {x : α} {n : Nat} {this : Nat} (hC : tw_C G p s m args meth c own cc nL ret) (hR : tw_Rel G n h H) (hL : tw_L G locs) {F : tm_H × Nat → Option α} (hk : (fX9_init this h n).bind F = some x)  (hl : tw_mL own idx yX9_init) (hRm : rmX9_init.frames + 1 ≤ R.frames ∧ 8 + (2 + 11) + rmX9_init.locals ≤ R.locals) (hsz : ls.size = nL) (hW : (rest.map fun v => v.category).sum ≤ 8) (hf : cells + 10 ≤ R.cells ∧ slots + 6903 ≤ R.slots) (hdg : decode cc pc = .ok (.invokespecial idx, 3)) (kk : ∀ (h1 : tm_H) (n1 : Nat) (H1 : Heap) (locs1 : List Loc), tw_Rel G n1 h1 H1 → tw_L G locs1 → F (h1, n1) = some x → W p l e R s m args below meth c H1 locs1 (cells + 10) (slots + 6903) Q (F0 m (pc + 3) ls (rest))) : W p l e R s m args below meth c H locs cells slots Q (F0 m pc ls (.ref this :: rest)) := by
  obtain ⟨r, hr, hF⟩ := Option.bind_eq_some_iff.mp hk
  exact tw_backv (tw_runI hC hR (cX9_init_ok l G n this  h r hr) (n := 0) (As := []) ⟨tw_in_TB 791 (by decide +kernel) rfl, tw_in_TB 62 (by decide +kernel) rfl, by decide +kernel⟩ (tw_in_TB 790 (by decide +kernel) rfl) rfl hl ⟨rfl, rfl⟩ hRm rfl hsz rfl hW hdg hf) hL (fun H1 locs1 a b => kk r.1 r.2 H1 locs1 a b hF)
def rmX9_in : Room := { frames := 0, cells := 0, slots := 0, locals := 0 }
set_option maxRecDepth 100000 in
set_option maxHeartbeats 4000000 in
theorem cX9_in_ok (l : Launch) (G : tw_G) (sz : Nat) (a1 : Int) (a2 : Int) (a3 : Int) (ga1 : tm_rg a1) (ga2 : tm_rg a2) (ga3 : tm_rg a3) (h : tm_H) (out : Int) (hk : fX9_in a1 a2 a3 h = some out) : Met l yX9_in (tw_WS yX9_in cX9_in 3 (some .boolean)) rmX9_in (va_Pc [.int (tw_I a1), .int (tw_I a2), .int (tw_I a3)] (tw_Pre G sz h)) (tw_Qi G sz out h) 0 0 (tw_F G) := by
  refine tw_met (by decide +kernel) (Nat.le_of_ble_eq_true rfl) ?_
  intro p e s m args below meth c H ls hC hnm hR hl
  unfold fX9_in at hk
  have hl : lv_has ls 3 [(0, .int (tw_I a1)), (1, .int (tw_I a2)), (2, .int (tw_I a3))] := hl
  have hL : tw_L G [] := fun q z => by cases z
  generalize hlc : ([] : List Loc) = locs at hL ⊢
  refine lv_iload_n hC.1 hC.2.1 dX9_in_0 rfl (lv_at hl 0 rfl) ?_
  refine lv_iload_n hC.1 hC.2.1 dX9_in_1 rfl (lv_at hl 1 rfl) ?_
  refine tw_clt (tgt := 14) hC hk ga1 ga2 dX9_in_2 (by decide) (fun _ hk => ?_) (fun _ hk => ?_)
  · refine lv_iconst (v := tw_I 0) hC.1 hC.2.1 dX9_in_14 rfl ?_
    cases hk
    exact tw_zret hC hR hL rfl rfl dX9_in_15
  · refine lv_iload_n hC.1 hC.2.1 dX9_in_5 rfl (lv_at hl 0 rfl) ?_
    refine lv_iload_n hC.1 hC.2.1 dX9_in_6 rfl (lv_at hl 2 rfl) ?_
    refine tw_cgt (tgt := 14) hC hk ga1 ga3 dX9_in_7 (by decide) (fun _ hk => ?_) (fun _ hk => ?_)
    · refine lv_iconst (v := tw_I 0) hC.1 hC.2.1 dX9_in_14 rfl ?_
      cases hk
      exact tw_zret hC hR hL rfl rfl dX9_in_15
    · refine lv_iconst (v := tw_I 1) hC.1 hC.2.1 dX9_in_10 rfl ?_
      refine lv_goto (tgt := 15) hC.1 hC.2.1 dX9_in_11 (by decide) ?_
      cases hk
      exact tw_zret hC hR hL rfl rfl dX9_in_15
set_option maxRecDepth 100000 in
theorem kX9_in {l : Launch} {p : Program} {e : Env} {R : Room} {s : State} {m : MethodId} {args : Array Value} {below : List Frame} {meth : Method} {c : Code} {H : Heap} {locs : List Loc} {cells slots : Nat} {Q : State → Prop} {cc : ByteArray} {pc nL idx : Nat} {ls : Array Slot} {rest : List Value} {G : tw_G} {h : tm_H} {own : String} {ret : Option FieldType} {α : Type} {x : α} {sz : Nat} {a1 : Int} {a2 : Int} {a3 : Int} (hC : tw_C G p s m args meth c own cc nL ret) (hR : tw_Rel G sz h H) (hL : tw_L G locs) {F : Int → Option α} (hk : (fX9_in a1 a2 a3 h).bind F = some x) (ga1 : tm_rg a1) (ga2 : tm_rg a2) (ga3 : tm_rg a3) (hl : tw_mL own idx yX9_in) (hRm : rmX9_in.frames + 1 ≤ R.frames ∧ 8 + (3 + 11) + rmX9_in.locals ≤ R.locals) (hsz : ls.size = nL) (hW : (rest.map fun v => v.category).sum ≤ 8) (hf : cells + 0 ≤ R.cells ∧ slots + 0 ≤ R.slots) (hdg : decode cc pc = .ok (.invokestatic idx, 3)) (kk : ∀ (r : Int) (H1 : Heap) (locs1 : List Loc), tw_Rel G sz h H1 → tw_L G locs1 → tm_rg r → F r = some x → W p l e R s m args below meth c H1 locs1 (cells + 0) (slots + 0) Q (F0 m (pc + 3) ls (.int (tw_I r) :: rest))) : W p l e R s m args below meth c H locs cells slots Q (F0 m pc ls (.int (tw_I a3) :: .int (tw_I a2) :: .int (tw_I a1) :: rest)) := by
  obtain ⟨r, hr, hF⟩ := Option.bind_eq_some_iff.mp hk
  exact tw_backi (tw_runS hC hR (cX9_in_ok l G sz a1 a2 a3 ga1 ga2 ga3 h r hr) (n := 3) ⟨tw_in_TB 852 (by decide +kernel) rfl, tw_in_TB 62 (by decide +kernel) rfl, by decide +kernel⟩ (tw_in_TB 851 (by decide +kernel) rfl) hl ⟨rfl, rfl⟩ hRm rfl hsz rfl hW hdg hf) hL (fun H1 locs1 a b g => kk r H1 locs1 a b g hF)
def rmX9_saves : Room := { frames := 0, cells := 0, slots := 0, locals := 0 }
set_option maxRecDepth 100000 in
set_option maxHeartbeats 4000000 in
theorem sX9_saves_S0 {l : Launch} {p : Program} {e : Env} {s : State} {m : MethodId} {args : Array Value} {below : List Frame} {meth : Method} {c : Code} (G : tw_G) (sz : Nat) (hC : tw_C G p s m args meth c RX9 cX9_saves 3 none) (this : Nat) (a1 : Nat)  : ∀ (k : Nat) (st : (Int × tm_H)) (out : tm_H), tm_wit (fX9_saves_S0 this a1) k st = some out → match st with
    | (x2, h) => ∀ (H : Heap) (locs : List Loc) (ls : Array Slot), tm_rg x2 → tw_Rel G sz h H → tw_L G locs → lv_has ls 3 [(0, .ref this), (1, .ref a1), (2, .int (tw_I x2))] → W p l e rmX9_saves s m args below meth c H locs 0 0 (MQ below (tw_Qv G sz out) args s 0 0 (tw_F G)) (F0 m 51 ls []) := by
  intro k
  induction k with
  | zero =>
    intro st out hk
    exact absurd hk (by unfold tm_wit; exact fun z => by cases z)
  | succ k ih =>
    intro st out hk
    obtain ⟨X, hk, hf⟩ := tm_wit_succ hk
    obtain ⟨x2, h⟩ := st
    intro H locs ls gx2 hR hL hl
    dsimp only [fX9_saves_S0] at hk
    refine lv_iload_n hC.1 hC.2.1 dX9_saves_51 rfl (lv_at hl 2 rfl) ?_
    refine lv_sipush (v := tw_I 874) hC.1 hC.2.1 dX9_saves_52 (by decide) ?_
    refine tw_cge (tgt := 82) hC hk gx2 ((tw_rgL rfl)) dX9_saves_55 (by decide) (fun _ hk => ?_) (fun _ hk => ?_)
    · refine lv_aload_n hC.1 hC.2.1 dX9_saves_58 rfl (lv_at hl 0 rfl) ?_
      refine tw_getR hC hR hk flX9_13 dX9_saves_59 (fun r8 hk => ?_)
      refine lv_sipush (v := tw_I 874) hC.1 hC.2.1 dX9_saves_62 (by decide) ?_
      refine lv_aload_n hC.1 hC.2.1 dX9_saves_65 rfl (lv_at hl 0 rfl) ?_
      refine tw_getI hC hR hk flX9_41 dX9_saves_66 (fun v9 gv9 hk => ?_)
      refine tw_imul hC dX9_saves_69 ?_
      refine lv_iload_n hC.1 hC.2.1 dX9_saves_70 rfl (lv_at hl 2 rfl) ?_
      refine tw_iadd hC dX9_saves_71 ?_
      refine lv_aload_n hC.1 hC.2.1 dX9_saves_72 rfl (lv_at hl 1 rfl) ?_
      refine lv_iload_n hC.1 hC.2.1 dX9_saves_73 rfl (lv_at hl 2 rfl) ?_
      refine tw_iald hC hR hk dX9_saves_74 (fun v10 gv10 hk => ?_)
      refine tw_iast hC hR hL gv10 hk dX9_saves_75 (fun h11 H locs hR hL hk => ?_)
      refine tw_iinc (lv' := [(2, .int (tw_I (tm_wr (x2 + 1)))), (0, .ref this), (1, .ref a1)]) hC dX9_saves_76 hl (k := 2) rfl (by decide) rfl (fun ls hl => ?_)
      refine lv_goto (tgt := 51) hC.1 hC.2.1 dX9_saves_79 (by decide) ?_
      cases hk
      exact ih _ out hf H locs _ ((tm_wr_rg _)) hR hL (lv_sub hl [1, 2, 0] rfl)
    · refine lv_aload_n hC.1 hC.2.1 dX9_saves_82 rfl (lv_at hl 0 rfl) ?_
      refine lv_dup hC.1 hC.2.1 dX9_saves_83 rfl ?_
      refine tw_getI hC hR hk flX9_41 dX9_saves_84 (fun v12 gv12 hk => ?_)
      refine lv_iconst (v := tw_I 1) hC.1 hC.2.1 dX9_saves_87 rfl ?_
      refine tw_iadd hC dX9_saves_88 ?_
      refine tw_putI hC hR hL ((tm_wr_rg _)) hk fpX9_41 dX9_saves_89 (fun h13 H locs hR hL hk => ?_)
      cases hk
      cases hf
      exact tw_vret hC hR hL rfl dX9_saves_92
theorem sX9_saves_L51 {l : Launch} {p : Program} {e : Env} {s : State} {m : MethodId} {args : Array Value} {below : List Frame} {meth : Method} {c : Code} (G : tw_G) (sz : Nat) (hC : tw_C G p s m args meth c RX9 cX9_saves 3 none) (this : Nat) (a1 : Nat)  (x2 : Int) (h : tm_H) (gx2 : tm_rg x2) (out : tm_H) (hk : fX9_saves_L51 this a1 x2 h = some out) (H : Heap) (locs : List Loc) (ls : Array Slot) (hR : tw_Rel G sz h H) (hL : tw_L G locs) (hl : lv_has ls 3 [(0, .ref this), (1, .ref a1), (2, .int (tw_I x2))]) : W p l e rmX9_saves s m args below meth c H locs 0 0 (MQ below (tw_Qv G sz out) args s 0 0 (tw_F G)) (F0 m 51 ls []) := by
  obtain ⟨k, hk⟩ := tm_wl_iff.mp hk
  exact sX9_saves_S0 G sz hC this a1  k ((x2, h)) out hk H locs ls gx2 hR hL hl
set_option maxRecDepth 100000 in
set_option maxHeartbeats 4000000 in
theorem sX9_saves_L49 {l : Launch} {p : Program} {e : Env} {s : State} {m : MethodId} {args : Array Value} {below : List Frame} {meth : Method} {c : Code} (G : tw_G) (sz : Nat) (hC : tw_C G p s m args meth c RX9 cX9_saves 3 none) (this : Nat) (a1 : Nat)   (h : tm_H)  (out : tm_H) (hk : fX9_saves_L49 this a1 h = some out) (H : Heap) (locs : List Loc) (ls : Array Slot) (hR : tw_Rel G sz h H) (hL : tw_L G locs) (hl : lv_has ls 3 [(0, .ref this), (1, .ref a1)]) : W p l e rmX9_saves s m args below meth c H locs 0 0 (MQ below (tw_Qv G sz out) args s 0 0 (tw_F G)) (F0 m 49 ls []) := by
  unfold fX9_saves_L49 at hk
  refine lv_iconst (v := tw_I 0) hC.1 hC.2.1 dX9_saves_49 rfl ?_
  refine lv_istore_n (lv' := [(2, .int (tw_I 0)), (0, .ref this), (1, .ref a1)]) hC.1 hC.2.1 dX9_saves_50 rfl hl (by decide) rfl (fun ls hl => ?_)
  exact sX9_saves_L51 G sz hC this a1 0 h ((tw_rgL rfl)) out hk H locs _ hR hL (lv_sub hl [1, 2, 0] rfl)
set_option maxRecDepth 100000 in
set_option maxHeartbeats 4000000 in
theorem sX9_saves_S2 {l : Launch} {p : Program} {e : Env} {s : State} {m : MethodId} {args : Array Value} {below : List Frame} {meth : Method} {c : Code} (G : tw_G) (sz : Nat) (hC : tw_C G p s m args meth c RX9 cX9_saves 3 none) (this : Nat) (a1 : Nat)  : ∀ (k : Nat) (st : (Int × tm_H)) (out : tm_H), tm_wit (fX9_saves_S2 this a1) k st = some out → match st with
    | (x2, h) => ∀ (H : Heap) (locs : List Loc) (ls : Array Slot), tm_rg x2 → tw_Rel G sz h H → tw_L G locs → lv_has ls 3 [(0, .ref this), (1, .ref a1), (2, .int (tw_I x2))] → W p l e rmX9_saves s m args below meth c H locs 0 0 (MQ below (tw_Qv G sz out) args s 0 0 (tw_F G)) (F0 m 10 ls []) := by
  intro k
  induction k with
  | zero =>
    intro st out hk
    exact absurd hk (by unfold tm_wit; exact fun z => by cases z)
  | succ k ih =>
    intro st out hk
    obtain ⟨X, hk, hf⟩ := tm_wit_succ hk
    obtain ⟨x2, h⟩ := st
    intro H locs ls gx2 hR hL hl
    dsimp only [fX9_saves_S2] at hk
    refine lv_iload_n hC.1 hC.2.1 dX9_saves_10 rfl (lv_at hl 2 rfl) ?_
    refine lv_sipush (v := tw_I 3496) hC.1 hC.2.1 dX9_saves_11 (by decide) ?_
    refine tw_cge (tgt := 39) hC hk gx2 ((tw_rgL rfl)) dX9_saves_14 (by decide) (fun _ hk => ?_) (fun _ hk => ?_)
    · refine lv_aload_n hC.1 hC.2.1 dX9_saves_17 rfl (lv_at hl 0 rfl) ?_
      refine tw_getR hC hR hk flX9_13 dX9_saves_18 (fun r2 hk => ?_)
      refine lv_iload_n hC.1 hC.2.1 dX9_saves_21 rfl (lv_at hl 2 rfl) ?_
      refine lv_aload_n hC.1 hC.2.1 dX9_saves_22 rfl (lv_at hl 0 rfl) ?_
      refine tw_getR hC hR hk flX9_13 dX9_saves_23 (fun r3 hk => ?_)
      refine lv_iload_n hC.1 hC.2.1 dX9_saves_26 rfl (lv_at hl 2 rfl) ?_
      refine lv_sipush (v := tw_I 874) hC.1 hC.2.1 dX9_saves_27 (by decide) ?_
      refine tw_iadd hC dX9_saves_30 ?_
      refine tw_iald hC hR hk dX9_saves_31 (fun v4 gv4 hk => ?_)
      refine tw_iast hC hR hL gv4 hk dX9_saves_32 (fun h5 H locs hR hL hk => ?_)
      refine tw_iinc (lv' := [(2, .int (tw_I (tm_wr (x2 + 1)))), (0, .ref this), (1, .ref a1)]) hC dX9_saves_33 hl (k := 2) rfl (by decide) rfl (fun ls hl => ?_)
      refine lv_goto (tgt := 10) hC.1 hC.2.1 dX9_saves_36 (by decide) ?_
      cases hk
      exact ih _ out hf H locs _ ((tm_wr_rg _)) hR hL (lv_sub hl [1, 2, 0] rfl)
    · refine lv_aload_n hC.1 hC.2.1 dX9_saves_39 rfl (lv_at hl 0 rfl) ?_
      refine lv_dup hC.1 hC.2.1 dX9_saves_40 rfl ?_
      refine tw_getI hC hR hk flX9_41 dX9_saves_41 (fun v6 gv6 hk => ?_)
      refine lv_iconst (v := tw_I 1) hC.1 hC.2.1 dX9_saves_44 rfl ?_
      refine tw_isub hC dX9_saves_45 ?_
      refine tw_putI hC hR hL ((tm_wr_rg _)) hk fpX9_41 dX9_saves_46 (fun h7 H locs hR hL hk => ?_)
      obtain ⟨r, hk2, hX⟩ := tm_out_some hk
      rw [hX] at hf
      have hr : r = out := Option.some.inj hf
      rw [hr] at hk2
      exact sX9_saves_L49 G sz hC this a1 h7 out hk2 H locs _ hR hL (lv_sub hl [0, 1] rfl)
theorem sX9_saves_L10 {l : Launch} {p : Program} {e : Env} {s : State} {m : MethodId} {args : Array Value} {below : List Frame} {meth : Method} {c : Code} (G : tw_G) (sz : Nat) (hC : tw_C G p s m args meth c RX9 cX9_saves 3 none) (this : Nat) (a1 : Nat)  (x2 : Int) (h : tm_H) (gx2 : tm_rg x2) (out : tm_H) (hk : fX9_saves_L10 this a1 x2 h = some out) (H : Heap) (locs : List Loc) (ls : Array Slot) (hR : tw_Rel G sz h H) (hL : tw_L G locs) (hl : lv_has ls 3 [(0, .ref this), (1, .ref a1), (2, .int (tw_I x2))]) : W p l e rmX9_saves s m args below meth c H locs 0 0 (MQ below (tw_Qv G sz out) args s 0 0 (tw_F G)) (F0 m 10 ls []) := by
  obtain ⟨k, hk⟩ := tm_wl_iff.mp hk
  exact sX9_saves_S2 G sz hC this a1  k ((x2, h)) out hk H locs ls gx2 hR hL hl
set_option maxRecDepth 100000 in
set_option maxHeartbeats 4000000 in
theorem cX9_saves_ok (l : Launch) (G : tw_G) (sz : Nat) (this : Nat) (a1 : Nat)  (h : tm_H) (out : tm_H) (hk : fX9_saves this a1 h = some out) : Met l yX9_saves (tw_WS yX9_saves cX9_saves 3 none) rmX9_saves (va_Pc [.ref this, .ref a1] (tw_Pre G sz h)) (tw_Qv G sz out) 0 0 (tw_F G) := by
  refine tw_met (by decide +kernel) (Nat.le_of_ble_eq_true rfl) ?_
  intro p e s m args below meth c H ls hC hnm hR hl
  unfold fX9_saves at hk
  obtain ⟨hob, hk⟩ := tm_th_is hk
  have hl : lv_has ls 3 [(0, .ref this), (1, .ref a1)] := hl
  have hL : tw_L G [] := fun q z => by cases z
  generalize hlc : ([] : List Loc) = locs at hL ⊢
  refine lv_aload_n hC.1 hC.2.1 dX9_saves_0 rfl (lv_at hl 0 rfl) ?_
  refine tw_getI hC hR hk flX9_41 dX9_saves_1 (fun v1 gv1 hk => ?_)
  refine lv_iconst (v := tw_I 5) hC.1 hC.2.1 dX9_saves_4 rfl ?_
  refine tw_cne (tgt := 49) hC hk gv1 ((tw_rgL rfl)) dX9_saves_5 (by decide) (fun _ hk => ?_) (fun _ hk => ?_)
  · refine lv_iconst (v := tw_I 0) hC.1 hC.2.1 dX9_saves_8 rfl ?_
    refine lv_istore_n (lv' := [(2, .int (tw_I 0)), (0, .ref this), (1, .ref a1)]) hC.1 hC.2.1 dX9_saves_9 rfl hl (by decide) rfl (fun ls hl => ?_)
    exact sX9_saves_L10 G sz hC this a1 0 h ((tw_rgL rfl)) out hk H locs _ hR hL (lv_sub hl [1, 2, 0] rfl)
  · exact sX9_saves_L49 G sz hC this a1 h out hk H locs _ hR hL (lv_sub hl [0, 1] rfl)
set_option maxRecDepth 100000 in
theorem kX9_saves {l : Launch} {p : Program} {e : Env} {R : Room} {s : State} {m : MethodId} {args : Array Value} {below : List Frame} {meth : Method} {c : Code} {H : Heap} {locs : List Loc} {cells slots : Nat} {Q : State → Prop} {cc : ByteArray} {pc nL idx : Nat} {ls : Array Slot} {rest : List Value} {G : tw_G} {h : tm_H} {own : String} {ret : Option FieldType} {α : Type} {x : α} {sz : Nat} {this : Nat} {a1 : Nat} (hC : tw_C G p s m args meth c own cc nL ret) (hR : tw_Rel G sz h H) (hL : tw_L G locs) {F : tm_H → Option α} (hk : (fX9_saves this a1 h).bind F = some x)  (hl : tw_mL own idx yX9_saves) (hRm : rmX9_saves.frames + 1 ≤ R.frames ∧ 8 + (3 + 11) + rmX9_saves.locals ≤ R.locals) (hsz : ls.size = nL) (hW : (rest.map fun v => v.category).sum ≤ 8) (hf : cells + 0 ≤ R.cells ∧ slots + 0 ≤ R.slots) (hdg : decode cc pc = .ok (.invokevirtual idx, 3)) (kk : ∀ (h1 : tm_H) (H1 : Heap) (locs1 : List Loc), tw_Rel G sz h1 H1 → tw_L G locs1 → F h1 = some x → W p l e R s m args below meth c H1 locs1 (cells + 0) (slots + 0) Q (F0 m (pc + 3) ls (rest))) : W p l e R s m args below meth c H locs cells slots Q (F0 m pc ls (.ref a1 :: .ref this :: rest)) := by
  obtain ⟨r, hr, hF⟩ := Option.bind_eq_some_iff.mp hk
  have ob : ∀ r, fX9_saves this a1 h = some r → tm_is h 9 this := fun r hr => by
    unfold fX9_saves at hr
    exact (tm_th_is hr).1
  exact tw_backv (tw_runV hC hR (cX9_saves_ok l G sz this a1  h r hr) (n := 1) (As := [.ref a1]) ⟨tw_in_TB 864 (by decide +kernel) rfl, tw_in_TB 62 (by decide +kernel) rfl, by decide +kernel⟩ (tw_in_TB 863 (by decide +kernel) rfl) (tw_in_TB 18 (by decide +kernel) rfl) hl ⟨rfl, rfl⟩ hRm (ob r hr) (T := TX9) (N := 15) rfl rfl hsz rfl hW hdg hf) hL (fun H1 locs1 a b => kk r H1 locs1 a b hF)
def rmX9_undo : Room := { frames := 0, cells := 0, slots := 0, locals := 0 }
set_option maxRecDepth 100000 in
set_option maxHeartbeats 4000000 in
theorem sX9_undo_S0 {l : Launch} {p : Program} {e : Env} {s : State} {m : MethodId} {args : Array Value} {below : List Frame} {meth : Method} {c : Code} (G : tw_G) (sz : Nat) (hC : tw_C G p s m args meth c RX9 cX9_undo 2 (some .int)) (this : Nat)  : ∀ (k : Nat) (st : (Int × tm_H)) (out : Int × tm_H), tm_wit (fX9_undo_S0 this) k st = some out → match st with
    | (x1, h) => ∀ (H : Heap) (locs : List Loc) (ls : Array Slot), tm_rg x1 → tw_Rel G sz h H → tw_L G locs → lv_has ls 2 [(0, .ref this), (1, .int (tw_I x1))] → W p l e rmX9_undo s m args below meth c H locs 0 0 (MQ below (tw_Qi G sz out.1 out.2) args s 0 0 (tw_F G)) (F0 m 22 ls []) := by
  intro k
  induction k with
  | zero =>
    intro st out hk
    exact absurd hk (by unfold tm_wit; exact fun z => by cases z)
  | succ k ih =>
    intro st out hk
    obtain ⟨X, hk, hf⟩ := tm_wit_succ hk
    obtain ⟨x1, h⟩ := st
    intro H locs ls gx1 hR hL hl
    dsimp only [fX9_undo_S0] at hk
    refine lv_iload_n hC.1 hC.2.1 dX9_undo_22 rfl (lv_at hl 1 rfl) ?_
    refine lv_sipush (v := tw_I 874) hC.1 hC.2.1 dX9_undo_23 (by decide) ?_
    refine tw_cge (tgt := 56) hC hk gx1 ((tw_rgL rfl)) dX9_undo_26 (by decide) (fun _ hk => ?_) (fun _ hk => ?_)
    · refine lv_aload_n hC.1 hC.2.1 dX9_undo_29 rfl (lv_at hl 0 rfl) ?_
      refine tw_getR hC hR hk flX9_7 dX9_undo_30 (fun r4 hk => ?_)
      refine lv_iload_n hC.1 hC.2.1 dX9_undo_33 rfl (lv_at hl 1 rfl) ?_
      refine lv_aload_n hC.1 hC.2.1 dX9_undo_34 rfl (lv_at hl 0 rfl) ?_
      refine tw_getR hC hR hk flX9_13 dX9_undo_35 (fun r5 hk => ?_)
      refine lv_sipush (v := tw_I 874) hC.1 hC.2.1 dX9_undo_38 (by decide) ?_
      refine lv_aload_n hC.1 hC.2.1 dX9_undo_41 rfl (lv_at hl 0 rfl) ?_
      refine tw_getI hC hR hk flX9_41 dX9_undo_42 (fun v6 gv6 hk => ?_)
      refine tw_imul hC dX9_undo_45 ?_
      refine lv_iload_n hC.1 hC.2.1 dX9_undo_46 rfl (lv_at hl 1 rfl) ?_
      refine tw_iadd hC dX9_undo_47 ?_
      refine tw_iald hC hR hk dX9_undo_48 (fun v7 gv7 hk => ?_)
      refine tw_iast hC hR hL gv7 hk dX9_undo_49 (fun h8 H locs hR hL hk => ?_)
      refine tw_iinc (lv' := [(1, .int (tw_I (tm_wr (x1 + 1)))), (0, .ref this)]) hC dX9_undo_50 hl (k := 1) rfl (by decide) rfl (fun ls hl => ?_)
      refine lv_goto (tgt := 22) hC.1 hC.2.1 dX9_undo_53 (by decide) ?_
      cases hk
      exact ih _ out hf H locs _ ((tm_wr_rg _)) hR hL (lv_sub hl [1, 0] rfl)
    · refine lv_aload_n hC.1 hC.2.1 dX9_undo_56 rfl (lv_at hl 0 rfl) ?_
      refine tw_getI hC hR hk flX9_41 dX9_undo_57 (fun v9 gv9 hk => ?_)
      cases hk
      cases hf
      exact tw_iret hC hR hL gv9 rfl rfl dX9_undo_60
theorem sX9_undo_L22 {l : Launch} {p : Program} {e : Env} {s : State} {m : MethodId} {args : Array Value} {below : List Frame} {meth : Method} {c : Code} (G : tw_G) (sz : Nat) (hC : tw_C G p s m args meth c RX9 cX9_undo 2 (some .int)) (this : Nat)  (x1 : Int) (h : tm_H) (gx1 : tm_rg x1) (out : Int × tm_H) (hk : fX9_undo_L22 this x1 h = some out) (H : Heap) (locs : List Loc) (ls : Array Slot) (hR : tw_Rel G sz h H) (hL : tw_L G locs) (hl : lv_has ls 2 [(0, .ref this), (1, .int (tw_I x1))]) : W p l e rmX9_undo s m args below meth c H locs 0 0 (MQ below (tw_Qi G sz out.1 out.2) args s 0 0 (tw_F G)) (F0 m 22 ls []) := by
  obtain ⟨k, hk⟩ := tm_wl_iff.mp hk
  exact sX9_undo_S0 G sz hC this  k ((x1, h)) out hk H locs ls gx1 hR hL hl
set_option maxRecDepth 100000 in
set_option maxHeartbeats 4000000 in
theorem cX9_undo_ok (l : Launch) (G : tw_G) (sz : Nat) (this : Nat)  (h : tm_H) (out : Int × tm_H) (hk : fX9_undo this h = some out) : Met l yX9_undo (tw_WS yX9_undo cX9_undo 2 (some .int)) rmX9_undo (va_Pc [.ref this] (tw_Pre G sz h)) (tw_Qi G sz out.1 out.2) 0 0 (tw_F G) := by
  refine tw_met (by decide +kernel) (Nat.le_of_ble_eq_true rfl) ?_
  intro p e s m args below meth c H ls hC hnm hR hl
  unfold fX9_undo at hk
  obtain ⟨hob, hk⟩ := tm_th_is hk
  have hl : lv_has ls 2 [(0, .ref this)] := hl
  have hL : tw_L G [] := fun q z => by cases z
  generalize hlc : ([] : List Loc) = locs at hL ⊢
  refine lv_aload_n hC.1 hC.2.1 dX9_undo_0 rfl (lv_at hl 0 rfl) ?_
  refine tw_getI hC hR hk flX9_41 dX9_undo_1 (fun v1 gv1 hk => ?_)
  refine tw_zne (tgt := 10) hC hk gv1 dX9_undo_4 (by decide) (fun _ hk => ?_) (fun _ hk => ?_)
  · refine lv_bipush (v := tw_I (-2)) hC.1 hC.2.1 dX9_undo_7 (by decide) ?_
    cases hk
    exact tw_iret hC hR hL ((tw_rgL rfl)) rfl rfl dX9_undo_9
  · refine lv_aload_n hC.1 hC.2.1 dX9_undo_10 rfl (lv_at hl 0 rfl) ?_
    refine lv_dup hC.1 hC.2.1 dX9_undo_11 rfl ?_
    refine tw_getI hC hR hk flX9_41 dX9_undo_12 (fun v2 gv2 hk => ?_)
    refine lv_iconst (v := tw_I 1) hC.1 hC.2.1 dX9_undo_15 rfl ?_
    refine tw_isub hC dX9_undo_16 ?_
    refine tw_putI hC hR hL ((tm_wr_rg _)) hk fpX9_41 dX9_undo_17 (fun h3 H locs hR hL hk => ?_)
    refine lv_iconst (v := tw_I 0) hC.1 hC.2.1 dX9_undo_20 rfl ?_
    refine lv_istore_n (lv' := [(1, .int (tw_I 0)), (0, .ref this)]) hC.1 hC.2.1 dX9_undo_21 rfl hl (by decide) rfl (fun ls hl => ?_)
    exact sX9_undo_L22 G sz hC this 0 h3 ((tw_rgL rfl)) out hk H locs _ hR hL (lv_sub hl [1, 0] rfl)
set_option maxRecDepth 100000 in
theorem kX9_undo {l : Launch} {p : Program} {e : Env} {R : Room} {s : State} {m : MethodId} {args : Array Value} {below : List Frame} {meth : Method} {c : Code} {H : Heap} {locs : List Loc} {cells slots : Nat} {Q : State → Prop} {cc : ByteArray} {pc nL idx : Nat} {ls : Array Slot} {rest : List Value} {G : tw_G} {h : tm_H} {own : String} {ret : Option FieldType} {α : Type} {x : α} {sz : Nat} {this : Nat} (hC : tw_C G p s m args meth c own cc nL ret) (hR : tw_Rel G sz h H) (hL : tw_L G locs) {F : Int × tm_H → Option α} (hk : (fX9_undo this h).bind F = some x)  (hl : tw_mL own idx yX9_undo) (hRm : rmX9_undo.frames + 1 ≤ R.frames ∧ 8 + (2 + 11) + rmX9_undo.locals ≤ R.locals) (hsz : ls.size = nL) (hW : (rest.map fun v => v.category).sum ≤ 8) (hf : cells + 0 ≤ R.cells ∧ slots + 0 ≤ R.slots) (hdg : decode cc pc = .ok (.invokevirtual idx, 3)) (kk : ∀ (r : Int) (h1 : tm_H) (H1 : Heap) (locs1 : List Loc), tw_Rel G sz h1 H1 → tw_L G locs1 → tm_rg r → F (r, h1) = some x → W p l e R s m args below meth c H1 locs1 (cells + 0) (slots + 0) Q (F0 m (pc + 3) ls (.int (tw_I r) :: rest))) : W p l e R s m args below meth c H locs cells slots Q (F0 m pc ls (.ref this :: rest)) := by
  obtain ⟨r, hr, hF⟩ := Option.bind_eq_some_iff.mp hk
  have ob : ∀ r, fX9_undo this h = some r → tm_is h 9 this := fun r hr => by
    unfold fX9_undo at hr
    exact (tm_th_is hr).1
  exact tw_backi (tw_runV hC hR (cX9_undo_ok l G sz this  h r hr) (n := 0) (As := []) ⟨tw_in_TB 842 (by decide +kernel) rfl, tw_in_TB 62 (by decide +kernel) rfl, by decide +kernel⟩ (tw_in_TB 840 (by decide +kernel) rfl) (tw_in_TB 841 (by decide +kernel) rfl) hl ⟨rfl, rfl⟩ hRm (ob r hr) (T := TX9) (N := 15) rfl rfl hsz rfl hW hdg hf) hL (fun H1 locs1 a b g => kk r.1 r.2 H1 locs1 a b g hF)
def rmX9_isWord : Room := { frames := 1, cells := 0, slots := 0, locals := 22 }
set_option maxRecDepth 100000 in
set_option maxHeartbeats 4000000 in
theorem cX9_isWord_ok (l : Launch) (G : tw_G) (sz : Nat) (this : Nat) (a1 : Int) (ga1 : tm_rg a1) (h : tm_H) (out : Int) (hk : fX9_isWord this a1 h = some out) : Met l yX9_isWord (tw_WS yX9_isWord cX9_isWord 2 (some .boolean)) rmX9_isWord (va_Pc [.ref this, .int (tw_I a1)] (tw_Pre G sz h)) (tw_Qi G sz out h) 0 0 (tw_F G) := by
  refine tw_met (by decide +kernel) (Nat.le_of_ble_eq_true rfl) ?_
  intro p e s m args below meth c H ls hC hnm hR hl
  unfold fX9_isWord at hk
  obtain ⟨hob, hk⟩ := tm_th_is hk
  have hl : lv_has ls 2 [(0, .ref this), (1, .int (tw_I a1))] := hl
  have hL : tw_L G [] := fun q z => by cases z
  generalize hlc : ([] : List Loc) = locs at hL ⊢
  refine lv_iload_n hC.1 hC.2.1 dX9_isWord_0 rfl (lv_at hl 1 rfl) ?_
  refine lv_iconst (v := tw_I 0) hC.1 hC.2.1 dX9_isWord_1 rfl ?_
  refine lv_aload_n hC.1 hC.2.1 dX9_isWord_2 rfl (lv_at hl 0 rfl) ?_
  refine tw_getR hC hR hk flX9_7 dX9_isWord_3 (fun r1 hk => ?_)
  refine lv_iconst (v := tw_I 0) hC.1 hC.2.1 dX9_isWord_6 rfl ?_
  refine tw_iald hC hR hk dX9_isWord_7 (fun v2 gv2 hk => ?_)
  refine lv_iconst (v := tw_I 1) hC.1 hC.2.1 dX9_isWord_8 rfl ?_
  refine tw_isub hC dX9_isWord_9 ?_
  refine kX9_in hC hR hL hk ga1 ((tw_rgL rfl)) ((tm_wr_rg _)) mlX9_45 ⟨by decide, by decide⟩ hl.1 (Nat.le_of_ble_eq_true rfl) ⟨Nat.zero_le _, Nat.zero_le _⟩ dX9_isWord_10 (fun v3 H locs hR hL gv3 hk => ?_)
  obtain ⟨z, hz, hk⟩ := Option.bind_eq_some_iff.mp hk
  cases hk
  exact tw_zret hC hR hL hz rfl dX9_isWord_13
set_option maxRecDepth 100000 in
theorem kX9_isWord {l : Launch} {p : Program} {e : Env} {R : Room} {s : State} {m : MethodId} {args : Array Value} {below : List Frame} {meth : Method} {c : Code} {H : Heap} {locs : List Loc} {cells slots : Nat} {Q : State → Prop} {cc : ByteArray} {pc nL idx : Nat} {ls : Array Slot} {rest : List Value} {G : tw_G} {h : tm_H} {own : String} {ret : Option FieldType} {α : Type} {x : α} {sz : Nat} {this : Nat} {a1 : Int} (hC : tw_C G p s m args meth c own cc nL ret) (hR : tw_Rel G sz h H) (hL : tw_L G locs) {F : Int → Option α} (hk : (fX9_isWord this a1 h).bind F = some x) (ga1 : tm_rg a1) (hl : tw_mL own idx yX9_isWord) (hRm : rmX9_isWord.frames + 1 ≤ R.frames ∧ 8 + (2 + 11) + rmX9_isWord.locals ≤ R.locals) (hsz : ls.size = nL) (hW : (rest.map fun v => v.category).sum ≤ 8) (hf : cells + 0 ≤ R.cells ∧ slots + 0 ≤ R.slots) (hdg : decode cc pc = .ok (.invokevirtual idx, 3)) (kk : ∀ (r : Int) (H1 : Heap) (locs1 : List Loc), tw_Rel G sz h H1 → tw_L G locs1 → tm_rg r → F r = some x → W p l e R s m args below meth c H1 locs1 (cells + 0) (slots + 0) Q (F0 m (pc + 3) ls (.int (tw_I r) :: rest))) : W p l e R s m args below meth c H locs cells slots Q (F0 m pc ls (.int (tw_I a1) :: .ref this :: rest)) := by
  obtain ⟨r, hr, hF⟩ := Option.bind_eq_some_iff.mp hk
  have ob : ∀ r, fX9_isWord this a1 h = some r → tm_is h 9 this := fun r hr => by
    unfold fX9_isWord at hr
    exact (tm_th_is hr).1
  exact tw_backi (tw_runV hC hR (cX9_isWord_ok l G sz this a1 ga1 h r hr) (n := 1) (As := [.int (tw_I a1)]) ⟨tw_in_TB 860 (by decide +kernel) rfl, tw_in_TB 62 (by decide +kernel) rfl, by decide +kernel⟩ (tw_in_TB 859 (by decide +kernel) rfl) (tw_in_TB 17 (by decide +kernel) rfl) hl ⟨rfl, rfl⟩ hRm (ob r hr) (T := TX9) (N := 15) rfl rfl hsz rfl hW hdg hf) hL (fun H1 locs1 a b g => kk r H1 locs1 a b g hF)
def rmX9_isChapter : Room := { frames := 1, cells := 0, slots := 0, locals := 22 }
set_option maxRecDepth 100000 in
set_option maxHeartbeats 4000000 in
theorem cX9_isChapter_ok (l : Launch) (G : tw_G) (sz : Nat) (a1 : Int) (ga1 : tm_rg a1) (h : tm_H) (out : Int) (hk : fX9_isChapter a1 h = some out) : Met l yX9_isChapter (tw_WS yX9_isChapter cX9_isChapter 1 (some .boolean)) rmX9_isChapter (va_Pc [.int (tw_I a1)] (tw_Pre G sz h)) (tw_Qi G sz out h) 0 0 (tw_F G) := by
  refine tw_met (by decide +kernel) (Nat.le_of_ble_eq_true rfl) ?_
  intro p e s m args below meth c H ls hC hnm hR hl
  unfold fX9_isChapter at hk
  have hl : lv_has ls 1 [(0, .int (tw_I a1))] := hl
  have hL : tw_L G [] := fun q z => by cases z
  generalize hlc : ([] : List Loc) = locs at hL ⊢
  refine lv_iload_n hC.1 hC.2.1 dX9_isChapter_0 rfl (lv_at hl 0 rfl) ?_
  refine lv_iconst (v := tw_I 0) hC.1 hC.2.1 dX9_isChapter_1 rfl ?_
  refine lv_iconst (v := tw_I 5) hC.1 hC.2.1 dX9_isChapter_2 rfl ?_
  refine kX9_in hC hR hL hk ga1 ((tw_rgL rfl)) ((tw_rgL rfl)) mlX9_45 ⟨by decide, by decide⟩ hl.1 (Nat.le_of_ble_eq_true rfl) ⟨Nat.zero_le _, Nat.zero_le _⟩ dX9_isChapter_3 (fun v1 H locs hR hL gv1 hk => ?_)
  obtain ⟨z, hz, hk⟩ := Option.bind_eq_some_iff.mp hk
  cases hk
  exact tw_zret hC hR hL hz rfl dX9_isChapter_6
set_option maxRecDepth 100000 in
theorem kX9_isChapter {l : Launch} {p : Program} {e : Env} {R : Room} {s : State} {m : MethodId} {args : Array Value} {below : List Frame} {meth : Method} {c : Code} {H : Heap} {locs : List Loc} {cells slots : Nat} {Q : State → Prop} {cc : ByteArray} {pc nL idx : Nat} {ls : Array Slot} {rest : List Value} {G : tw_G} {h : tm_H} {own : String} {ret : Option FieldType} {α : Type} {x : α} {sz : Nat} {a1 : Int} (hC : tw_C G p s m args meth c own cc nL ret) (hR : tw_Rel G sz h H) (hL : tw_L G locs) {F : Int → Option α} (hk : (fX9_isChapter a1 h).bind F = some x) (ga1 : tm_rg a1) (hl : tw_mL own idx yX9_isChapter) (hRm : rmX9_isChapter.frames + 1 ≤ R.frames ∧ 8 + (1 + 11) + rmX9_isChapter.locals ≤ R.locals) (hsz : ls.size = nL) (hW : (rest.map fun v => v.category).sum ≤ 8) (hf : cells + 0 ≤ R.cells ∧ slots + 0 ≤ R.slots) (hdg : decode cc pc = .ok (.invokestatic idx, 3)) (kk : ∀ (r : Int) (H1 : Heap) (locs1 : List Loc), tw_Rel G sz h H1 → tw_L G locs1 → tm_rg r → F r = some x → W p l e R s m args below meth c H1 locs1 (cells + 0) (slots + 0) Q (F0 m (pc + 3) ls (.int (tw_I r) :: rest))) : W p l e R s m args below meth c H locs cells slots Q (F0 m pc ls (.int (tw_I a1) :: rest)) := by
  obtain ⟨r, hr, hF⟩ := Option.bind_eq_some_iff.mp hk
  exact tw_backi (tw_runS hC hR (cX9_isChapter_ok l G sz a1 ga1 h r hr) (n := 1) ⟨tw_in_TB 849 (by decide +kernel) rfl, tw_in_TB 62 (by decide +kernel) rfl, by decide +kernel⟩ (tw_in_TB 848 (by decide +kernel) rfl) hl ⟨rfl, rfl⟩ hRm rfl hsz rfl hW hdg hf) hL (fun H1 locs1 a b g => kk r H1 locs1 a b g hF)
def rmX9_size : Room := { frames := 0, cells := 0, slots := 0, locals := 0 }
set_option maxRecDepth 100000 in
set_option maxHeartbeats 4000000 in
theorem cX9_size_ok (l : Launch) (G : tw_G) (sz : Nat) (this : Nat) (a1 : Int) (ga1 : tm_rg a1) (h : tm_H) (out : Int) (hk : fX9_size this a1 h = some out) : Met l yX9_size (tw_WS yX9_size cX9_size 2 (some .int)) rmX9_size (va_Pc [.ref this, .int (tw_I a1)] (tw_Pre G sz h)) (tw_Qi G sz out h) 0 0 (tw_F G) := by
  refine tw_met (by decide +kernel) (Nat.le_of_ble_eq_true rfl) ?_
  intro p e s m args below meth c H ls hC hnm hR hl
  unfold fX9_size at hk
  obtain ⟨hob, hk⟩ := tm_th_is hk
  have hl : lv_has ls 2 [(0, .ref this), (1, .int (tw_I a1))] := hl
  have hL : tw_L G [] := fun q z => by cases z
  generalize hlc : ([] : List Loc) = locs at hL ⊢
  refine lv_aload_n hC.1 hC.2.1 dX9_size_0 rfl (lv_at hl 0 rfl) ?_
  refine tw_getR hC hR hk flX9_7 dX9_size_1 (fun r1 hk => ?_)
  refine lv_bipush (v := tw_I 61) hC.1 hC.2.1 dX9_size_4 (by decide) ?_
  refine lv_bipush (v := tw_I 41) hC.1 hC.2.1 dX9_size_6 (by decide) ?_
  refine lv_iload_n hC.1 hC.2.1 dX9_size_8 rfl (lv_at hl 1 rfl) ?_
  refine tw_imul hC dX9_size_9 ?_
  refine tw_iadd hC dX9_size_10 ?_
  refine tw_iald hC hR hk dX9_size_11 (fun v2 gv2 hk => ?_)
  cases hk
  exact tw_iret hC hR hL gv2 rfl rfl dX9_size_12
set_option maxRecDepth 100000 in
theorem kX9_size {l : Launch} {p : Program} {e : Env} {R : Room} {s : State} {m : MethodId} {args : Array Value} {below : List Frame} {meth : Method} {c : Code} {H : Heap} {locs : List Loc} {cells slots : Nat} {Q : State → Prop} {cc : ByteArray} {pc nL idx : Nat} {ls : Array Slot} {rest : List Value} {G : tw_G} {h : tm_H} {own : String} {ret : Option FieldType} {α : Type} {x : α} {sz : Nat} {this : Nat} {a1 : Int} (hC : tw_C G p s m args meth c own cc nL ret) (hR : tw_Rel G sz h H) (hL : tw_L G locs) {F : Int → Option α} (hk : (fX9_size this a1 h).bind F = some x) (ga1 : tm_rg a1) (hl : tw_mL own idx yX9_size) (hRm : rmX9_size.frames + 1 ≤ R.frames ∧ 8 + (2 + 11) + rmX9_size.locals ≤ R.locals) (hsz : ls.size = nL) (hW : (rest.map fun v => v.category).sum ≤ 8) (hf : cells + 0 ≤ R.cells ∧ slots + 0 ≤ R.slots) (hdg : decode cc pc = .ok (.invokevirtual idx, 3)) (kk : ∀ (r : Int) (H1 : Heap) (locs1 : List Loc), tw_Rel G sz h H1 → tw_L G locs1 → tm_rg r → F r = some x → W p l e R s m args below meth c H1 locs1 (cells + 0) (slots + 0) Q (F0 m (pc + 3) ls (.int (tw_I r) :: rest))) : W p l e R s m args below meth c H locs cells slots Q (F0 m pc ls (.int (tw_I a1) :: .ref this :: rest)) := by
  obtain ⟨r, hr, hF⟩ := Option.bind_eq_some_iff.mp hk
  have ob : ∀ r, fX9_size this a1 h = some r → tm_is h 9 this := fun r hr => by
    unfold fX9_size at hr
    exact (tm_th_is hr).1
  exact tw_backi (tw_runV hC hR (cX9_size_ok l G sz this a1 ga1 h r hr) (n := 1) (As := [.int (tw_I a1)]) ⟨tw_in_TB 856 (by decide +kernel) rfl, tw_in_TB 62 (by decide +kernel) rfl, by decide +kernel⟩ (tw_in_TB 855 (by decide +kernel) rfl) (tw_in_TB 16 (by decide +kernel) rfl) hl ⟨rfl, rfl⟩ hRm (ob r hr) (T := TX9) (N := 15) rfl rfl hsz rfl hW hdg hf) hL (fun H1 locs1 a b g => kk r H1 locs1 a b g hF)
def rmX9_at : Room := { frames := 0, cells := 0, slots := 0, locals := 0 }
set_option maxRecDepth 100000 in
set_option maxHeartbeats 4000000 in
theorem cX9_at_ok (l : Launch) (G : tw_G) (sz : Nat) (a1 : Int) (a2 : Int) (ga1 : tm_rg a1) (ga2 : tm_rg a2) (h : tm_H) (out : Int) (hk : fX9_at a1 a2 h = some out) : Met l yX9_at (tw_WS yX9_at cX9_at 2 (some .int)) rmX9_at (va_Pc [.int (tw_I a1), .int (tw_I a2)] (tw_Pre G sz h)) (tw_Qi G sz out h) 0 0 (tw_F G) := by
  refine tw_met (by decide +kernel) (Nat.le_of_ble_eq_true rfl) ?_
  intro p e s m args below meth c H ls hC hnm hR hl
  unfold fX9_at at hk
  have hl : lv_has ls 2 [(0, .int (tw_I a1)), (1, .int (tw_I a2))] := hl
  have hL : tw_L G [] := fun q z => by cases z
  generalize hlc : ([] : List Loc) = locs at hL ⊢
  refine lv_bipush (v := tw_I 61) hC.1 hC.2.1 dX9_at_0 (by decide) ?_
  refine lv_bipush (v := tw_I 41) hC.1 hC.2.1 dX9_at_2 (by decide) ?_
  refine lv_iload_n hC.1 hC.2.1 dX9_at_4 rfl (lv_at hl 0 rfl) ?_
  refine tw_imul hC dX9_at_5 ?_
  refine tw_iadd hC dX9_at_6 ?_
  refine lv_iconst (v := tw_I 1) hC.1 hC.2.1 dX9_at_7 rfl ?_
  refine tw_iadd hC dX9_at_8 ?_
  refine lv_iload_n hC.1 hC.2.1 dX9_at_9 rfl (lv_at hl 1 rfl) ?_
  refine tw_iadd hC dX9_at_10 ?_
  cases hk
  exact tw_iret hC hR hL ((tm_wr_rg _)) rfl rfl dX9_at_11
set_option maxRecDepth 100000 in
theorem kX9_at {l : Launch} {p : Program} {e : Env} {R : Room} {s : State} {m : MethodId} {args : Array Value} {below : List Frame} {meth : Method} {c : Code} {H : Heap} {locs : List Loc} {cells slots : Nat} {Q : State → Prop} {cc : ByteArray} {pc nL idx : Nat} {ls : Array Slot} {rest : List Value} {G : tw_G} {h : tm_H} {own : String} {ret : Option FieldType} {α : Type} {x : α} {sz : Nat} {a1 : Int} {a2 : Int} (hC : tw_C G p s m args meth c own cc nL ret) (hR : tw_Rel G sz h H) (hL : tw_L G locs) {F : Int → Option α} (hk : (fX9_at a1 a2 h).bind F = some x) (ga1 : tm_rg a1) (ga2 : tm_rg a2) (hl : tw_mL own idx yX9_at) (hRm : rmX9_at.frames + 1 ≤ R.frames ∧ 8 + (2 + 11) + rmX9_at.locals ≤ R.locals) (hsz : ls.size = nL) (hW : (rest.map fun v => v.category).sum ≤ 8) (hf : cells + 0 ≤ R.cells ∧ slots + 0 ≤ R.slots) (hdg : decode cc pc = .ok (.invokestatic idx, 3)) (kk : ∀ (r : Int) (H1 : Heap) (locs1 : List Loc), tw_Rel G sz h H1 → tw_L G locs1 → tm_rg r → F r = some x → W p l e R s m args below meth c H1 locs1 (cells + 0) (slots + 0) Q (F0 m (pc + 3) ls (.int (tw_I r) :: rest))) : W p l e R s m args below meth c H locs cells slots Q (F0 m pc ls (.int (tw_I a2) :: .int (tw_I a1) :: rest)) := by
  obtain ⟨r, hr, hF⟩ := Option.bind_eq_some_iff.mp hk
  exact tw_backi (tw_runS hC hR (cX9_at_ok l G sz a1 a2 ga1 ga2 h r hr) (n := 2) ⟨tw_in_TB 867 (by decide +kernel) rfl, tw_in_TB 62 (by decide +kernel) rfl, by decide +kernel⟩ (tw_in_TB 866 (by decide +kernel) rfl) hl ⟨rfl, rfl⟩ hRm rfl hsz rfl hW hdg hf) hL (fun H1 locs1 a b g => kk r H1 locs1 a b g hF)
def rmX9_baseAt : Room := { frames := 1, cells := 0, slots := 0, locals := 21 }
set_option maxRecDepth 100000 in
set_option maxHeartbeats 4000000 in
theorem cX9_baseAt_ok (l : Launch) (G : tw_G) (sz : Nat) (this : Nat) (a1 : Int) (a2 : Int) (ga1 : tm_rg a1) (ga2 : tm_rg a2) (h : tm_H) (out : Int) (hk : fX9_baseAt this a1 a2 h = some out) : Met l yX9_baseAt (tw_WS yX9_baseAt cX9_baseAt 3 (some .int)) rmX9_baseAt (va_Pc [.ref this, .int (tw_I a1), .int (tw_I a2)] (tw_Pre G sz h)) (tw_Qi G sz out h) 0 0 (tw_F G) := by
  refine tw_met (by decide +kernel) (Nat.le_of_ble_eq_true rfl) ?_
  intro p e s m args below meth c H ls hC hnm hR hl
  unfold fX9_baseAt at hk
  obtain ⟨hob, hk⟩ := tm_th_is hk
  have hl : lv_has ls 3 [(0, .ref this), (1, .int (tw_I a1)), (2, .int (tw_I a2))] := hl
  have hL : tw_L G [] := fun q z => by cases z
  generalize hlc : ([] : List Loc) = locs at hL ⊢
  refine lv_aload_n hC.1 hC.2.1 dX9_baseAt_0 rfl (lv_at hl 0 rfl) ?_
  refine tw_getR hC hR hk flX9_7 dX9_baseAt_1 (fun r1 hk => ?_)
  refine lv_iconst (v := tw_I 1) hC.1 hC.2.1 dX9_baseAt_4 rfl ?_
  refine lv_aload_n hC.1 hC.2.1 dX9_baseAt_5 rfl (lv_at hl 0 rfl) ?_
  refine tw_getR hC hR hk flX9_7 dX9_baseAt_6 (fun r2 hk => ?_)
  refine lv_iload_n hC.1 hC.2.1 dX9_baseAt_9 rfl (lv_at hl 1 rfl) ?_
  refine lv_iload_n hC.1 hC.2.1 dX9_baseAt_10 rfl (lv_at hl 2 rfl) ?_
  refine kX9_at hC hR hL hk ga1 ga2 mlX9_49 ⟨by decide, by decide⟩ hl.1 (Nat.le_of_ble_eq_true rfl) ⟨Nat.zero_le _, Nat.zero_le _⟩ dX9_baseAt_11 (fun v3 H locs hR hL gv3 hk => ?_)
  refine tw_iald hC hR hk dX9_baseAt_14 (fun v4 gv4 hk => ?_)
  refine tw_iadd hC dX9_baseAt_15 ?_
  refine tw_iald hC hR hk dX9_baseAt_16 (fun v5 gv5 hk => ?_)
  cases hk
  exact tw_iret hC hR hL gv5 rfl rfl dX9_baseAt_17
set_option maxRecDepth 100000 in
theorem kX9_baseAt {l : Launch} {p : Program} {e : Env} {R : Room} {s : State} {m : MethodId} {args : Array Value} {below : List Frame} {meth : Method} {c : Code} {H : Heap} {locs : List Loc} {cells slots : Nat} {Q : State → Prop} {cc : ByteArray} {pc nL idx : Nat} {ls : Array Slot} {rest : List Value} {G : tw_G} {h : tm_H} {own : String} {ret : Option FieldType} {α : Type} {x : α} {sz : Nat} {this : Nat} {a1 : Int} {a2 : Int} (hC : tw_C G p s m args meth c own cc nL ret) (hR : tw_Rel G sz h H) (hL : tw_L G locs) {F : Int → Option α} (hk : (fX9_baseAt this a1 a2 h).bind F = some x) (ga1 : tm_rg a1) (ga2 : tm_rg a2) (hl : tw_mL own idx yX9_baseAt) (hRm : rmX9_baseAt.frames + 1 ≤ R.frames ∧ 8 + (3 + 11) + rmX9_baseAt.locals ≤ R.locals) (hsz : ls.size = nL) (hW : (rest.map fun v => v.category).sum ≤ 8) (hf : cells + 0 ≤ R.cells ∧ slots + 0 ≤ R.slots) (hdg : decode cc pc = .ok (.invokevirtual idx, 3)) (kk : ∀ (r : Int) (H1 : Heap) (locs1 : List Loc), tw_Rel G sz h H1 → tw_L G locs1 → tm_rg r → F r = some x → W p l e R s m args below meth c H1 locs1 (cells + 0) (slots + 0) Q (F0 m (pc + 3) ls (.int (tw_I r) :: rest))) : W p l e R s m args below meth c H locs cells slots Q (F0 m pc ls (.int (tw_I a2) :: .int (tw_I a1) :: .ref this :: rest)) := by
  obtain ⟨r, hr, hF⟩ := Option.bind_eq_some_iff.mp hk
  have ob : ∀ r, fX9_baseAt this a1 a2 h = some r → tm_is h 9 this := fun r hr => by
    unfold fX9_baseAt at hr
    exact (tm_th_is hr).1
  exact tw_backi (tw_runV hC hR (cX9_baseAt_ok l G sz this a1 a2 ga1 ga2 h r hr) (n := 2) (As := [.int (tw_I a1), .int (tw_I a2)]) ⟨tw_in_TB 903 (by decide +kernel) rfl, tw_in_TB 62 (by decide +kernel) rfl, by decide +kernel⟩ (tw_in_TB 902 (by decide +kernel) rfl) (tw_in_TB 24 (by decide +kernel) rfl) hl ⟨rfl, rfl⟩ hRm (ob r hr) (T := TX9) (N := 15) rfl rfl hsz rfl hW hdg hf) hL (fun H1 locs1 a b g => kk r H1 locs1 a b g hF)
def rmX9_insert : Room := { frames := 2, cells := 0, slots := 0, locals := 43 }
set_option maxRecDepth 100000 in
set_option maxHeartbeats 4000000 in
theorem sX9_insert_S0 {l : Launch} {p : Program} {e : Env} {s : State} {m : MethodId} {args : Array Value} {below : List Frame} {meth : Method} {c : Code} (G : tw_G) (sz : Nat) (hC : tw_C G p s m args meth c RX9 cX9_insert 5 (some .int)) (this : Nat) (a1 : Int) (a2 : Int) (a3 : Int) (ga1 : tm_rg a1) (ga2 : tm_rg a2) (ga3 : tm_rg a3) : ∀ (k : Nat) (st : (Int × tm_H)) (out : Int × tm_H), tm_wit (fX9_insert_S0 this a1 a2 a3) k st = some out → match st with
    | (x4, h) => ∀ (H : Heap) (locs : List Loc) (ls : Array Slot), tm_rg x4 → tw_Rel G sz h H → tw_L G locs → lv_has ls 5 [(0, .ref this), (1, .int (tw_I a1)), (2, .int (tw_I a2)), (3, .int (tw_I a3)), (4, .int (tw_I x4))] → W p l e rmX9_insert s m args below meth c H locs 0 0 (MQ below (tw_Qi G sz out.1 out.2) args s 0 0 (tw_F G)) (F0 m 58 ls []) := by
  intro k
  induction k with
  | zero =>
    intro st out hk
    exact absurd hk (by unfold tm_wit; exact fun z => by cases z)
  | succ k ih =>
    intro st out hk
    obtain ⟨X, hk, hf⟩ := tm_wit_succ hk
    obtain ⟨x4, h⟩ := st
    intro H locs ls gx4 hR hL hl
    dsimp only [fX9_insert_S0] at hk
    refine lv_iload hC.1 hC.2.1 dX9_insert_58 (lv_at hl 4 rfl) ?_
    refine lv_iload_n hC.1 hC.2.1 dX9_insert_60 rfl (lv_at hl 2 rfl) ?_
    refine tw_cle (tgt := 94) hC hk gx4 ga2 dX9_insert_61 (by decide) (fun _ hk => ?_) (fun _ hk => ?_)
    · refine lv_aload_n hC.1 hC.2.1 dX9_insert_64 rfl (lv_at hl 0 rfl) ?_
      refine tw_getR hC hR hk flX9_7 dX9_insert_65 (fun r9 hk => ?_)
      refine lv_iload_n hC.1 hC.2.1 dX9_insert_68 rfl (lv_at hl 1 rfl) ?_
      refine lv_iload hC.1 hC.2.1 dX9_insert_69 (lv_at hl 4 rfl) ?_
      refine kX9_at hC hR hL hk ga1 gx4 mlX9_49 ⟨by decide, by decide⟩ hl.1 (Nat.le_of_ble_eq_true rfl) ⟨Nat.zero_le _, Nat.zero_le _⟩ dX9_insert_71 (fun v10 H locs hR hL gv10 hk => ?_)
      refine lv_aload_n hC.1 hC.2.1 dX9_insert_74 rfl (lv_at hl 0 rfl) ?_
      refine tw_getR hC hR hk flX9_7 dX9_insert_75 (fun r11 hk => ?_)
      refine lv_iload_n hC.1 hC.2.1 dX9_insert_78 rfl (lv_at hl 1 rfl) ?_
      refine lv_iload hC.1 hC.2.1 dX9_insert_79 (lv_at hl 4 rfl) ?_
      refine lv_iconst (v := tw_I 1) hC.1 hC.2.1 dX9_insert_81 rfl ?_
      refine tw_isub hC dX9_insert_82 ?_
      refine kX9_at hC hR hL hk ga1 ((tm_wr_rg _)) mlX9_49 ⟨by decide, by decide⟩ hl.1 (Nat.le_of_ble_eq_true rfl) ⟨Nat.zero_le _, Nat.zero_le _⟩ dX9_insert_83 (fun v12 H locs hR hL gv12 hk => ?_)
      refine tw_iald hC hR hk dX9_insert_86 (fun v13 gv13 hk => ?_)
      refine tw_iast hC hR hL gv13 hk dX9_insert_87 (fun h14 H locs hR hL hk => ?_)
      refine tw_iinc (lv' := [(4, .int (tw_I (tm_wr (x4 + (-1))))), (0, .ref this), (1, .int (tw_I a1)), (2, .int (tw_I a2)), (3, .int (tw_I a3))]) hC dX9_insert_88 hl (k := 4) rfl (by decide) rfl (fun ls hl => ?_)
      refine lv_goto (tgt := 58) hC.1 hC.2.1 dX9_insert_91 (by decide) ?_
      cases hk
      exact ih _ out hf H locs _ ((tm_wr_rg _)) hR hL (lv_sub hl [1, 2, 3, 4, 0] rfl)
    · refine lv_aload_n hC.1 hC.2.1 dX9_insert_94 rfl (lv_at hl 0 rfl) ?_
      refine tw_getR hC hR hk flX9_7 dX9_insert_95 (fun r15 hk => ?_)
      refine lv_iload_n hC.1 hC.2.1 dX9_insert_98 rfl (lv_at hl 1 rfl) ?_
      refine lv_iload_n hC.1 hC.2.1 dX9_insert_99 rfl (lv_at hl 2 rfl) ?_
      refine kX9_at hC hR hL hk ga1 ga2 mlX9_49 ⟨by decide, by decide⟩ hl.1 (Nat.le_of_ble_eq_true rfl) ⟨Nat.zero_le _, Nat.zero_le _⟩ dX9_insert_100 (fun v16 H locs hR hL gv16 hk => ?_)
      refine lv_iload_n hC.1 hC.2.1 dX9_insert_103 rfl (lv_at hl 3 rfl) ?_
      refine tw_iast hC hR hL ga3 hk dX9_insert_104 (fun h17 H locs hR hL hk => ?_)
      refine lv_aload_n hC.1 hC.2.1 dX9_insert_105 rfl (lv_at hl 0 rfl) ?_
      refine tw_getR hC hR hk flX9_7 dX9_insert_106 (fun r18 hk => ?_)
      refine lv_bipush (v := tw_I 61) hC.1 hC.2.1 dX9_insert_109 (by decide) ?_
      refine lv_bipush (v := tw_I 41) hC.1 hC.2.1 dX9_insert_111 (by decide) ?_
      refine lv_iload_n hC.1 hC.2.1 dX9_insert_113 rfl (lv_at hl 1 rfl) ?_
      refine tw_imul hC dX9_insert_114 ?_
      refine tw_iadd hC dX9_insert_115 ?_
      refine lv_dup2_11 hC.1 hC.2.1 dX9_insert_116 rfl rfl ?_
      refine tw_iald hC hR hk dX9_insert_117 (fun v19 gv19 hk => ?_)
      refine lv_iconst (v := tw_I 1) hC.1 hC.2.1 dX9_insert_118 rfl ?_
      refine tw_iadd hC dX9_insert_119 ?_
      refine tw_iast hC hR hL ((tm_wr_rg _)) hk dX9_insert_120 (fun h20 H locs hR hL hk => ?_)
      refine lv_aload_n hC.1 hC.2.1 dX9_insert_121 rfl (lv_at hl 0 rfl) ?_
      refine lv_iload_n hC.1 hC.2.1 dX9_insert_122 rfl (lv_at hl 1 rfl) ?_
      refine kX9_size hC hR hL hk ga1 mlX9_57 ⟨by decide, by decide⟩ hl.1 (Nat.le_of_ble_eq_true rfl) ⟨Nat.zero_le _, Nat.zero_le _⟩ dX9_insert_123 (fun v21 H locs hR hL gv21 hk => ?_)
      cases hk
      cases hf
      exact tw_iret hC hR hL gv21 rfl rfl dX9_insert_126
theorem sX9_insert_L58 {l : Launch} {p : Program} {e : Env} {s : State} {m : MethodId} {args : Array Value} {below : List Frame} {meth : Method} {c : Code} (G : tw_G) (sz : Nat) (hC : tw_C G p s m args meth c RX9 cX9_insert 5 (some .int)) (this : Nat) (a1 : Int) (a2 : Int) (a3 : Int) (ga1 : tm_rg a1) (ga2 : tm_rg a2) (ga3 : tm_rg a3) (x4 : Int) (h : tm_H) (gx4 : tm_rg x4) (out : Int × tm_H) (hk : fX9_insert_L58 this a1 a2 a3 x4 h = some out) (H : Heap) (locs : List Loc) (ls : Array Slot) (hR : tw_Rel G sz h H) (hL : tw_L G locs) (hl : lv_has ls 5 [(0, .ref this), (1, .int (tw_I a1)), (2, .int (tw_I a2)), (3, .int (tw_I a3)), (4, .int (tw_I x4))]) : W p l e rmX9_insert s m args below meth c H locs 0 0 (MQ below (tw_Qi G sz out.1 out.2) args s 0 0 (tw_F G)) (F0 m 58 ls []) := by
  obtain ⟨k, hk⟩ := tm_wl_iff.mp hk
  exact sX9_insert_S0 G sz hC this a1 a2 a3 ga1 ga2 ga3 k ((x4, h)) out hk H locs ls gx4 hR hL hl
set_option maxRecDepth 100000 in
set_option maxHeartbeats 4000000 in
theorem cX9_insert_ok (l : Launch) (G : tw_G) (sz : Nat) (this : Nat) (a1 : Int) (a2 : Int) (a3 : Int) (ga1 : tm_rg a1) (ga2 : tm_rg a2) (ga3 : tm_rg a3) (h : tm_H) (out : Int × tm_H) (hk : fX9_insert this a1 a2 a3 h = some out) : Met l yX9_insert (tw_WS yX9_insert cX9_insert 5 (some .int)) rmX9_insert (va_Pc [.ref this, .int (tw_I a1), .int (tw_I a2), .int (tw_I a3)] (tw_Pre G sz h)) (tw_Qi G sz out.1 out.2) 0 0 (tw_F G) := by
  refine tw_met (by decide +kernel) (Nat.le_of_ble_eq_true rfl) ?_
  intro p e s m args below meth c H ls hC hnm hR hl
  unfold fX9_insert at hk
  obtain ⟨hob, hk⟩ := tm_th_is hk
  have hl : lv_has ls 5 [(0, .ref this), (1, .int (tw_I a1)), (2, .int (tw_I a2)), (3, .int (tw_I a3))] := hl
  have hL : tw_L G [] := fun q z => by cases z
  generalize hlc : ([] : List Loc) = locs at hL ⊢
  refine lv_iload_n hC.1 hC.2.1 dX9_insert_0 rfl (lv_at hl 1 rfl) ?_
  refine kX9_isChapter hC hR hL hk ga1 mlX9_53 ⟨by decide, by decide⟩ hl.1 (Nat.le_of_ble_eq_true rfl) ⟨Nat.zero_le _, Nat.zero_le _⟩ dX9_insert_1 (fun v1 H locs hR hL gv1 hk => ?_)
  refine tw_zeq (tgt := 28) hC hk gv1 dX9_insert_4 (by decide) (fun _ hk => ?_) (fun _ hk => ?_)
  · refine lv_iconst (v := tw_I (-1)) hC.1 hC.2.1 dX9_insert_28 rfl ?_
    cases hk
    exact tw_iret hC hR hL ((tw_rgL rfl)) rfl rfl dX9_insert_29
  · refine lv_iload_n hC.1 hC.2.1 dX9_insert_7 rfl (lv_at hl 2 rfl) ?_
    refine lv_iconst (v := tw_I 0) hC.1 hC.2.1 dX9_insert_8 rfl ?_
    refine lv_aload_n hC.1 hC.2.1 dX9_insert_9 rfl (lv_at hl 0 rfl) ?_
    refine lv_iload_n hC.1 hC.2.1 dX9_insert_10 rfl (lv_at hl 1 rfl) ?_
    refine kX9_size hC hR hL hk ga1 mlX9_57 ⟨by decide, by decide⟩ hl.1 (Nat.le_of_ble_eq_true rfl) ⟨Nat.zero_le _, Nat.zero_le _⟩ dX9_insert_11 (fun v2 H locs hR hL gv2 hk => ?_)
    refine kX9_in hC hR hL hk ga2 ((tw_rgL rfl)) gv2 mlX9_45 ⟨by decide, by decide⟩ hl.1 (Nat.le_of_ble_eq_true rfl) ⟨Nat.zero_le _, Nat.zero_le _⟩ dX9_insert_14 (fun v3 H locs hR hL gv3 hk => ?_)
    refine tw_zeq (tgt := 28) hC hk gv3 dX9_insert_17 (by decide) (fun _ hk => ?_) (fun _ hk => ?_)
    · refine lv_iconst (v := tw_I (-1)) hC.1 hC.2.1 dX9_insert_28 rfl ?_
      cases hk
      exact tw_iret hC hR hL ((tw_rgL rfl)) rfl rfl dX9_insert_29
    · refine lv_aload_n hC.1 hC.2.1 dX9_insert_20 rfl (lv_at hl 0 rfl) ?_
      refine lv_iload_n hC.1 hC.2.1 dX9_insert_21 rfl (lv_at hl 3 rfl) ?_
      refine kX9_isWord hC hR hL hk ga3 mlX9_61 ⟨by decide, by decide⟩ hl.1 (Nat.le_of_ble_eq_true rfl) ⟨Nat.zero_le _, Nat.zero_le _⟩ dX9_insert_22 (fun v4 H locs hR hL gv4 hk => ?_)
      refine tw_zne (tgt := 30) hC hk gv4 dX9_insert_25 (by decide) (fun _ hk => ?_) (fun _ hk => ?_)
      · refine lv_iconst (v := tw_I (-1)) hC.1 hC.2.1 dX9_insert_28 rfl ?_
        cases hk
        exact tw_iret hC hR hL ((tw_rgL rfl)) rfl rfl dX9_insert_29
      · refine lv_aload_n hC.1 hC.2.1 dX9_insert_30 rfl (lv_at hl 0 rfl) ?_
        refine lv_iload_n hC.1 hC.2.1 dX9_insert_31 rfl (lv_at hl 1 rfl) ?_
        refine kX9_size hC hR hL hk ga1 mlX9_57 ⟨by decide, by decide⟩ hl.1 (Nat.le_of_ble_eq_true rfl) ⟨Nat.zero_le _, Nat.zero_le _⟩ dX9_insert_32 (fun v5 H locs hR hL gv5 hk => ?_)
        refine lv_bipush (v := tw_I 40) hC.1 hC.2.1 dX9_insert_35 (by decide) ?_
        refine tw_cne (tgt := 43) hC hk gv5 ((tw_rgL rfl)) dX9_insert_37 (by decide) (fun _ hk => ?_) (fun _ hk => ?_)
        · refine lv_bipush (v := tw_I (-3)) hC.1 hC.2.1 dX9_insert_40 (by decide) ?_
          cases hk
          exact tw_iret hC hR hL ((tw_rgL rfl)) rfl rfl dX9_insert_42
        · refine lv_aload_n hC.1 hC.2.1 dX9_insert_43 rfl (lv_at hl 0 rfl) ?_
          refine lv_aload_n hC.1 hC.2.1 dX9_insert_44 rfl (lv_at hl 0 rfl) ?_
          refine tw_getR hC hR hk flX9_7 dX9_insert_45 (fun r6 hk => ?_)
          refine kX9_saves hC hR hL hk mlX9_64 ⟨by decide, by decide⟩ hl.1 (Nat.le_of_ble_eq_true rfl) ⟨Nat.zero_le _, Nat.zero_le _⟩ dX9_insert_48 (fun h7 H locs hR hL hk => ?_)
          refine lv_aload_n hC.1 hC.2.1 dX9_insert_51 rfl (lv_at hl 0 rfl) ?_
          refine lv_iload_n hC.1 hC.2.1 dX9_insert_52 rfl (lv_at hl 1 rfl) ?_
          refine kX9_size hC hR hL hk ga1 mlX9_57 ⟨by decide, by decide⟩ hl.1 (Nat.le_of_ble_eq_true rfl) ⟨Nat.zero_le _, Nat.zero_le _⟩ dX9_insert_53 (fun v8 H locs hR hL gv8 hk => ?_)
          refine lv_istore (lv' := [(4, .int (tw_I v8)), (0, .ref this), (1, .int (tw_I a1)), (2, .int (tw_I a2)), (3, .int (tw_I a3))]) hC.1 hC.2.1 dX9_insert_56 hl (by decide) rfl (fun ls hl => ?_)
          exact sX9_insert_L58 G sz hC this a1 a2 a3 ga1 ga2 ga3 v8 h7 gv8 out hk H locs _ hR hL (lv_sub hl [1, 2, 3, 4, 0] rfl)
set_option maxRecDepth 100000 in
theorem kX9_insert {l : Launch} {p : Program} {e : Env} {R : Room} {s : State} {m : MethodId} {args : Array Value} {below : List Frame} {meth : Method} {c : Code} {H : Heap} {locs : List Loc} {cells slots : Nat} {Q : State → Prop} {cc : ByteArray} {pc nL idx : Nat} {ls : Array Slot} {rest : List Value} {G : tw_G} {h : tm_H} {own : String} {ret : Option FieldType} {α : Type} {x : α} {sz : Nat} {this : Nat} {a1 : Int} {a2 : Int} {a3 : Int} (hC : tw_C G p s m args meth c own cc nL ret) (hR : tw_Rel G sz h H) (hL : tw_L G locs) {F : Int × tm_H → Option α} (hk : (fX9_insert this a1 a2 a3 h).bind F = some x) (ga1 : tm_rg a1) (ga2 : tm_rg a2) (ga3 : tm_rg a3) (hl : tw_mL own idx yX9_insert) (hRm : rmX9_insert.frames + 1 ≤ R.frames ∧ 8 + (5 + 11) + rmX9_insert.locals ≤ R.locals) (hsz : ls.size = nL) (hW : (rest.map fun v => v.category).sum ≤ 8) (hf : cells + 0 ≤ R.cells ∧ slots + 0 ≤ R.slots) (hdg : decode cc pc = .ok (.invokevirtual idx, 3)) (kk : ∀ (r : Int) (h1 : tm_H) (H1 : Heap) (locs1 : List Loc), tw_Rel G sz h1 H1 → tw_L G locs1 → tm_rg r → F (r, h1) = some x → W p l e R s m args below meth c H1 locs1 (cells + 0) (slots + 0) Q (F0 m (pc + 3) ls (.int (tw_I r) :: rest))) : W p l e R s m args below meth c H locs cells slots Q (F0 m pc ls (.int (tw_I a3) :: .int (tw_I a2) :: .int (tw_I a1) :: .ref this :: rest)) := by
  obtain ⟨r, hr, hF⟩ := Option.bind_eq_some_iff.mp hk
  have ob : ∀ r, fX9_insert this a1 a2 a3 h = some r → tm_is h 9 this := fun r hr => by
    unfold fX9_insert at hr
    exact (tm_th_is hr).1
  exact tw_backi (tw_runV hC hR (cX9_insert_ok l G sz this a1 a2 a3 ga1 ga2 ga3 h r hr) (n := 3) (As := [.int (tw_I a1), .int (tw_I a2), .int (tw_I a3)]) ⟨tw_in_TB 846 (by decide +kernel) rfl, tw_in_TB 62 (by decide +kernel) rfl, by decide +kernel⟩ (tw_in_TB 844 (by decide +kernel) rfl) (tw_in_TB 845 (by decide +kernel) rfl) hl ⟨rfl, rfl⟩ hRm (ob r hr) (T := TX9) (N := 15) rfl rfl hsz rfl hW hdg hf) hL (fun H1 locs1 a b g => kk r.1 r.2 H1 locs1 a b g hF)
def rmX9_delete : Room := { frames := 2, cells := 0, slots := 0, locals := 42 }
set_option maxRecDepth 100000 in
set_option maxHeartbeats 4000000 in
theorem sX9_delete_S0 {l : Launch} {p : Program} {e : Env} {s : State} {m : MethodId} {args : Array Value} {below : List Frame} {meth : Method} {c : Code} (G : tw_G) (sz : Nat) (hC : tw_C G p s m args meth c RX9 cX9_delete 6 (some .int)) (this : Nat) (a1 : Int) (a2 : Int) (a3 : Int) (ga1 : tm_rg a1) (ga2 : tm_rg a2) (ga3 : tm_rg a3) : ∀ (k : Nat) (st : (Int × Int × tm_H)) (out : Int × tm_H), tm_wit (fX9_delete_S0 this a1 a2 a3) k st = some out → match st with
    | (x4, x5, h) => ∀ (H : Heap) (locs : List Loc) (ls : Array Slot), tm_rg x4 → tm_rg x5 → tw_Rel G sz h H → tw_L G locs → lv_has ls 6 [(0, .ref this), (1, .int (tw_I a1)), (2, .int (tw_I a2)), (3, .int (tw_I a3)), (4, .int (tw_I x4)), (5, .int (tw_I x5))] → W p l e rmX9_delete s m args below meth c H locs 0 0 (MQ below (tw_Qi G sz out.1 out.2) args s 0 0 (tw_F G)) (F0 m 57 ls []) := by
  intro k
  induction k with
  | zero =>
    intro st out hk
    exact absurd hk (by unfold tm_wit; exact fun z => by cases z)
  | succ k ih =>
    intro st out hk
    obtain ⟨X, hk, hf⟩ := tm_wit_succ hk
    obtain ⟨x4, x5, h⟩ := st
    intro H locs ls gx4 gx5 hR hL hl
    dsimp only [fX9_delete_S0] at hk
    refine lv_iload hC.1 hC.2.1 dX9_delete_57 (lv_at hl 5 rfl) ?_
    refine lv_iload hC.1 hC.2.1 dX9_delete_59 (lv_at hl 4 rfl) ?_
    refine tw_iadd hC dX9_delete_61 ?_
    refine lv_aload_n hC.1 hC.2.1 dX9_delete_62 rfl (lv_at hl 0 rfl) ?_
    refine lv_iload_n hC.1 hC.2.1 dX9_delete_63 rfl (lv_at hl 1 rfl) ?_
    refine kX9_size hC hR hL hk ga1 mlX9_57 ⟨by decide, by decide⟩ hl.1 (Nat.le_of_ble_eq_true rfl) ⟨Nat.zero_le _, Nat.zero_le _⟩ dX9_delete_64 (fun v8 H locs hR hL gv8 hk => ?_)
    refine tw_cge (tgt := 101) hC hk ((tm_wr_rg _)) gv8 dX9_delete_67 (by decide) (fun _ hk => ?_) (fun _ hk => ?_)
    · refine lv_aload_n hC.1 hC.2.1 dX9_delete_70 rfl (lv_at hl 0 rfl) ?_
      refine tw_getR hC hR hk flX9_7 dX9_delete_71 (fun r9 hk => ?_)
      refine lv_iload_n hC.1 hC.2.1 dX9_delete_74 rfl (lv_at hl 1 rfl) ?_
      refine lv_iload hC.1 hC.2.1 dX9_delete_75 (lv_at hl 5 rfl) ?_
      refine kX9_at hC hR hL hk ga1 gx5 mlX9_49 ⟨by decide, by decide⟩ hl.1 (Nat.le_of_ble_eq_true rfl) ⟨Nat.zero_le _, Nat.zero_le _⟩ dX9_delete_77 (fun v10 H locs hR hL gv10 hk => ?_)
      refine lv_aload_n hC.1 hC.2.1 dX9_delete_80 rfl (lv_at hl 0 rfl) ?_
      refine tw_getR hC hR hk flX9_7 dX9_delete_81 (fun r11 hk => ?_)
      refine lv_iload_n hC.1 hC.2.1 dX9_delete_84 rfl (lv_at hl 1 rfl) ?_
      refine lv_iload hC.1 hC.2.1 dX9_delete_85 (lv_at hl 5 rfl) ?_
      refine lv_iload hC.1 hC.2.1 dX9_delete_87 (lv_at hl 4 rfl) ?_
      refine tw_iadd hC dX9_delete_89 ?_
      refine kX9_at hC hR hL hk ga1 ((tm_wr_rg _)) mlX9_49 ⟨by decide, by decide⟩ hl.1 (Nat.le_of_ble_eq_true rfl) ⟨Nat.zero_le _, Nat.zero_le _⟩ dX9_delete_90 (fun v12 H locs hR hL gv12 hk => ?_)
      refine tw_iald hC hR hk dX9_delete_93 (fun v13 gv13 hk => ?_)
      refine tw_iast hC hR hL gv13 hk dX9_delete_94 (fun h14 H locs hR hL hk => ?_)
      refine tw_iinc (lv' := [(5, .int (tw_I (tm_wr (x5 + 1)))), (0, .ref this), (1, .int (tw_I a1)), (2, .int (tw_I a2)), (3, .int (tw_I a3)), (4, .int (tw_I x4))]) hC dX9_delete_95 hl (k := 5) rfl (by decide) rfl (fun ls hl => ?_)
      refine lv_goto (tgt := 57) hC.1 hC.2.1 dX9_delete_98 (by decide) ?_
      cases hk
      exact ih _ out hf H locs _ gx4 ((tm_wr_rg _)) hR hL (lv_sub hl [1, 2, 3, 4, 5, 0] rfl)
    · refine lv_aload_n hC.1 hC.2.1 dX9_delete_101 rfl (lv_at hl 0 rfl) ?_
      refine tw_getR hC hR hk flX9_7 dX9_delete_102 (fun r15 hk => ?_)
      refine lv_bipush (v := tw_I 61) hC.1 hC.2.1 dX9_delete_105 (by decide) ?_
      refine lv_bipush (v := tw_I 41) hC.1 hC.2.1 dX9_delete_107 (by decide) ?_
      refine lv_iload_n hC.1 hC.2.1 dX9_delete_109 rfl (lv_at hl 1 rfl) ?_
      refine tw_imul hC dX9_delete_110 ?_
      refine tw_iadd hC dX9_delete_111 ?_
      refine lv_dup2_11 hC.1 hC.2.1 dX9_delete_112 rfl rfl ?_
      refine tw_iald hC hR hk dX9_delete_113 (fun v16 gv16 hk => ?_)
      refine lv_iload hC.1 hC.2.1 dX9_delete_114 (lv_at hl 4 rfl) ?_
      refine tw_isub hC dX9_delete_116 ?_
      refine tw_iast hC hR hL ((tm_wr_rg _)) hk dX9_delete_117 (fun h17 H locs hR hL hk => ?_)
      refine lv_aload_n hC.1 hC.2.1 dX9_delete_118 rfl (lv_at hl 0 rfl) ?_
      refine lv_iload_n hC.1 hC.2.1 dX9_delete_119 rfl (lv_at hl 1 rfl) ?_
      refine kX9_size hC hR hL hk ga1 mlX9_57 ⟨by decide, by decide⟩ hl.1 (Nat.le_of_ble_eq_true rfl) ⟨Nat.zero_le _, Nat.zero_le _⟩ dX9_delete_120 (fun v18 H locs hR hL gv18 hk => ?_)
      cases hk
      cases hf
      exact tw_iret hC hR hL gv18 rfl rfl dX9_delete_123
theorem sX9_delete_L57 {l : Launch} {p : Program} {e : Env} {s : State} {m : MethodId} {args : Array Value} {below : List Frame} {meth : Method} {c : Code} (G : tw_G) (sz : Nat) (hC : tw_C G p s m args meth c RX9 cX9_delete 6 (some .int)) (this : Nat) (a1 : Int) (a2 : Int) (a3 : Int) (ga1 : tm_rg a1) (ga2 : tm_rg a2) (ga3 : tm_rg a3) (x4 : Int) (x5 : Int) (h : tm_H) (gx4 : tm_rg x4) (gx5 : tm_rg x5) (out : Int × tm_H) (hk : fX9_delete_L57 this a1 a2 a3 x4 x5 h = some out) (H : Heap) (locs : List Loc) (ls : Array Slot) (hR : tw_Rel G sz h H) (hL : tw_L G locs) (hl : lv_has ls 6 [(0, .ref this), (1, .int (tw_I a1)), (2, .int (tw_I a2)), (3, .int (tw_I a3)), (4, .int (tw_I x4)), (5, .int (tw_I x5))]) : W p l e rmX9_delete s m args below meth c H locs 0 0 (MQ below (tw_Qi G sz out.1 out.2) args s 0 0 (tw_F G)) (F0 m 57 ls []) := by
  obtain ⟨k, hk⟩ := tm_wl_iff.mp hk
  exact sX9_delete_S0 G sz hC this a1 a2 a3 ga1 ga2 ga3 k ((x4, x5, h)) out hk H locs ls gx4 gx5 hR hL hl
set_option maxRecDepth 100000 in
set_option maxHeartbeats 4000000 in
theorem cX9_delete_ok (l : Launch) (G : tw_G) (sz : Nat) (this : Nat) (a1 : Int) (a2 : Int) (a3 : Int) (ga1 : tm_rg a1) (ga2 : tm_rg a2) (ga3 : tm_rg a3) (h : tm_H) (out : Int × tm_H) (hk : fX9_delete this a1 a2 a3 h = some out) : Met l yX9_delete (tw_WS yX9_delete cX9_delete 6 (some .int)) rmX9_delete (va_Pc [.ref this, .int (tw_I a1), .int (tw_I a2), .int (tw_I a3)] (tw_Pre G sz h)) (tw_Qi G sz out.1 out.2) 0 0 (tw_F G) := by
  refine tw_met (by decide +kernel) (Nat.le_of_ble_eq_true rfl) ?_
  intro p e s m args below meth c H ls hC hnm hR hl
  unfold fX9_delete at hk
  obtain ⟨hob, hk⟩ := tm_th_is hk
  have hl : lv_has ls 6 [(0, .ref this), (1, .int (tw_I a1)), (2, .int (tw_I a2)), (3, .int (tw_I a3))] := hl
  have hL : tw_L G [] := fun q z => by cases z
  generalize hlc : ([] : List Loc) = locs at hL ⊢
  refine lv_iload_n hC.1 hC.2.1 dX9_delete_0 rfl (lv_at hl 1 rfl) ?_
  refine kX9_isChapter hC hR hL hk ga1 mlX9_53 ⟨by decide, by decide⟩ hl.1 (Nat.le_of_ble_eq_true rfl) ⟨Nat.zero_le _, Nat.zero_le _⟩ dX9_delete_1 (fun v1 H locs hR hL gv1 hk => ?_)
  refine tw_zeq (tgt := 37) hC hk gv1 dX9_delete_4 (by decide) (fun _ hk => ?_) (fun _ hk => ?_)
  · refine lv_iconst (v := tw_I (-1)) hC.1 hC.2.1 dX9_delete_37 rfl ?_
    cases hk
    exact tw_iret hC hR hL ((tw_rgL rfl)) rfl rfl dX9_delete_38
  · refine lv_iload_n hC.1 hC.2.1 dX9_delete_7 rfl (lv_at hl 2 rfl) ?_
    refine lv_iconst (v := tw_I 0) hC.1 hC.2.1 dX9_delete_8 rfl ?_
    refine lv_aload_n hC.1 hC.2.1 dX9_delete_9 rfl (lv_at hl 0 rfl) ?_
    refine lv_iload_n hC.1 hC.2.1 dX9_delete_10 rfl (lv_at hl 1 rfl) ?_
    refine kX9_size hC hR hL hk ga1 mlX9_57 ⟨by decide, by decide⟩ hl.1 (Nat.le_of_ble_eq_true rfl) ⟨Nat.zero_le _, Nat.zero_le _⟩ dX9_delete_11 (fun v2 H locs hR hL gv2 hk => ?_)
    refine lv_iconst (v := tw_I 1) hC.1 hC.2.1 dX9_delete_14 rfl ?_
    refine tw_isub hC dX9_delete_15 ?_
    refine kX9_in hC hR hL hk ga2 ((tw_rgL rfl)) ((tm_wr_rg _)) mlX9_45 ⟨by decide, by decide⟩ hl.1 (Nat.le_of_ble_eq_true rfl) ⟨Nat.zero_le _, Nat.zero_le _⟩ dX9_delete_16 (fun v3 H locs hR hL gv3 hk => ?_)
    refine tw_zeq (tgt := 37) hC hk gv3 dX9_delete_19 (by decide) (fun _ hk => ?_) (fun _ hk => ?_)
    · refine lv_iconst (v := tw_I (-1)) hC.1 hC.2.1 dX9_delete_37 rfl ?_
      cases hk
      exact tw_iret hC hR hL ((tw_rgL rfl)) rfl rfl dX9_delete_38
    · refine lv_iload_n hC.1 hC.2.1 dX9_delete_22 rfl (lv_at hl 3 rfl) ?_
      refine lv_iload_n hC.1 hC.2.1 dX9_delete_23 rfl (lv_at hl 2 rfl) ?_
      refine lv_aload_n hC.1 hC.2.1 dX9_delete_24 rfl (lv_at hl 0 rfl) ?_
      refine lv_iload_n hC.1 hC.2.1 dX9_delete_25 rfl (lv_at hl 1 rfl) ?_
      refine kX9_size hC hR hL hk ga1 mlX9_57 ⟨by decide, by decide⟩ hl.1 (Nat.le_of_ble_eq_true rfl) ⟨Nat.zero_le _, Nat.zero_le _⟩ dX9_delete_26 (fun v4 H locs hR hL gv4 hk => ?_)
      refine lv_iconst (v := tw_I 1) hC.1 hC.2.1 dX9_delete_29 rfl ?_
      refine tw_isub hC dX9_delete_30 ?_
      refine kX9_in hC hR hL hk ga3 ga2 ((tm_wr_rg _)) mlX9_45 ⟨by decide, by decide⟩ hl.1 (Nat.le_of_ble_eq_true rfl) ⟨Nat.zero_le _, Nat.zero_le _⟩ dX9_delete_31 (fun v5 H locs hR hL gv5 hk => ?_)
      refine tw_zne (tgt := 39) hC hk gv5 dX9_delete_34 (by decide) (fun _ hk => ?_) (fun _ hk => ?_)
      · refine lv_iconst (v := tw_I (-1)) hC.1 hC.2.1 dX9_delete_37 rfl ?_
        cases hk
        exact tw_iret hC hR hL ((tw_rgL rfl)) rfl rfl dX9_delete_38
      · refine lv_aload_n hC.1 hC.2.1 dX9_delete_39 rfl (lv_at hl 0 rfl) ?_
        refine lv_aload_n hC.1 hC.2.1 dX9_delete_40 rfl (lv_at hl 0 rfl) ?_
        refine tw_getR hC hR hk flX9_7 dX9_delete_41 (fun r6 hk => ?_)
        refine kX9_saves hC hR hL hk mlX9_64 ⟨by decide, by decide⟩ hl.1 (Nat.le_of_ble_eq_true rfl) ⟨Nat.zero_le _, Nat.zero_le _⟩ dX9_delete_44 (fun h7 H locs hR hL hk => ?_)
        refine lv_iload_n hC.1 hC.2.1 dX9_delete_47 rfl (lv_at hl 3 rfl) ?_
        refine lv_iload_n hC.1 hC.2.1 dX9_delete_48 rfl (lv_at hl 2 rfl) ?_
        refine tw_isub hC dX9_delete_49 ?_
        refine lv_iconst (v := tw_I 1) hC.1 hC.2.1 dX9_delete_50 rfl ?_
        refine tw_iadd hC dX9_delete_51 ?_
        refine lv_istore (lv' := [(4, .int (tw_I (tm_wr ((tm_wr (a3 - a2)) + 1)))), (0, .ref this), (1, .int (tw_I a1)), (2, .int (tw_I a2)), (3, .int (tw_I a3))]) hC.1 hC.2.1 dX9_delete_52 hl (by decide) rfl (fun ls hl => ?_)
        refine lv_iload_n hC.1 hC.2.1 dX9_delete_54 rfl (lv_at hl 3 rfl) ?_
        refine lv_istore (lv' := [(5, .int (tw_I a2)), (4, .int (tw_I (tm_wr ((tm_wr (a3 - a2)) + 1)))), (0, .ref this), (1, .int (tw_I a1)), (2, .int (tw_I a2)), (3, .int (tw_I a3))]) hC.1 hC.2.1 dX9_delete_55 hl (by decide) rfl (fun ls hl => ?_)
        exact sX9_delete_L57 G sz hC this a1 a2 a3 ga1 ga2 ga3 (tm_wr ((tm_wr (a3 - a2)) + 1)) a2 h7 ((tm_wr_rg _)) ga2 out hk H locs _ hR hL (lv_sub hl [2, 3, 4, 5, 1, 0] rfl)
set_option maxRecDepth 100000 in
theorem kX9_delete {l : Launch} {p : Program} {e : Env} {R : Room} {s : State} {m : MethodId} {args : Array Value} {below : List Frame} {meth : Method} {c : Code} {H : Heap} {locs : List Loc} {cells slots : Nat} {Q : State → Prop} {cc : ByteArray} {pc nL idx : Nat} {ls : Array Slot} {rest : List Value} {G : tw_G} {h : tm_H} {own : String} {ret : Option FieldType} {α : Type} {x : α} {sz : Nat} {this : Nat} {a1 : Int} {a2 : Int} {a3 : Int} (hC : tw_C G p s m args meth c own cc nL ret) (hR : tw_Rel G sz h H) (hL : tw_L G locs) {F : Int × tm_H → Option α} (hk : (fX9_delete this a1 a2 a3 h).bind F = some x) (ga1 : tm_rg a1) (ga2 : tm_rg a2) (ga3 : tm_rg a3) (hl : tw_mL own idx yX9_delete) (hRm : rmX9_delete.frames + 1 ≤ R.frames ∧ 8 + (6 + 11) + rmX9_delete.locals ≤ R.locals) (hsz : ls.size = nL) (hW : (rest.map fun v => v.category).sum ≤ 8) (hf : cells + 0 ≤ R.cells ∧ slots + 0 ≤ R.slots) (hdg : decode cc pc = .ok (.invokevirtual idx, 3)) (kk : ∀ (r : Int) (h1 : tm_H) (H1 : Heap) (locs1 : List Loc), tw_Rel G sz h1 H1 → tw_L G locs1 → tm_rg r → F (r, h1) = some x → W p l e R s m args below meth c H1 locs1 (cells + 0) (slots + 0) Q (F0 m (pc + 3) ls (.int (tw_I r) :: rest))) : W p l e R s m args below meth c H locs cells slots Q (F0 m pc ls (.int (tw_I a3) :: .int (tw_I a2) :: .int (tw_I a1) :: .ref this :: rest)) := by
  obtain ⟨r, hr, hF⟩ := Option.bind_eq_some_iff.mp hk
  have ob : ∀ r, fX9_delete this a1 a2 a3 h = some r → tm_is h 9 this := fun r hr => by
    unfold fX9_delete at hr
    exact (tm_th_is hr).1
  exact tw_backi (tw_runV hC hR (cX9_delete_ok l G sz this a1 a2 a3 ga1 ga2 ga3 h r hr) (n := 3) (As := [.int (tw_I a1), .int (tw_I a2), .int (tw_I a3)]) ⟨tw_in_TB 871 (by decide +kernel) rfl, tw_in_TB 62 (by decide +kernel) rfl, by decide +kernel⟩ (tw_in_TB 869 (by decide +kernel) rfl) (tw_in_TB 870 (by decide +kernel) rfl) hl ⟨rfl, rfl⟩ hRm (ob r hr) (T := TX9) (N := 15) rfl rfl hsz rfl hW hdg hf) hL (fun H1 locs1 a b g => kk r.1 r.2 H1 locs1 a b g hF)
def rmX9_replace : Room := { frames := 2, cells := 0, slots := 0, locals := 43 }
set_option maxRecDepth 100000 in
set_option maxHeartbeats 4000000 in
theorem sX9_replace_S0 {l : Launch} {p : Program} {e : Env} {s : State} {m : MethodId} {args : Array Value} {below : List Frame} {meth : Method} {c : Code} (G : tw_G) (sz : Nat) (hC : tw_C G p s m args meth c RX9 cX9_replace 7 (some .int)) (this : Nat) (a1 : Int) (a2 : Int) (ga1 : tm_rg a1) (ga2 : tm_rg a2) : ∀ (k : Nat) (st : (Int × Int × tm_H) ⊕ (Int × Int × Int × tm_H) ⊕ (Int × Int × Int × Int × tm_H) ⊕ (Int × Int × Int × Int × Nat × Int × Int × tm_H) ⊕ (Int × Int × Int × Int × tm_H)) (out : Int × tm_H), tm_wit (fX9_replace_S0 this a1 a2) k st = some out → match st with
    | .inl ((x3, x4, h)) => ∀ (H : Heap) (locs : List Loc) (ls : Array Slot), tm_rg x3 → tm_rg x4 → tw_Rel G sz h H → tw_L G locs → lv_has ls 7 [(0, .ref this), (1, .int (tw_I a1)), (2, .int (tw_I a2)), (3, .int (tw_I x3)), (4, .int (tw_I x4))] → W p l e rmX9_replace s m args below meth c H locs 0 0 (MQ below (tw_Qi G sz out.1 out.2) args s 0 0 (tw_F G)) (F0 m 36 ls [])
    | .inr (.inl ((x3, x4, x5, h))) => ∀ (H : Heap) (locs : List Loc) (ls : Array Slot), tm_rg x3 → tm_rg x4 → tm_rg x5 → tw_Rel G sz h H → tw_L G locs → lv_has ls 7 [(0, .ref this), (1, .int (tw_I a1)), (2, .int (tw_I a2)), (3, .int (tw_I x3)), (4, .int (tw_I x4)), (5, .int (tw_I x5))] → W p l e rmX9_replace s m args below meth c H locs 0 0 (MQ below (tw_Qi G sz out.1 out.2) args s 0 0 (tw_F G)) (F0 m 46 ls [])
    | .inr (.inr (.inl ((x3, x4, x5, s0, h)))) => ∀ (H : Heap) (locs : List Loc) (ls : Array Slot), tm_rg x3 → tm_rg x4 → tm_rg x5 → tm_rg s0 → tw_Rel G sz h H → tw_L G locs → lv_has ls 7 [(0, .ref this), (1, .int (tw_I a1)), (2, .int (tw_I a2)), (3, .int (tw_I x3)), (4, .int (tw_I x4)), (5, .int (tw_I x5))] → W p l e rmX9_replace s m args below meth c H locs 0 0 (MQ below (tw_Qi G sz out.1 out.2) args s 0 0 (tw_F G)) (F0 m 78 ls [.int (tw_I s0)])
    | .inr (.inr (.inr (.inl ((x3, x4, x5, x6, s0, s1, s2, h))))) => ∀ (H : Heap) (locs : List Loc) (ls : Array Slot), tm_rg x3 → tm_rg x4 → tm_rg x5 → tm_rg x6 → tm_rg s1 → tm_rg s2 → tw_Rel G sz h H → tw_L G locs → lv_has ls 7 [(0, .ref this), (1, .int (tw_I a1)), (2, .int (tw_I a2)), (3, .int (tw_I x3)), (4, .int (tw_I x4)), (5, .int (tw_I x5)), (6, .int (tw_I x6))] → W p l e rmX9_replace s m args below meth c H locs 0 0 (MQ below (tw_Qi G sz out.1 out.2) args s 0 0 (tw_F G)) (F0 m 112 ls [.int (tw_I s2), .int (tw_I s1), .ref s0])
    | .inr (.inr (.inr (.inr ((x4, x5, s0, s1, h))))) => ∀ (H : Heap) (locs : List Loc) (ls : Array Slot), tm_rg x4 → tm_rg x5 → tm_rg s0 → tm_rg s1 → tw_Rel G sz h H → tw_L G locs → lv_has ls 7 [(0, .ref this), (1, .int (tw_I a1)), (2, .int (tw_I a2)), (4, .int (tw_I x4)), (5, .int (tw_I x5))] → W p l e rmX9_replace s m args below meth c H locs 0 0 (MQ below (tw_Qi G sz out.1 out.2) args s 0 0 (tw_F G)) (F0 m 124 ls [.int (tw_I s1), .int (tw_I s0)]) := by
  intro k
  induction k with
  | zero =>
    intro st out hk
    exact absurd hk (by unfold tm_wit; exact fun z => by cases z)
  | succ k ih =>
    intro st out hk
    obtain ⟨X, hk, hf⟩ := tm_wit_succ hk
    obtain ⟨x3, x4, h⟩ | ⟨x3, x4, x5, h⟩ | ⟨x3, x4, x5, s0, h⟩ | ⟨x3, x4, x5, x6, s0, s1, s2, h⟩ | ⟨x4, x5, s0, s1, h⟩ := st
    · intro H locs ls gx3 gx4 hR hL hl
      dsimp only [fX9_replace_S0] at hk
      refine lv_iload hC.1 hC.2.1 dX9_replace_36 (lv_at hl 4 rfl) ?_
      refine lv_bipush (v := tw_I 6) hC.1 hC.2.1 dX9_replace_38 (by decide) ?_
      refine tw_cge (tgt := 138) hC hk gx4 ((tw_rgL rfl)) dX9_replace_40 (by decide) (fun _ hk => ?_) (fun _ hk => ?_)
      · refine lv_iconst (v := tw_I 0) hC.1 hC.2.1 dX9_replace_43 rfl ?_
        refine lv_istore (lv' := [(5, .int (tw_I 0)), (0, .ref this), (1, .int (tw_I a1)), (2, .int (tw_I a2)), (3, .int (tw_I x3)), (4, .int (tw_I x4))]) hC.1 hC.2.1 dX9_replace_44 hl (by decide) rfl (fun ls hl => ?_)
        cases hk
        exact ih _ out hf H locs _ gx3 gx4 ((tw_rgL rfl)) hR hL (lv_sub hl [1, 2, 3, 4, 5, 0] rfl)
      · refine lv_iload_n hC.1 hC.2.1 dX9_replace_138 rfl (lv_at hl 3 rfl) ?_
        cases hk
        cases hf
        exact tw_iret hC hR hL gx3 rfl rfl dX9_replace_139
    · intro H locs ls gx3 gx4 gx5 hR hL hl
      dsimp only [fX9_replace_S0] at hk
      refine lv_iload hC.1 hC.2.1 dX9_replace_46 (lv_at hl 5 rfl) ?_
      refine lv_aload_n hC.1 hC.2.1 dX9_replace_48 rfl (lv_at hl 0 rfl) ?_
      refine lv_iload hC.1 hC.2.1 dX9_replace_49 (lv_at hl 4 rfl) ?_
      refine kX9_size hC hR hL hk gx4 mlX9_57 ⟨by decide, by decide⟩ hl.1 (Nat.le_of_ble_eq_true rfl) ⟨Nat.zero_le _, Nat.zero_le _⟩ dX9_replace_51 (fun v5 H locs hR hL gv5 hk => ?_)
      refine tw_cge (tgt := 132) hC hk gx5 gv5 dX9_replace_54 (by decide) (fun _ hk => ?_) (fun _ hk => ?_)
      · refine lv_aload_n hC.1 hC.2.1 dX9_replace_57 rfl (lv_at hl 0 rfl) ?_
        refine tw_getR hC hR hk flX9_7 dX9_replace_58 (fun r6 hk => ?_)
        refine lv_iload hC.1 hC.2.1 dX9_replace_61 (lv_at hl 4 rfl) ?_
        refine lv_iload hC.1 hC.2.1 dX9_replace_63 (lv_at hl 5 rfl) ?_
        refine kX9_at hC hR hL hk gx4 gx5 mlX9_49 ⟨by decide, by decide⟩ hl.1 (Nat.le_of_ble_eq_true rfl) ⟨Nat.zero_le _, Nat.zero_le _⟩ dX9_replace_65 (fun v7 H locs hR hL gv7 hk => ?_)
        refine tw_iald hC hR hk dX9_replace_68 (fun v8 gv8 hk => ?_)
        refine lv_iload_n hC.1 hC.2.1 dX9_replace_69 rfl (lv_at hl 1 rfl) ?_
        refine tw_cne (tgt := 77) hC hk gv8 ga1 dX9_replace_70 (by decide) (fun _ hk => ?_) (fun _ hk => ?_)
        · refine lv_iconst (v := tw_I 1) hC.1 hC.2.1 dX9_replace_73 rfl ?_
          refine lv_goto (tgt := 78) hC.1 hC.2.1 dX9_replace_74 (by decide) ?_
          cases hk
          exact ih _ out hf H locs _ gx3 gx4 gx5 ((tw_rgL rfl)) hR hL (lv_sub hl [0, 1, 2, 3, 4, 5] rfl)
        · refine lv_iconst (v := tw_I 0) hC.1 hC.2.1 dX9_replace_77 rfl ?_
          cases hk
          exact ih _ out hf H locs _ gx3 gx4 gx5 ((tw_rgL rfl)) hR hL (lv_sub hl [0, 1, 2, 3, 4, 5] rfl)
      · refine tw_iinc (lv' := [(4, .int (tw_I (tm_wr (x4 + 1)))), (0, .ref this), (1, .int (tw_I a1)), (2, .int (tw_I a2)), (3, .int (tw_I x3)), (5, .int (tw_I x5))]) hC dX9_replace_132 hl (k := 4) rfl (by decide) rfl (fun ls hl => ?_)
        refine lv_goto (tgt := 36) hC.1 hC.2.1 dX9_replace_135 (by decide) ?_
        cases hk
        exact ih _ out hf H locs _ gx3 ((tm_wr_rg _)) hR hL (lv_sub hl [1, 2, 3, 4, 0] rfl)
    · intro H locs ls gx3 gx4 gx5 gs0 hR hL hl
      dsimp only [fX9_replace_S0] at hk
      refine lv_istore (lv' := [(6, .int (tw_I s0)), (0, .ref this), (1, .int (tw_I a1)), (2, .int (tw_I a2)), (3, .int (tw_I x3)), (4, .int (tw_I x4)), (5, .int (tw_I x5))]) hC.1 hC.2.1 dX9_replace_78 hl (by decide) rfl (fun ls hl => ?_)
      refine lv_aload_n hC.1 hC.2.1 dX9_replace_80 rfl (lv_at hl 1 rfl) ?_
      refine tw_getR hC hR hk flX9_7 dX9_replace_81 (fun r9 hk => ?_)
      refine lv_iload hC.1 hC.2.1 dX9_replace_84 (lv_at hl 5 rfl) ?_
      refine lv_iload hC.1 hC.2.1 dX9_replace_86 (lv_at hl 6 rfl) ?_
      refine kX9_at hC hR hL hk gx4 gx5 mlX9_49 ⟨by decide, by decide⟩ hl.1 (Nat.le_of_ble_eq_true rfl) ⟨Nat.zero_le _, Nat.zero_le _⟩ dX9_replace_88 (fun v10 H locs hR hL gv10 hk => ?_)
      refine lv_iload hC.1 hC.2.1 dX9_replace_91 (lv_at hl 0 rfl) ?_
      refine tw_zeq (tgt := 100) hC hk gs0 dX9_replace_93 (by decide) (fun _ hk => ?_) (fun _ hk => ?_)
      · refine lv_aload_n hC.1 hC.2.1 dX9_replace_100 rfl (lv_at hl 1 rfl) ?_
        refine tw_getR hC hR hk flX9_7 dX9_replace_101 (fun r11 hk => ?_)
        refine lv_iload hC.1 hC.2.1 dX9_replace_104 (lv_at hl 5 rfl) ?_
        refine lv_iload hC.1 hC.2.1 dX9_replace_106 (lv_at hl 6 rfl) ?_
        refine kX9_at hC hR hL hk gx4 gx5 mlX9_49 ⟨by decide, by decide⟩ hl.1 (Nat.le_of_ble_eq_true rfl) ⟨Nat.zero_le _, Nat.zero_le _⟩ dX9_replace_108 (fun v12 H locs hR hL gv12 hk => ?_)
        refine tw_iald hC hR hk dX9_replace_111 (fun v13 gv13 hk => ?_)
        cases hk
        exact ih _ out hf H locs _ gx3 gx4 gx5 gs0 gv10 gv13 hR hL (lv_sub hl [1, 2, 3, 4, 5, 6, 0] rfl)
      · refine lv_iload_n hC.1 hC.2.1 dX9_replace_96 rfl (lv_at hl 3 rfl) ?_
        refine lv_goto (tgt := 112) hC.1 hC.2.1 dX9_replace_97 (by decide) ?_
        cases hk
        exact ih _ out hf H locs _ gx3 gx4 gx5 gs0 gv10 ga2 hR hL (lv_sub hl [1, 2, 3, 4, 5, 6, 0] rfl)
    · intro H locs ls gx3 gx4 gx5 gx6 gs1 gs2 hR hL hl
      dsimp only [fX9_replace_S0] at hk
      refine tw_iast hC hR hL gs2 hk dX9_replace_112 (fun h14 H locs hR hL hk => ?_)
      refine lv_iload_n hC.1 hC.2.1 dX9_replace_113 rfl (lv_at hl 3 rfl) ?_
      refine lv_iload hC.1 hC.2.1 dX9_replace_114 (lv_at hl 6 rfl) ?_
      refine tw_zeq (tgt := 123) hC hk gx6 dX9_replace_116 (by decide) (fun _ hk => ?_) (fun _ hk => ?_)
      · refine lv_iconst (v := tw_I 0) hC.1 hC.2.1 dX9_replace_123 rfl ?_
        cases hk
        exact ih _ out hf H locs _ gx4 gx5 gx3 ((tw_rgL rfl)) hR hL (lv_sub hl [0, 1, 2, 4, 5] rfl)
      · refine lv_iconst (v := tw_I 1) hC.1 hC.2.1 dX9_replace_119 rfl ?_
        refine lv_goto (tgt := 124) hC.1 hC.2.1 dX9_replace_120 (by decide) ?_
        cases hk
        exact ih _ out hf H locs _ gx4 gx5 gx3 ((tw_rgL rfl)) hR hL (lv_sub hl [0, 1, 2, 4, 5] rfl)
    · intro H locs ls gx4 gx5 gs0 gs1 hR hL hl
      dsimp only [fX9_replace_S0] at hk
      refine tw_iadd hC dX9_replace_124 ?_
      refine lv_istore_n (lv' := [(3, .int (tw_I (tm_wr (s0 + s1)))), (0, .ref this), (1, .int (tw_I a1)), (2, .int (tw_I a2)), (4, .int (tw_I x4)), (5, .int (tw_I x5))]) hC.1 hC.2.1 dX9_replace_125 rfl hl (by decide) rfl (fun ls hl => ?_)
      refine tw_iinc (lv' := [(5, .int (tw_I (tm_wr (x5 + 1)))), (3, .int (tw_I (tm_wr (s0 + s1)))), (0, .ref this), (1, .int (tw_I a1)), (2, .int (tw_I a2)), (4, .int (tw_I x4))]) hC dX9_replace_126 hl (k := 5) rfl (by decide) rfl (fun ls hl => ?_)
      refine lv_goto (tgt := 46) hC.1 hC.2.1 dX9_replace_129 (by decide) ?_
      cases hk
      exact ih _ out hf H locs _ ((tm_wr_rg _)) gx4 ((tm_wr_rg _)) hR hL (lv_sub hl [2, 3, 4, 1, 5, 0] rfl)
theorem sX9_replace_L36 {l : Launch} {p : Program} {e : Env} {s : State} {m : MethodId} {args : Array Value} {below : List Frame} {meth : Method} {c : Code} (G : tw_G) (sz : Nat) (hC : tw_C G p s m args meth c RX9 cX9_replace 7 (some .int)) (this : Nat) (a1 : Int) (a2 : Int) (ga1 : tm_rg a1) (ga2 : tm_rg a2) (x3 : Int) (x4 : Int) (h : tm_H) (gx3 : tm_rg x3) (gx4 : tm_rg x4) (out : Int × tm_H) (hk : fX9_replace_L36 this a1 a2 x3 x4 h = some out) (H : Heap) (locs : List Loc) (ls : Array Slot) (hR : tw_Rel G sz h H) (hL : tw_L G locs) (hl : lv_has ls 7 [(0, .ref this), (1, .int (tw_I a1)), (2, .int (tw_I a2)), (3, .int (tw_I x3)), (4, .int (tw_I x4))]) : W p l e rmX9_replace s m args below meth c H locs 0 0 (MQ below (tw_Qi G sz out.1 out.2) args s 0 0 (tw_F G)) (F0 m 36 ls []) := by
  obtain ⟨k, hk⟩ := tm_wl_iff.mp hk
  exact sX9_replace_S0 G sz hC this a1 a2 ga1 ga2 k (.inl ((x3, x4, h))) out hk H locs ls gx3 gx4 hR hL hl
theorem sX9_replace_L46 {l : Launch} {p : Program} {e : Env} {s : State} {m : MethodId} {args : Array Value} {below : List Frame} {meth : Method} {c : Code} (G : tw_G) (sz : Nat) (hC : tw_C G p s m args meth c RX9 cX9_replace 7 (some .int)) (this : Nat) (a1 : Int) (a2 : Int) (ga1 : tm_rg a1) (ga2 : tm_rg a2) (x3 : Int) (x4 : Int) (x5 : Int) (h : tm_H) (gx3 : tm_rg x3) (gx4 : tm_rg x4) (gx5 : tm_rg x5) (out : Int × tm_H) (hk : fX9_replace_L46 this a1 a2 x3 x4 x5 h = some out) (H : Heap) (locs : List Loc) (ls : Array Slot) (hR : tw_Rel G sz h H) (hL : tw_L G locs) (hl : lv_has ls 7 [(0, .ref this), (1, .int (tw_I a1)), (2, .int (tw_I a2)), (3, .int (tw_I x3)), (4, .int (tw_I x4)), (5, .int (tw_I x5))]) : W p l e rmX9_replace s m args below meth c H locs 0 0 (MQ below (tw_Qi G sz out.1 out.2) args s 0 0 (tw_F G)) (F0 m 46 ls []) := by
  obtain ⟨k, hk⟩ := tm_wl_iff.mp hk
  exact sX9_replace_S0 G sz hC this a1 a2 ga1 ga2 k (.inr (.inl ((x3, x4, x5, h)))) out hk H locs ls gx3 gx4 gx5 hR hL hl
theorem sX9_replace_L78 {l : Launch} {p : Program} {e : Env} {s : State} {m : MethodId} {args : Array Value} {below : List Frame} {meth : Method} {c : Code} (G : tw_G) (sz : Nat) (hC : tw_C G p s m args meth c RX9 cX9_replace 7 (some .int)) (this : Nat) (a1 : Int) (a2 : Int) (ga1 : tm_rg a1) (ga2 : tm_rg a2) (x3 : Int) (x4 : Int) (x5 : Int) (s0 : Int) (h : tm_H) (gx3 : tm_rg x3) (gx4 : tm_rg x4) (gx5 : tm_rg x5) (gs0 : tm_rg s0) (out : Int × tm_H) (hk : fX9_replace_L78 this a1 a2 x3 x4 x5 s0 h = some out) (H : Heap) (locs : List Loc) (ls : Array Slot) (hR : tw_Rel G sz h H) (hL : tw_L G locs) (hl : lv_has ls 7 [(0, .ref this), (1, .int (tw_I a1)), (2, .int (tw_I a2)), (3, .int (tw_I x3)), (4, .int (tw_I x4)), (5, .int (tw_I x5))]) : W p l e rmX9_replace s m args below meth c H locs 0 0 (MQ below (tw_Qi G sz out.1 out.2) args s 0 0 (tw_F G)) (F0 m 78 ls [.int (tw_I s0)]) := by
  obtain ⟨k, hk⟩ := tm_wl_iff.mp hk
  exact sX9_replace_S0 G sz hC this a1 a2 ga1 ga2 k (.inr (.inr (.inl ((x3, x4, x5, s0, h))))) out hk H locs ls gx3 gx4 gx5 gs0 hR hL hl
theorem sX9_replace_L112 {l : Launch} {p : Program} {e : Env} {s : State} {m : MethodId} {args : Array Value} {below : List Frame} {meth : Method} {c : Code} (G : tw_G) (sz : Nat) (hC : tw_C G p s m args meth c RX9 cX9_replace 7 (some .int)) (this : Nat) (a1 : Int) (a2 : Int) (ga1 : tm_rg a1) (ga2 : tm_rg a2) (x3 : Int) (x4 : Int) (x5 : Int) (x6 : Int) (s0 : Nat) (s1 : Int) (s2 : Int) (h : tm_H) (gx3 : tm_rg x3) (gx4 : tm_rg x4) (gx5 : tm_rg x5) (gx6 : tm_rg x6) (gs1 : tm_rg s1) (gs2 : tm_rg s2) (out : Int × tm_H) (hk : fX9_replace_L112 this a1 a2 x3 x4 x5 x6 s0 s1 s2 h = some out) (H : Heap) (locs : List Loc) (ls : Array Slot) (hR : tw_Rel G sz h H) (hL : tw_L G locs) (hl : lv_has ls 7 [(0, .ref this), (1, .int (tw_I a1)), (2, .int (tw_I a2)), (3, .int (tw_I x3)), (4, .int (tw_I x4)), (5, .int (tw_I x5)), (6, .int (tw_I x6))]) : W p l e rmX9_replace s m args below meth c H locs 0 0 (MQ below (tw_Qi G sz out.1 out.2) args s 0 0 (tw_F G)) (F0 m 112 ls [.int (tw_I s2), .int (tw_I s1), .ref s0]) := by
  obtain ⟨k, hk⟩ := tm_wl_iff.mp hk
  exact sX9_replace_S0 G sz hC this a1 a2 ga1 ga2 k (.inr (.inr (.inr (.inl ((x3, x4, x5, x6, s0, s1, s2, h)))))) out hk H locs ls gx3 gx4 gx5 gx6 gs1 gs2 hR hL hl
theorem sX9_replace_L124 {l : Launch} {p : Program} {e : Env} {s : State} {m : MethodId} {args : Array Value} {below : List Frame} {meth : Method} {c : Code} (G : tw_G) (sz : Nat) (hC : tw_C G p s m args meth c RX9 cX9_replace 7 (some .int)) (this : Nat) (a1 : Int) (a2 : Int) (ga1 : tm_rg a1) (ga2 : tm_rg a2) (x4 : Int) (x5 : Int) (s0 : Int) (s1 : Int) (h : tm_H) (gx4 : tm_rg x4) (gx5 : tm_rg x5) (gs0 : tm_rg s0) (gs1 : tm_rg s1) (out : Int × tm_H) (hk : fX9_replace_L124 this a1 a2 x4 x5 s0 s1 h = some out) (H : Heap) (locs : List Loc) (ls : Array Slot) (hR : tw_Rel G sz h H) (hL : tw_L G locs) (hl : lv_has ls 7 [(0, .ref this), (1, .int (tw_I a1)), (2, .int (tw_I a2)), (4, .int (tw_I x4)), (5, .int (tw_I x5))]) : W p l e rmX9_replace s m args below meth c H locs 0 0 (MQ below (tw_Qi G sz out.1 out.2) args s 0 0 (tw_F G)) (F0 m 124 ls [.int (tw_I s1), .int (tw_I s0)]) := by
  obtain ⟨k, hk⟩ := tm_wl_iff.mp hk
  exact sX9_replace_S0 G sz hC this a1 a2 ga1 ga2 k (.inr (.inr (.inr (.inr ((x4, x5, s0, s1, h)))))) out hk H locs ls gx4 gx5 gs0 gs1 hR hL hl
set_option maxRecDepth 100000 in
set_option maxHeartbeats 4000000 in
theorem cX9_replace_ok (l : Launch) (G : tw_G) (sz : Nat) (this : Nat) (a1 : Int) (a2 : Int) (ga1 : tm_rg a1) (ga2 : tm_rg a2) (h : tm_H) (out : Int × tm_H) (hk : fX9_replace this a1 a2 h = some out) : Met l yX9_replace (tw_WS yX9_replace cX9_replace 7 (some .int)) rmX9_replace (va_Pc [.ref this, .int (tw_I a1), .int (tw_I a2)] (tw_Pre G sz h)) (tw_Qi G sz out.1 out.2) 0 0 (tw_F G) := by
  refine tw_met (by decide +kernel) (Nat.le_of_ble_eq_true rfl) ?_
  intro p e s m args below meth c H ls hC hnm hR hl
  unfold fX9_replace at hk
  obtain ⟨hob, hk⟩ := tm_th_is hk
  have hl : lv_has ls 7 [(0, .ref this), (1, .int (tw_I a1)), (2, .int (tw_I a2))] := hl
  have hL : tw_L G [] := fun q z => by cases z
  generalize hlc : ([] : List Loc) = locs at hL ⊢
  refine lv_aload_n hC.1 hC.2.1 dX9_replace_0 rfl (lv_at hl 0 rfl) ?_
  refine lv_iload_n hC.1 hC.2.1 dX9_replace_1 rfl (lv_at hl 1 rfl) ?_
  refine kX9_isWord hC hR hL hk ga1 mlX9_61 ⟨by decide, by decide⟩ hl.1 (Nat.le_of_ble_eq_true rfl) ⟨Nat.zero_le _, Nat.zero_le _⟩ dX9_replace_2 (fun v1 H locs hR hL gv1 hk => ?_)
  refine tw_zeq (tgt := 21) hC hk gv1 dX9_replace_5 (by decide) (fun _ hk => ?_) (fun _ hk => ?_)
  · refine lv_iconst (v := tw_I (-1)) hC.1 hC.2.1 dX9_replace_21 rfl ?_
    cases hk
    exact tw_iret hC hR hL ((tw_rgL rfl)) rfl rfl dX9_replace_22
  · refine lv_aload_n hC.1 hC.2.1 dX9_replace_8 rfl (lv_at hl 0 rfl) ?_
    refine lv_iload_n hC.1 hC.2.1 dX9_replace_9 rfl (lv_at hl 2 rfl) ?_
    refine kX9_isWord hC hR hL hk ga2 mlX9_61 ⟨by decide, by decide⟩ hl.1 (Nat.le_of_ble_eq_true rfl) ⟨Nat.zero_le _, Nat.zero_le _⟩ dX9_replace_10 (fun v2 H locs hR hL gv2 hk => ?_)
    refine tw_zeq (tgt := 21) hC hk gv2 dX9_replace_13 (by decide) (fun _ hk => ?_) (fun _ hk => ?_)
    · refine lv_iconst (v := tw_I (-1)) hC.1 hC.2.1 dX9_replace_21 rfl ?_
      cases hk
      exact tw_iret hC hR hL ((tw_rgL rfl)) rfl rfl dX9_replace_22
    · refine lv_iload_n hC.1 hC.2.1 dX9_replace_16 rfl (lv_at hl 1 rfl) ?_
      refine lv_iload_n hC.1 hC.2.1 dX9_replace_17 rfl (lv_at hl 2 rfl) ?_
      refine tw_cne (tgt := 23) hC hk ga1 ga2 dX9_replace_18 (by decide) (fun _ hk => ?_) (fun _ hk => ?_)
      · refine lv_iconst (v := tw_I (-1)) hC.1 hC.2.1 dX9_replace_21 rfl ?_
        cases hk
        exact tw_iret hC hR hL ((tw_rgL rfl)) rfl rfl dX9_replace_22
      · refine lv_aload_n hC.1 hC.2.1 dX9_replace_23 rfl (lv_at hl 0 rfl) ?_
        refine lv_aload_n hC.1 hC.2.1 dX9_replace_24 rfl (lv_at hl 0 rfl) ?_
        refine tw_getR hC hR hk flX9_7 dX9_replace_25 (fun r3 hk => ?_)
        refine kX9_saves hC hR hL hk mlX9_64 ⟨by decide, by decide⟩ hl.1 (Nat.le_of_ble_eq_true rfl) ⟨Nat.zero_le _, Nat.zero_le _⟩ dX9_replace_28 (fun h4 H locs hR hL hk => ?_)
        refine lv_iconst (v := tw_I 0) hC.1 hC.2.1 dX9_replace_31 rfl ?_
        refine lv_istore_n (lv' := [(3, .int (tw_I 0)), (0, .ref this), (1, .int (tw_I a1)), (2, .int (tw_I a2))]) hC.1 hC.2.1 dX9_replace_32 rfl hl (by decide) rfl (fun ls hl => ?_)
        refine lv_iconst (v := tw_I 0) hC.1 hC.2.1 dX9_replace_33 rfl ?_
        refine lv_istore (lv' := [(4, .int (tw_I 0)), (3, .int (tw_I 0)), (0, .ref this), (1, .int (tw_I a1)), (2, .int (tw_I a2))]) hC.1 hC.2.1 dX9_replace_34 hl (by decide) rfl (fun ls hl => ?_)
        exact sX9_replace_L36 G sz hC this a1 a2 ga1 ga2 0 0 h4 ((tw_rgL rfl)) ((tw_rgL rfl)) out hk H locs _ hR hL (lv_sub hl [2, 3, 4, 1, 0] rfl)
set_option maxRecDepth 100000 in
theorem kX9_replace {l : Launch} {p : Program} {e : Env} {R : Room} {s : State} {m : MethodId} {args : Array Value} {below : List Frame} {meth : Method} {c : Code} {H : Heap} {locs : List Loc} {cells slots : Nat} {Q : State → Prop} {cc : ByteArray} {pc nL idx : Nat} {ls : Array Slot} {rest : List Value} {G : tw_G} {h : tm_H} {own : String} {ret : Option FieldType} {α : Type} {x : α} {sz : Nat} {this : Nat} {a1 : Int} {a2 : Int} (hC : tw_C G p s m args meth c own cc nL ret) (hR : tw_Rel G sz h H) (hL : tw_L G locs) {F : Int × tm_H → Option α} (hk : (fX9_replace this a1 a2 h).bind F = some x) (ga1 : tm_rg a1) (ga2 : tm_rg a2) (hl : tw_mL own idx yX9_replace) (hRm : rmX9_replace.frames + 1 ≤ R.frames ∧ 8 + (7 + 11) + rmX9_replace.locals ≤ R.locals) (hsz : ls.size = nL) (hW : (rest.map fun v => v.category).sum ≤ 8) (hf : cells + 0 ≤ R.cells ∧ slots + 0 ≤ R.slots) (hdg : decode cc pc = .ok (.invokevirtual idx, 3)) (kk : ∀ (r : Int) (h1 : tm_H) (H1 : Heap) (locs1 : List Loc), tw_Rel G sz h1 H1 → tw_L G locs1 → tm_rg r → F (r, h1) = some x → W p l e R s m args below meth c H1 locs1 (cells + 0) (slots + 0) Q (F0 m (pc + 3) ls (.int (tw_I r) :: rest))) : W p l e R s m args below meth c H locs cells slots Q (F0 m pc ls (.int (tw_I a2) :: .int (tw_I a1) :: .ref this :: rest)) := by
  obtain ⟨r, hr, hF⟩ := Option.bind_eq_some_iff.mp hk
  have ob : ∀ r, fX9_replace this a1 a2 h = some r → tm_is h 9 this := fun r hr => by
    unfold fX9_replace at hr
    exact (tm_th_is hr).1
  exact tw_backi (tw_runV hC hR (cX9_replace_ok l G sz this a1 a2 ga1 ga2 h r hr) (n := 2) (As := [.int (tw_I a1), .int (tw_I a2)]) ⟨tw_in_TB 875 (by decide +kernel) rfl, tw_in_TB 62 (by decide +kernel) rfl, by decide +kernel⟩ (tw_in_TB 873 (by decide +kernel) rfl) (tw_in_TB 874 (by decide +kernel) rfl) hl ⟨rfl, rfl⟩ hRm (ob r hr) (T := TX9) (N := 15) rfl rfl hsz rfl hW hdg hf) hL (fun H1 locs1 a b g => kk r.1 r.2 H1 locs1 a b g hF)
def rmX9_ofTerm : Room := { frames := 0, cells := 0, slots := 0, locals := 0 }
set_option maxRecDepth 100000 in
set_option maxHeartbeats 4000000 in
theorem cX9_ofTerm_ok (l : Launch) (G : tw_G) (sz : Nat) (this : Nat) (a1 : Int) (a2 : Int) (ga1 : tm_rg a1) (ga2 : tm_rg a2) (h : tm_H) (out : Int) (hk : fX9_ofTerm this a1 a2 h = some out) : Met l yX9_ofTerm (tw_WS yX9_ofTerm cX9_ofTerm 3 (some .int)) rmX9_ofTerm (va_Pc [.ref this, .int (tw_I a1), .int (tw_I a2)] (tw_Pre G sz h)) (tw_Qi G sz out h) 0 0 (tw_F G) := by
  refine tw_met (by decide +kernel) (Nat.le_of_ble_eq_true rfl) ?_
  intro p e s m args below meth c H ls hC hnm hR hl
  unfold fX9_ofTerm at hk
  obtain ⟨hob, hk⟩ := tm_th_is hk
  have hl : lv_has ls 3 [(0, .ref this), (1, .int (tw_I a1)), (2, .int (tw_I a2))] := hl
  have hL : tw_L G [] := fun q z => by cases z
  generalize hlc : ([] : List Loc) = locs at hL ⊢
  refine lv_iload_n hC.1 hC.2.1 dX9_ofTerm_0 rfl (lv_at hl 1 rfl) ?_
  refine lv_bipush (v := tw_I 12) hC.1 hC.2.1 dX9_ofTerm_1 (by decide) ?_
  refine tw_cne (tgt := 15) hC hk ga1 ((tw_rgL rfl)) dX9_ofTerm_3 (by decide) (fun _ hk => ?_) (fun _ hk => ?_)
  · refine lv_aload_n hC.1 hC.2.1 dX9_ofTerm_6 rfl (lv_at hl 0 rfl) ?_
    refine tw_getR hC hR hk flX9_25 dX9_ofTerm_7 (fun r1 hk => ?_)
    refine lv_iload_n hC.1 hC.2.1 dX9_ofTerm_10 rfl (lv_at hl 2 rfl) ?_
    refine tw_iald hC hR hk dX9_ofTerm_11 (fun v2 gv2 hk => ?_)
    refine lv_goto (tgt := 30) hC.1 hC.2.1 dX9_ofTerm_12 (by decide) ?_
    cases hk
    exact tw_iret hC hR hL gv2 rfl rfl dX9_ofTerm_30
  · refine lv_aload_n hC.1 hC.2.1 dX9_ofTerm_15 rfl (lv_at hl 0 rfl) ?_
    refine tw_getR hC hR hk flX9_7 dX9_ofTerm_16 (fun r3 hk => ?_)
    refine lv_sipush (v := tw_I 308) hC.1 hC.2.1 dX9_ofTerm_19 (by decide) ?_
    refine lv_bipush (v := tw_I 6) hC.1 hC.2.1 dX9_ofTerm_22 (by decide) ?_
    refine lv_iload_n hC.1 hC.2.1 dX9_ofTerm_24 rfl (lv_at hl 1 rfl) ?_
    refine tw_imul hC dX9_ofTerm_25 ?_
    refine tw_iadd hC dX9_ofTerm_26 ?_
    refine lv_iload_n hC.1 hC.2.1 dX9_ofTerm_27 rfl (lv_at hl 2 rfl) ?_
    refine tw_iadd hC dX9_ofTerm_28 ?_
    refine tw_iald hC hR hk dX9_ofTerm_29 (fun v4 gv4 hk => ?_)
    cases hk
    exact tw_iret hC hR hL gv4 rfl rfl dX9_ofTerm_30
set_option maxRecDepth 100000 in
theorem kX9_ofTerm {l : Launch} {p : Program} {e : Env} {R : Room} {s : State} {m : MethodId} {args : Array Value} {below : List Frame} {meth : Method} {c : Code} {H : Heap} {locs : List Loc} {cells slots : Nat} {Q : State → Prop} {cc : ByteArray} {pc nL idx : Nat} {ls : Array Slot} {rest : List Value} {G : tw_G} {h : tm_H} {own : String} {ret : Option FieldType} {α : Type} {x : α} {sz : Nat} {this : Nat} {a1 : Int} {a2 : Int} (hC : tw_C G p s m args meth c own cc nL ret) (hR : tw_Rel G sz h H) (hL : tw_L G locs) {F : Int → Option α} (hk : (fX9_ofTerm this a1 a2 h).bind F = some x) (ga1 : tm_rg a1) (ga2 : tm_rg a2) (hl : tw_mL own idx yX9_ofTerm) (hRm : rmX9_ofTerm.frames + 1 ≤ R.frames ∧ 8 + (3 + 11) + rmX9_ofTerm.locals ≤ R.locals) (hsz : ls.size = nL) (hW : (rest.map fun v => v.category).sum ≤ 8) (hf : cells + 0 ≤ R.cells ∧ slots + 0 ≤ R.slots) (hdg : decode cc pc = .ok (.invokevirtual idx, 3)) (kk : ∀ (r : Int) (H1 : Heap) (locs1 : List Loc), tw_Rel G sz h H1 → tw_L G locs1 → tm_rg r → F r = some x → W p l e R s m args below meth c H1 locs1 (cells + 0) (slots + 0) Q (F0 m (pc + 3) ls (.int (tw_I r) :: rest))) : W p l e R s m args below meth c H locs cells slots Q (F0 m pc ls (.int (tw_I a2) :: .int (tw_I a1) :: .ref this :: rest)) := by
  obtain ⟨r, hr, hF⟩ := Option.bind_eq_some_iff.mp hk
  have ob : ∀ r, fX9_ofTerm this a1 a2 h = some r → tm_is h 9 this := fun r hr => by
    unfold fX9_ofTerm at hr
    exact (tm_th_is hr).1
  exact tw_backi (tw_runV hC hR (cX9_ofTerm_ok l G sz this a1 a2 ga1 ga2 h r hr) (n := 2) (As := [.int (tw_I a1), .int (tw_I a2)]) ⟨tw_in_TB 899 (by decide +kernel) rfl, tw_in_TB 62 (by decide +kernel) rfl, by decide +kernel⟩ (tw_in_TB 898 (by decide +kernel) rfl) (tw_in_TB 23 (by decide +kernel) rfl) hl ⟨rfl, rfl⟩ hRm (ob r hr) (T := TX9) (N := 15) rfl rfl hsz rfl hW hdg hf) hL (fun H1 locs1 a b g => kk r H1 locs1 a b g hF)
def rmX9_occurs : Room := { frames := 2, cells := 0, slots := 0, locals := 43 }
set_option maxRecDepth 100000 in
set_option maxHeartbeats 4000000 in
theorem sX9_occurs_S0 {l : Launch} {p : Program} {e : Env} {s : State} {m : MethodId} {args : Array Value} {below : List Frame} {meth : Method} {c : Code} (G : tw_G) (sz : Nat) (hC : tw_C G p s m args meth c RX9 cX9_occurs 6 (some .boolean)) (this : Nat) (a1 : Int) (a2 : Int) (a3 : Int) (ga1 : tm_rg a1) (ga2 : tm_rg a2) (ga3 : tm_rg a3) (h : tm_H) : ∀ (k : Nat) (st : (Int × Int) ⊕ (Int × Int)) (out : Int), tm_wit (fX9_occurs_S0 this a1 a2 a3 h) k st = some out → match st with
    | .inl ((x4, x5)) => ∀ (H : Heap) (locs : List Loc) (ls : Array Slot), tm_rg x4 → tm_rg x5 → tw_Rel G sz h H → tw_L G locs → lv_has ls 6 [(0, .ref this), (1, .int (tw_I a1)), (2, .int (tw_I a2)), (3, .int (tw_I a3)), (4, .int (tw_I x4)), (5, .int (tw_I x5))] → W p l e rmX9_occurs s m args below meth c H locs 0 0 (MQ below (tw_Qi G sz out h) args s 0 0 (tw_F G)) (F0 m 26 ls [])
    | .inr ((x5, s0)) => ∀ (H : Heap) (locs : List Loc) (ls : Array Slot), tm_rg x5 → tm_rg s0 → tw_Rel G sz h H → tw_L G locs → lv_has ls 6 [(0, .ref this), (1, .int (tw_I a1)), (2, .int (tw_I a2)), (3, .int (tw_I a3)), (5, .int (tw_I x5))] → W p l e rmX9_occurs s m args below meth c H locs 0 0 (MQ below (tw_Qi G sz out h) args s 0 0 (tw_F G)) (F0 m 75 ls [.int (tw_I s0)]) := by
  intro k
  induction k with
  | zero =>
    intro st out hk
    exact absurd hk (by unfold tm_wit; exact fun z => by cases z)
  | succ k ih =>
    intro st out hk
    obtain ⟨X, hk, hf⟩ := tm_wit_succ hk
    obtain ⟨x4, x5⟩ | ⟨x5, s0⟩ := st
    · intro H locs ls gx4 gx5 hR hL hl
      dsimp only [fX9_occurs_S0] at hk
      refine lv_iload hC.1 hC.2.1 dX9_occurs_26 (lv_at hl 5 rfl) ?_
      refine lv_aload_n hC.1 hC.2.1 dX9_occurs_28 rfl (lv_at hl 0 rfl) ?_
      refine lv_iload_n hC.1 hC.2.1 dX9_occurs_29 rfl (lv_at hl 1 rfl) ?_
      refine lv_iconst (v := tw_I 0) hC.1 hC.2.1 dX9_occurs_30 rfl ?_
      refine kX9_ofTerm hC hR hL hk ga1 ((tw_rgL rfl)) mlX9_71 ⟨by decide, by decide⟩ hl.1 (Nat.le_of_ble_eq_true rfl) ⟨Nat.zero_le _, Nat.zero_le _⟩ dX9_occurs_31 (fun v3 H locs hR hL gv3 hk => ?_)
      refine tw_cge (tgt := 83) hC hk gx5 gv3 dX9_occurs_34 (by decide) (fun _ hk => ?_) (fun _ hk => ?_)
      · refine lv_iload hC.1 hC.2.1 dX9_occurs_37 (lv_at hl 4 rfl) ?_
        refine tw_zeq (tgt := 83) hC hk gx4 dX9_occurs_39 (by decide) (fun _ hk => ?_) (fun _ hk => ?_)
        · refine lv_iload hC.1 hC.2.1 dX9_occurs_83 (lv_at hl 4 rfl) ?_
          obtain ⟨z, hz, hk⟩ := Option.bind_eq_some_iff.mp hk
          cases hk
          cases hf
          exact tw_zret hC hR hL hz rfl dX9_occurs_85
        · refine lv_aload_n hC.1 hC.2.1 dX9_occurs_42 rfl (lv_at hl 0 rfl) ?_
          refine lv_iload_n hC.1 hC.2.1 dX9_occurs_43 rfl (lv_at hl 2 rfl) ?_
          refine lv_iload_n hC.1 hC.2.1 dX9_occurs_44 rfl (lv_at hl 3 rfl) ?_
          refine lv_iload hC.1 hC.2.1 dX9_occurs_45 (lv_at hl 5 rfl) ?_
          refine tw_iadd hC dX9_occurs_47 ?_
          refine kX9_baseAt hC hR hL hk ga2 ((tm_wr_rg _)) mlX9_105 ⟨by decide, by decide⟩ hl.1 (Nat.le_of_ble_eq_true rfl) ⟨Nat.zero_le _, Nat.zero_le _⟩ dX9_occurs_48 (fun v4 H locs hR hL gv4 hk => ?_)
          refine lv_aload_n hC.1 hC.2.1 dX9_occurs_51 rfl (lv_at hl 0 rfl) ?_
          refine tw_getR hC hR hk flX9_7 dX9_occurs_52 (fun r5 hk => ?_)
          refine lv_iconst (v := tw_I 1) hC.1 hC.2.1 dX9_occurs_55 rfl ?_
          refine lv_aload_n hC.1 hC.2.1 dX9_occurs_56 rfl (lv_at hl 0 rfl) ?_
          refine lv_iload_n hC.1 hC.2.1 dX9_occurs_57 rfl (lv_at hl 1 rfl) ?_
          refine lv_iload hC.1 hC.2.1 dX9_occurs_58 (lv_at hl 5 rfl) ?_
          refine lv_iconst (v := tw_I 1) hC.1 hC.2.1 dX9_occurs_60 rfl ?_
          refine tw_iadd hC dX9_occurs_61 ?_
          refine kX9_ofTerm hC hR hL hk ga1 ((tm_wr_rg _)) mlX9_71 ⟨by decide, by decide⟩ hl.1 (Nat.le_of_ble_eq_true rfl) ⟨Nat.zero_le _, Nat.zero_le _⟩ dX9_occurs_62 (fun v6 H locs hR hL gv6 hk => ?_)
          refine tw_iadd hC dX9_occurs_65 ?_
          refine tw_iald hC hR hk dX9_occurs_66 (fun v7 gv7 hk => ?_)
          refine tw_cne (tgt := 74) hC hk gv4 gv7 dX9_occurs_67 (by decide) (fun _ hk => ?_) (fun _ hk => ?_)
          · refine lv_iconst (v := tw_I 1) hC.1 hC.2.1 dX9_occurs_70 rfl ?_
            refine lv_goto (tgt := 75) hC.1 hC.2.1 dX9_occurs_71 (by decide) ?_
            cases hk
            exact ih _ out hf H locs _ gx5 ((tw_rgL rfl)) hR hL (lv_sub hl [0, 1, 2, 3, 5] rfl)
          · refine lv_iconst (v := tw_I 0) hC.1 hC.2.1 dX9_occurs_74 rfl ?_
            cases hk
            exact ih _ out hf H locs _ gx5 ((tw_rgL rfl)) hR hL (lv_sub hl [0, 1, 2, 3, 5] rfl)
      · refine lv_iload hC.1 hC.2.1 dX9_occurs_83 (lv_at hl 4 rfl) ?_
        obtain ⟨z, hz, hk⟩ := Option.bind_eq_some_iff.mp hk
        cases hk
        cases hf
        exact tw_zret hC hR hL hz rfl dX9_occurs_85
    · intro H locs ls gx5 gs0 hR hL hl
      dsimp only [fX9_occurs_S0] at hk
      refine lv_istore (lv' := [(4, .int (tw_I s0)), (0, .ref this), (1, .int (tw_I a1)), (2, .int (tw_I a2)), (3, .int (tw_I a3)), (5, .int (tw_I x5))]) hC.1 hC.2.1 dX9_occurs_75 hl (by decide) rfl (fun ls hl => ?_)
      refine tw_iinc (lv' := [(5, .int (tw_I (tm_wr (x5 + 1)))), (4, .int (tw_I s0)), (0, .ref this), (1, .int (tw_I a1)), (2, .int (tw_I a2)), (3, .int (tw_I a3))]) hC dX9_occurs_77 hl (k := 5) rfl (by decide) rfl (fun ls hl => ?_)
      refine lv_goto (tgt := 26) hC.1 hC.2.1 dX9_occurs_80 (by decide) ?_
      cases hk
      exact ih _ out hf H locs _ gs0 ((tm_wr_rg _)) hR hL (lv_sub hl [2, 3, 4, 5, 1, 0] rfl)
theorem sX9_occurs_L26 {l : Launch} {p : Program} {e : Env} {s : State} {m : MethodId} {args : Array Value} {below : List Frame} {meth : Method} {c : Code} (G : tw_G) (sz : Nat) (hC : tw_C G p s m args meth c RX9 cX9_occurs 6 (some .boolean)) (this : Nat) (a1 : Int) (a2 : Int) (a3 : Int) (ga1 : tm_rg a1) (ga2 : tm_rg a2) (ga3 : tm_rg a3) (h : tm_H) (x4 : Int) (x5 : Int) (gx4 : tm_rg x4) (gx5 : tm_rg x5) (out : Int) (hk : fX9_occurs_L26 this a1 a2 a3 h x4 x5 = some out) (H : Heap) (locs : List Loc) (ls : Array Slot) (hR : tw_Rel G sz h H) (hL : tw_L G locs) (hl : lv_has ls 6 [(0, .ref this), (1, .int (tw_I a1)), (2, .int (tw_I a2)), (3, .int (tw_I a3)), (4, .int (tw_I x4)), (5, .int (tw_I x5))]) : W p l e rmX9_occurs s m args below meth c H locs 0 0 (MQ below (tw_Qi G sz out h) args s 0 0 (tw_F G)) (F0 m 26 ls []) := by
  obtain ⟨k, hk⟩ := tm_wl_iff.mp hk
  exact sX9_occurs_S0 G sz hC this a1 a2 a3 ga1 ga2 ga3 h k (.inl ((x4, x5))) out hk H locs ls gx4 gx5 hR hL hl
theorem sX9_occurs_L75 {l : Launch} {p : Program} {e : Env} {s : State} {m : MethodId} {args : Array Value} {below : List Frame} {meth : Method} {c : Code} (G : tw_G) (sz : Nat) (hC : tw_C G p s m args meth c RX9 cX9_occurs 6 (some .boolean)) (this : Nat) (a1 : Int) (a2 : Int) (a3 : Int) (ga1 : tm_rg a1) (ga2 : tm_rg a2) (ga3 : tm_rg a3) (h : tm_H) (x5 : Int) (s0 : Int) (gx5 : tm_rg x5) (gs0 : tm_rg s0) (out : Int) (hk : fX9_occurs_L75 this a1 a2 a3 h x5 s0 = some out) (H : Heap) (locs : List Loc) (ls : Array Slot) (hR : tw_Rel G sz h H) (hL : tw_L G locs) (hl : lv_has ls 6 [(0, .ref this), (1, .int (tw_I a1)), (2, .int (tw_I a2)), (3, .int (tw_I a3)), (5, .int (tw_I x5))]) : W p l e rmX9_occurs s m args below meth c H locs 0 0 (MQ below (tw_Qi G sz out h) args s 0 0 (tw_F G)) (F0 m 75 ls [.int (tw_I s0)]) := by
  obtain ⟨k, hk⟩ := tm_wl_iff.mp hk
  exact sX9_occurs_S0 G sz hC this a1 a2 a3 ga1 ga2 ga3 h k (.inr ((x5, s0))) out hk H locs ls gx5 gs0 hR hL hl
set_option maxRecDepth 100000 in
set_option maxHeartbeats 4000000 in
theorem sX9_occurs_L21 {l : Launch} {p : Program} {e : Env} {s : State} {m : MethodId} {args : Array Value} {below : List Frame} {meth : Method} {c : Code} (G : tw_G) (sz : Nat) (hC : tw_C G p s m args meth c RX9 cX9_occurs 6 (some .boolean)) (this : Nat) (a1 : Int) (a2 : Int) (a3 : Int) (ga1 : tm_rg a1) (ga2 : tm_rg a2) (ga3 : tm_rg a3) (h : tm_H) (s0 : Int) (gs0 : tm_rg s0) (out : Int) (hk : fX9_occurs_L21 this a1 a2 a3 h s0 = some out) (H : Heap) (locs : List Loc) (ls : Array Slot) (hR : tw_Rel G sz h H) (hL : tw_L G locs) (hl : lv_has ls 6 [(0, .ref this), (1, .int (tw_I a1)), (2, .int (tw_I a2)), (3, .int (tw_I a3))]) : W p l e rmX9_occurs s m args below meth c H locs 0 0 (MQ below (tw_Qi G sz out h) args s 0 0 (tw_F G)) (F0 m 21 ls [.int (tw_I s0)]) := by
  unfold fX9_occurs_L21 at hk
  refine lv_istore (lv' := [(4, .int (tw_I s0)), (0, .ref this), (1, .int (tw_I a1)), (2, .int (tw_I a2)), (3, .int (tw_I a3))]) hC.1 hC.2.1 dX9_occurs_21 hl (by decide) rfl (fun ls hl => ?_)
  refine lv_iconst (v := tw_I 0) hC.1 hC.2.1 dX9_occurs_23 rfl ?_
  refine lv_istore (lv' := [(5, .int (tw_I 0)), (4, .int (tw_I s0)), (0, .ref this), (1, .int (tw_I a1)), (2, .int (tw_I a2)), (3, .int (tw_I a3))]) hC.1 hC.2.1 dX9_occurs_24 hl (by decide) rfl (fun ls hl => ?_)
  exact sX9_occurs_L26 G sz hC this a1 a2 a3 ga1 ga2 ga3 h s0 0 gs0 ((tw_rgL rfl)) out hk H locs _ hR hL (lv_sub hl [2, 3, 4, 5, 1, 0] rfl)
set_option maxRecDepth 100000 in
set_option maxHeartbeats 4000000 in
theorem cX9_occurs_ok (l : Launch) (G : tw_G) (sz : Nat) (this : Nat) (a1 : Int) (a2 : Int) (a3 : Int) (ga1 : tm_rg a1) (ga2 : tm_rg a2) (ga3 : tm_rg a3) (h : tm_H) (out : Int) (hk : fX9_occurs this a1 a2 a3 h = some out) : Met l yX9_occurs (tw_WS yX9_occurs cX9_occurs 6 (some .boolean)) rmX9_occurs (va_Pc [.ref this, .int (tw_I a1), .int (tw_I a2), .int (tw_I a3)] (tw_Pre G sz h)) (tw_Qi G sz out h) 0 0 (tw_F G) := by
  refine tw_met (by decide +kernel) (Nat.le_of_ble_eq_true rfl) ?_
  intro p e s m args below meth c H ls hC hnm hR hl
  unfold fX9_occurs at hk
  obtain ⟨hob, hk⟩ := tm_th_is hk
  have hl : lv_has ls 6 [(0, .ref this), (1, .int (tw_I a1)), (2, .int (tw_I a2)), (3, .int (tw_I a3))] := hl
  have hL : tw_L G [] := fun q z => by cases z
  generalize hlc : ([] : List Loc) = locs at hL ⊢
  refine lv_iload_n hC.1 hC.2.1 dX9_occurs_0 rfl (lv_at hl 3 rfl) ?_
  refine lv_aload_n hC.1 hC.2.1 dX9_occurs_1 rfl (lv_at hl 0 rfl) ?_
  refine lv_iload_n hC.1 hC.2.1 dX9_occurs_2 rfl (lv_at hl 1 rfl) ?_
  refine lv_iconst (v := tw_I 0) hC.1 hC.2.1 dX9_occurs_3 rfl ?_
  refine kX9_ofTerm hC hR hL hk ga1 ((tw_rgL rfl)) mlX9_71 ⟨by decide, by decide⟩ hl.1 (Nat.le_of_ble_eq_true rfl) ⟨Nat.zero_le _, Nat.zero_le _⟩ dX9_occurs_4 (fun v1 H locs hR hL gv1 hk => ?_)
  refine tw_iadd hC dX9_occurs_7 ?_
  refine lv_aload_n hC.1 hC.2.1 dX9_occurs_8 rfl (lv_at hl 0 rfl) ?_
  refine lv_iload_n hC.1 hC.2.1 dX9_occurs_9 rfl (lv_at hl 2 rfl) ?_
  refine kX9_size hC hR hL hk ga2 mlX9_57 ⟨by decide, by decide⟩ hl.1 (Nat.le_of_ble_eq_true rfl) ⟨Nat.zero_le _, Nat.zero_le _⟩ dX9_occurs_10 (fun v2 H locs hR hL gv2 hk => ?_)
  refine tw_cgt (tgt := 20) hC hk ((tm_wr_rg _)) gv2 dX9_occurs_13 (by decide) (fun _ hk => ?_) (fun _ hk => ?_)
  · refine lv_iconst (v := tw_I 0) hC.1 hC.2.1 dX9_occurs_20 rfl ?_
    exact sX9_occurs_L21 G sz hC this a1 a2 a3 ga1 ga2 ga3 h 0 ((tw_rgL rfl)) out hk H locs _ hR hL (lv_sub hl [0, 1, 2, 3] rfl)
  · refine lv_iconst (v := tw_I 1) hC.1 hC.2.1 dX9_occurs_16 rfl ?_
    refine lv_goto (tgt := 21) hC.1 hC.2.1 dX9_occurs_17 (by decide) ?_
    exact sX9_occurs_L21 G sz hC this a1 a2 a3 ga1 ga2 ga3 h 1 ((tw_rgL rfl)) out hk H locs _ hR hL (lv_sub hl [0, 1, 2, 3] rfl)
set_option maxRecDepth 100000 in
theorem kX9_occurs {l : Launch} {p : Program} {e : Env} {R : Room} {s : State} {m : MethodId} {args : Array Value} {below : List Frame} {meth : Method} {c : Code} {H : Heap} {locs : List Loc} {cells slots : Nat} {Q : State → Prop} {cc : ByteArray} {pc nL idx : Nat} {ls : Array Slot} {rest : List Value} {G : tw_G} {h : tm_H} {own : String} {ret : Option FieldType} {α : Type} {x : α} {sz : Nat} {this : Nat} {a1 : Int} {a2 : Int} {a3 : Int} (hC : tw_C G p s m args meth c own cc nL ret) (hR : tw_Rel G sz h H) (hL : tw_L G locs) {F : Int → Option α} (hk : (fX9_occurs this a1 a2 a3 h).bind F = some x) (ga1 : tm_rg a1) (ga2 : tm_rg a2) (ga3 : tm_rg a3) (hl : tw_mL own idx yX9_occurs) (hRm : rmX9_occurs.frames + 1 ≤ R.frames ∧ 8 + (6 + 11) + rmX9_occurs.locals ≤ R.locals) (hsz : ls.size = nL) (hW : (rest.map fun v => v.category).sum ≤ 8) (hf : cells + 0 ≤ R.cells ∧ slots + 0 ≤ R.slots) (hdg : decode cc pc = .ok (.invokevirtual idx, 3)) (kk : ∀ (r : Int) (H1 : Heap) (locs1 : List Loc), tw_Rel G sz h H1 → tw_L G locs1 → tm_rg r → F r = some x → W p l e R s m args below meth c H1 locs1 (cells + 0) (slots + 0) Q (F0 m (pc + 3) ls (.int (tw_I r) :: rest))) : W p l e R s m args below meth c H locs cells slots Q (F0 m pc ls (.int (tw_I a3) :: .int (tw_I a2) :: .int (tw_I a1) :: .ref this :: rest)) := by
  obtain ⟨r, hr, hF⟩ := Option.bind_eq_some_iff.mp hk
  have ob : ∀ r, fX9_occurs this a1 a2 a3 h = some r → tm_is h 9 this := fun r hr => by
    unfold fX9_occurs at hr
    exact (tm_th_is hr).1
  exact tw_backi (tw_runV hC hR (cX9_occurs_ok l G sz this a1 a2 a3 ga1 ga2 ga3 h r hr) (n := 3) (As := [.int (tw_I a1), .int (tw_I a2), .int (tw_I a3)]) ⟨tw_in_TB 895 (by decide +kernel) rfl, tw_in_TB 62 (by decide +kernel) rfl, by decide +kernel⟩ (tw_in_TB 894 (by decide +kernel) rfl) (tw_in_TB 22 (by decide +kernel) rfl) hl ⟨rfl, rfl⟩ hRm (ob r hr) (T := TX9) (N := 15) rfl rfl hsz rfl hW hdg hf) hL (fun H1 locs1 a b g => kk r H1 locs1 a b g hF)
def rmX9_longest : Room := { frames := 3, cells := 0, slots := 0, locals := 68 }
set_option maxRecDepth 100000 in
set_option maxHeartbeats 4000000 in
theorem sX9_longest_S0 {l : Launch} {p : Program} {e : Env} {s : State} {m : MethodId} {args : Array Value} {below : List Frame} {meth : Method} {c : Code} (G : tw_G) (sz : Nat) (hC : tw_C G p s m args meth c RX9 cX9_longest 8 (some .int)) (this : Nat) (a1 : Int) (a2 : Int) (a3 : Int) (a4 : Int) (ga1 : tm_rg a1) (ga2 : tm_rg a2) (ga3 : tm_rg a3) (ga4 : tm_rg a4) (h : tm_H) : ∀ (k : Nat) (st : (Int × Int) ⊕ (Int × Int) ⊕ (Int × Int × Int) ⊕ (Int) ⊕ (Int × Int) ⊕ (Int × Int)) (out : Int), tm_wit (fX9_longest_S0 this a1 a2 a3 a4 h) k st = some out → match st with
    | .inl ((x5, x6)) => ∀ (H : Heap) (locs : List Loc) (ls : Array Slot), tm_rg x5 → tm_rg x6 → tw_Rel G sz h H → tw_L G locs → lv_has ls 8 [(0, .ref this), (1, .int (tw_I a1)), (2, .int (tw_I a2)), (3, .int (tw_I a3)), (4, .int (tw_I a4)), (5, .int (tw_I x5)), (6, .int (tw_I x6))] → W p l e rmX9_longest s m args below meth c H locs 0 0 (MQ below (tw_Qi G sz out h) args s 0 0 (tw_F G)) (F0 m 7 ls [])
    | .inr (.inl ((x5, x6))) => ∀ (H : Heap) (locs : List Loc) (ls : Array Slot), tm_rg x5 → tm_rg x6 → tw_Rel G sz h H → tw_L G locs → lv_has ls 8 [(0, .ref this), (1, .int (tw_I a1)), (2, .int (tw_I a2)), (3, .int (tw_I a3)), (4, .int (tw_I a4)), (5, .int (tw_I x5)), (6, .int (tw_I x6))] → W p l e rmX9_longest s m args below meth c H locs 0 0 (MQ below (tw_Qi G sz out h) args s 0 0 (tw_F G)) (F0 m 49 ls [])
    | .inr (.inr (.inl ((x5, x6, s0)))) => ∀ (H : Heap) (locs : List Loc) (ls : Array Slot), tm_rg x5 → tm_rg x6 → tm_rg s0 → tw_Rel G sz h H → tw_L G locs → lv_has ls 8 [(0, .ref this), (1, .int (tw_I a1)), (2, .int (tw_I a2)), (3, .int (tw_I a3)), (4, .int (tw_I a4)), (5, .int (tw_I x5)), (6, .int (tw_I x6))] → W p l e rmX9_longest s m args below meth c H locs 0 0 (MQ below (tw_Qi G sz out h) args s 0 0 (tw_F G)) (F0 m 50 ls [.int (tw_I s0)])
    | .inr (.inr (.inr (.inl ((x6))))) => ∀ (H : Heap) (locs : List Loc) (ls : Array Slot), tm_rg x6 → tw_Rel G sz h H → tw_L G locs → lv_has ls 8 [(0, .ref this), (1, .int (tw_I a1)), (2, .int (tw_I a2)), (3, .int (tw_I a3)), (4, .int (tw_I a4)), (6, .int (tw_I x6))] → W p l e rmX9_longest s m args below meth c H locs 0 0 (MQ below (tw_Qi G sz out h) args s 0 0 (tw_F G)) (F0 m 92 ls [])
    | .inr (.inr (.inr (.inr (.inl ((x6, s0)))))) => ∀ (H : Heap) (locs : List Loc) (ls : Array Slot), tm_rg x6 → tm_rg s0 → tw_Rel G sz h H → tw_L G locs → lv_has ls 8 [(0, .ref this), (1, .int (tw_I a1)), (2, .int (tw_I a2)), (3, .int (tw_I a3)), (4, .int (tw_I a4)), (6, .int (tw_I x6))] → W p l e rmX9_longest s m args below meth c H locs 0 0 (MQ below (tw_Qi G sz out h) args s 0 0 (tw_F G)) (F0 m 99 ls [.int (tw_I s0)])
    | .inr (.inr (.inr (.inr (.inr ((x5, x6)))))) => ∀ (H : Heap) (locs : List Loc) (ls : Array Slot), tm_rg x5 → tm_rg x6 → tw_Rel G sz h H → tw_L G locs → lv_has ls 8 [(0, .ref this), (1, .int (tw_I a1)), (2, .int (tw_I a2)), (3, .int (tw_I a3)), (4, .int (tw_I a4)), (5, .int (tw_I x5)), (6, .int (tw_I x6))] → W p l e rmX9_longest s m args below meth c H locs 0 0 (MQ below (tw_Qi G sz out h) args s 0 0 (tw_F G)) (F0 m 101 ls []) := by
  intro k
  induction k with
  | zero =>
    intro st out hk
    exact absurd hk (by unfold tm_wit; exact fun z => by cases z)
  | succ k ih =>
    intro st out hk
    obtain ⟨X, hk, hf⟩ := tm_wit_succ hk
    obtain ⟨x5, x6⟩ | ⟨x5, x6⟩ | ⟨x5, x6, s0⟩ | x6 | ⟨x6, s0⟩ | ⟨x5, x6⟩ := st
    · intro H locs ls gx5 gx6 hR hL hl
      dsimp only [fX9_longest_S0] at hk
      refine lv_iload hC.1 hC.2.1 dX9_longest_7 (lv_at hl 6 rfl) ?_
      refine lv_bipush (v := tw_I 12) hC.1 hC.2.1 dX9_longest_9 (by decide) ?_
      refine tw_cgt (tgt := 107) hC hk gx6 ((tw_rgL rfl)) dX9_longest_11 (by decide) (fun _ hk => ?_) (fun _ hk => ?_)
      · refine lv_iload hC.1 hC.2.1 dX9_longest_107 (lv_at hl 5 rfl) ?_
        cases hk
        cases hf
        exact tw_iret hC hR hL gx5 rfl rfl dX9_longest_109
      · refine lv_iload hC.1 hC.2.1 dX9_longest_14 (lv_at hl 6 rfl) ?_
        refine lv_bipush (v := tw_I 12) hC.1 hC.2.1 dX9_longest_16 (by decide) ?_
        refine tw_cne (tgt := 26) hC hk gx6 ((tw_rgL rfl)) dX9_longest_18 (by decide) (fun _ hk => ?_) (fun _ hk => ?_)
        · refine lv_iload hC.1 hC.2.1 dX9_longest_21 (lv_at hl 4 rfl) ?_
          refine lv_goto (tgt := 50) hC.1 hC.2.1 dX9_longest_23 (by decide) ?_
          cases hk
          exact ih _ out hf H locs _ gx5 gx6 ga4 hR hL (lv_sub hl [0, 1, 2, 3, 4, 5, 6] rfl)
        · refine lv_iload hC.1 hC.2.1 dX9_longest_26 (lv_at hl 6 rfl) ?_
          refine lv_aload_n hC.1 hC.2.1 dX9_longest_28 rfl (lv_at hl 0 rfl) ?_
          refine tw_getR hC hR hk flX9_7 dX9_longest_29 (fun r1 hk => ?_)
          refine lv_sipush (v := tw_I 307) hC.1 hC.2.1 dX9_longest_32 (by decide) ?_
          refine tw_iald hC hR hk dX9_longest_35 (fun v2 gv2 hk => ?_)
          refine tw_cge (tgt := 49) hC hk gx6 gv2 dX9_longest_36 (by decide) (fun _ hk => ?_) (fun _ hk => ?_)
          · refine lv_iload hC.1 hC.2.1 dX9_longest_39 (lv_at hl 6 rfl) ?_
            refine lv_iload_n hC.1 hC.2.1 dX9_longest_41 rfl (lv_at hl 3 rfl) ?_
            refine tw_ceq (tgt := 49) hC hk gx6 ga3 dX9_longest_42 (by decide) (fun _ hk => ?_) (fun _ hk => ?_)
            · cases hk
              exact ih _ out hf H locs _ gx5 gx6 hR hL (lv_sub hl [0, 1, 2, 3, 4, 5, 6] rfl)
            · refine lv_iconst (v := tw_I 1) hC.1 hC.2.1 dX9_longest_45 rfl ?_
              refine lv_goto (tgt := 50) hC.1 hC.2.1 dX9_longest_46 (by decide) ?_
              cases hk
              exact ih _ out hf H locs _ gx5 gx6 ((tw_rgL rfl)) hR hL (lv_sub hl [0, 1, 2, 3, 4, 5, 6] rfl)
          · cases hk
            exact ih _ out hf H locs _ gx5 gx6 hR hL (lv_sub hl [0, 1, 2, 3, 4, 5, 6] rfl)
    · intro H locs ls gx5 gx6 hR hL hl
      dsimp only [fX9_longest_S0] at hk
      refine lv_iconst (v := tw_I 0) hC.1 hC.2.1 dX9_longest_49 rfl ?_
      cases hk
      exact ih _ out hf H locs _ gx5 gx6 ((tw_rgL rfl)) hR hL (lv_sub hl [0, 1, 2, 3, 4, 5, 6] rfl)
    · intro H locs ls gx5 gx6 gs0 hR hL hl
      dsimp only [fX9_longest_S0] at hk
      refine lv_istore (lv' := [(7, .int (tw_I s0)), (0, .ref this), (1, .int (tw_I a1)), (2, .int (tw_I a2)), (3, .int (tw_I a3)), (4, .int (tw_I a4)), (5, .int (tw_I x5)), (6, .int (tw_I x6))]) hC.1 hC.2.1 dX9_longest_50 hl (by decide) rfl (fun ls hl => ?_)
      refine lv_iload hC.1 hC.2.1 dX9_longest_52 (lv_at hl 0 rfl) ?_
      refine tw_zeq (tgt := 101) hC hk gs0 dX9_longest_54 (by decide) (fun _ hk => ?_) (fun _ hk => ?_)
      · cases hk
        exact ih _ out hf H locs _ gx5 gx6 hR hL (lv_sub hl [1, 2, 3, 4, 5, 6, 7] rfl)
      · refine lv_aload_n hC.1 hC.2.1 dX9_longest_57 rfl (lv_at hl 1 rfl) ?_
        refine lv_iload hC.1 hC.2.1 dX9_longest_58 (lv_at hl 7 rfl) ?_
        refine lv_iload_n hC.1 hC.2.1 dX9_longest_60 rfl (lv_at hl 2 rfl) ?_
        refine lv_iload_n hC.1 hC.2.1 dX9_longest_61 rfl (lv_at hl 3 rfl) ?_
        refine kX9_occurs hC hR hL hk gx6 ga1 ga2 mlX9_108 ⟨by decide, by decide⟩ hl.1 (Nat.le_of_ble_eq_true rfl) ⟨Nat.zero_le _, Nat.zero_le _⟩ dX9_longest_62 (fun v3 H locs hR hL gv3 hk => ?_)
        refine tw_zeq (tgt := 101) hC hk gv3 dX9_longest_65 (by decide) (fun _ hk => ?_) (fun _ hk => ?_)
        · cases hk
          exact ih _ out hf H locs _ gx5 gx6 hR hL (lv_sub hl [1, 2, 3, 4, 5, 6, 7] rfl)
        · refine lv_iload hC.1 hC.2.1 dX9_longest_68 (lv_at hl 6 rfl) ?_
          refine lv_bipush (v := tw_I (-99)) hC.1 hC.2.1 dX9_longest_70 (by decide) ?_
          refine tw_ceq (tgt := 92) hC hk gx5 ((tw_rgL rfl)) dX9_longest_72 (by decide) (fun _ hk => ?_) (fun _ hk => ?_)
          · cases hk
            exact ih _ out hf H locs _ gx6 hR hL (lv_sub hl [1, 2, 3, 4, 5, 7] rfl)
          · refine lv_aload_n hC.1 hC.2.1 dX9_longest_75 rfl (lv_at hl 1 rfl) ?_
            refine lv_iload hC.1 hC.2.1 dX9_longest_76 (lv_at hl 7 rfl) ?_
            refine lv_iconst (v := tw_I 0) hC.1 hC.2.1 dX9_longest_78 rfl ?_
            refine kX9_ofTerm hC hR hL hk gx6 ((tw_rgL rfl)) mlX9_71 ⟨by decide, by decide⟩ hl.1 (Nat.le_of_ble_eq_true rfl) ⟨Nat.zero_le _, Nat.zero_le _⟩ dX9_longest_79 (fun v4 H locs hR hL gv4 hk => ?_)
            refine lv_aload_n hC.1 hC.2.1 dX9_longest_82 rfl (lv_at hl 1 rfl) ?_
            refine lv_iload hC.1 hC.2.1 dX9_longest_83 (lv_at hl 6 rfl) ?_
            refine lv_iconst (v := tw_I 0) hC.1 hC.2.1 dX9_longest_85 rfl ?_
            refine kX9_ofTerm hC hR hL hk gx5 ((tw_rgL rfl)) mlX9_71 ⟨by decide, by decide⟩ hl.1 (Nat.le_of_ble_eq_true rfl) ⟨Nat.zero_le _, Nat.zero_le _⟩ dX9_longest_86 (fun v5 H locs hR hL gv5 hk => ?_)
            refine tw_cle (tgt := 97) hC hk gv4 gv5 dX9_longest_89 (by decide) (fun _ hk => ?_) (fun _ hk => ?_)
            · cases hk
              exact ih _ out hf H locs _ gx6 hR hL (lv_sub hl [1, 2, 3, 4, 5, 7] rfl)
            · refine lv_iload hC.1 hC.2.1 dX9_longest_97 (lv_at hl 6 rfl) ?_
              cases hk
              exact ih _ out hf H locs _ gx6 gx5 hR hL (lv_sub hl [1, 2, 3, 4, 5, 7] rfl)
    · intro H locs ls gx6 hR hL hl
      dsimp only [fX9_longest_S0] at hk
      refine lv_iload hC.1 hC.2.1 dX9_longest_92 (lv_at hl 5 rfl) ?_
      refine lv_goto (tgt := 99) hC.1 hC.2.1 dX9_longest_94 (by decide) ?_
      cases hk
      exact ih _ out hf H locs _ gx6 gx6 hR hL (lv_sub hl [0, 1, 2, 3, 4, 5] rfl)
    · intro H locs ls gx6 gs0 hR hL hl
      dsimp only [fX9_longest_S0] at hk
      refine lv_istore (lv' := [(5, .int (tw_I s0)), (0, .ref this), (1, .int (tw_I a1)), (2, .int (tw_I a2)), (3, .int (tw_I a3)), (4, .int (tw_I a4)), (6, .int (tw_I x6))]) hC.1 hC.2.1 dX9_longest_99 hl (by decide) rfl (fun ls hl => ?_)
      cases hk
      exact ih _ out hf H locs _ gs0 gx6 hR hL (lv_sub hl [1, 2, 3, 4, 5, 0, 6] rfl)
    · intro H locs ls gx5 gx6 hR hL hl
      dsimp only [fX9_longest_S0] at hk
      refine tw_iinc (lv' := [(6, .int (tw_I (tm_wr (x6 + 1)))), (0, .ref this), (1, .int (tw_I a1)), (2, .int (tw_I a2)), (3, .int (tw_I a3)), (4, .int (tw_I a4)), (5, .int (tw_I x5))]) hC dX9_longest_101 hl (k := 6) rfl (by decide) rfl (fun ls hl => ?_)
      refine lv_goto (tgt := 7) hC.1 hC.2.1 dX9_longest_104 (by decide) ?_
      cases hk
      exact ih _ out hf H locs _ gx5 ((tm_wr_rg _)) hR hL (lv_sub hl [1, 2, 3, 4, 5, 6, 0] rfl)
theorem sX9_longest_L7 {l : Launch} {p : Program} {e : Env} {s : State} {m : MethodId} {args : Array Value} {below : List Frame} {meth : Method} {c : Code} (G : tw_G) (sz : Nat) (hC : tw_C G p s m args meth c RX9 cX9_longest 8 (some .int)) (this : Nat) (a1 : Int) (a2 : Int) (a3 : Int) (a4 : Int) (ga1 : tm_rg a1) (ga2 : tm_rg a2) (ga3 : tm_rg a3) (ga4 : tm_rg a4) (h : tm_H) (x5 : Int) (x6 : Int) (gx5 : tm_rg x5) (gx6 : tm_rg x6) (out : Int) (hk : fX9_longest_L7 this a1 a2 a3 a4 h x5 x6 = some out) (H : Heap) (locs : List Loc) (ls : Array Slot) (hR : tw_Rel G sz h H) (hL : tw_L G locs) (hl : lv_has ls 8 [(0, .ref this), (1, .int (tw_I a1)), (2, .int (tw_I a2)), (3, .int (tw_I a3)), (4, .int (tw_I a4)), (5, .int (tw_I x5)), (6, .int (tw_I x6))]) : W p l e rmX9_longest s m args below meth c H locs 0 0 (MQ below (tw_Qi G sz out h) args s 0 0 (tw_F G)) (F0 m 7 ls []) := by
  obtain ⟨k, hk⟩ := tm_wl_iff.mp hk
  exact sX9_longest_S0 G sz hC this a1 a2 a3 a4 ga1 ga2 ga3 ga4 h k (.inl ((x5, x6))) out hk H locs ls gx5 gx6 hR hL hl
theorem sX9_longest_L49 {l : Launch} {p : Program} {e : Env} {s : State} {m : MethodId} {args : Array Value} {below : List Frame} {meth : Method} {c : Code} (G : tw_G) (sz : Nat) (hC : tw_C G p s m args meth c RX9 cX9_longest 8 (some .int)) (this : Nat) (a1 : Int) (a2 : Int) (a3 : Int) (a4 : Int) (ga1 : tm_rg a1) (ga2 : tm_rg a2) (ga3 : tm_rg a3) (ga4 : tm_rg a4) (h : tm_H) (x5 : Int) (x6 : Int) (gx5 : tm_rg x5) (gx6 : tm_rg x6) (out : Int) (hk : fX9_longest_L49 this a1 a2 a3 a4 h x5 x6 = some out) (H : Heap) (locs : List Loc) (ls : Array Slot) (hR : tw_Rel G sz h H) (hL : tw_L G locs) (hl : lv_has ls 8 [(0, .ref this), (1, .int (tw_I a1)), (2, .int (tw_I a2)), (3, .int (tw_I a3)), (4, .int (tw_I a4)), (5, .int (tw_I x5)), (6, .int (tw_I x6))]) : W p l e rmX9_longest s m args below meth c H locs 0 0 (MQ below (tw_Qi G sz out h) args s 0 0 (tw_F G)) (F0 m 49 ls []) := by
  obtain ⟨k, hk⟩ := tm_wl_iff.mp hk
  exact sX9_longest_S0 G sz hC this a1 a2 a3 a4 ga1 ga2 ga3 ga4 h k (.inr (.inl ((x5, x6)))) out hk H locs ls gx5 gx6 hR hL hl
theorem sX9_longest_L50 {l : Launch} {p : Program} {e : Env} {s : State} {m : MethodId} {args : Array Value} {below : List Frame} {meth : Method} {c : Code} (G : tw_G) (sz : Nat) (hC : tw_C G p s m args meth c RX9 cX9_longest 8 (some .int)) (this : Nat) (a1 : Int) (a2 : Int) (a3 : Int) (a4 : Int) (ga1 : tm_rg a1) (ga2 : tm_rg a2) (ga3 : tm_rg a3) (ga4 : tm_rg a4) (h : tm_H) (x5 : Int) (x6 : Int) (s0 : Int) (gx5 : tm_rg x5) (gx6 : tm_rg x6) (gs0 : tm_rg s0) (out : Int) (hk : fX9_longest_L50 this a1 a2 a3 a4 h x5 x6 s0 = some out) (H : Heap) (locs : List Loc) (ls : Array Slot) (hR : tw_Rel G sz h H) (hL : tw_L G locs) (hl : lv_has ls 8 [(0, .ref this), (1, .int (tw_I a1)), (2, .int (tw_I a2)), (3, .int (tw_I a3)), (4, .int (tw_I a4)), (5, .int (tw_I x5)), (6, .int (tw_I x6))]) : W p l e rmX9_longest s m args below meth c H locs 0 0 (MQ below (tw_Qi G sz out h) args s 0 0 (tw_F G)) (F0 m 50 ls [.int (tw_I s0)]) := by
  obtain ⟨k, hk⟩ := tm_wl_iff.mp hk
  exact sX9_longest_S0 G sz hC this a1 a2 a3 a4 ga1 ga2 ga3 ga4 h k (.inr (.inr (.inl ((x5, x6, s0))))) out hk H locs ls gx5 gx6 gs0 hR hL hl
theorem sX9_longest_L92 {l : Launch} {p : Program} {e : Env} {s : State} {m : MethodId} {args : Array Value} {below : List Frame} {meth : Method} {c : Code} (G : tw_G) (sz : Nat) (hC : tw_C G p s m args meth c RX9 cX9_longest 8 (some .int)) (this : Nat) (a1 : Int) (a2 : Int) (a3 : Int) (a4 : Int) (ga1 : tm_rg a1) (ga2 : tm_rg a2) (ga3 : tm_rg a3) (ga4 : tm_rg a4) (h : tm_H) (x6 : Int) (gx6 : tm_rg x6) (out : Int) (hk : fX9_longest_L92 this a1 a2 a3 a4 h x6 = some out) (H : Heap) (locs : List Loc) (ls : Array Slot) (hR : tw_Rel G sz h H) (hL : tw_L G locs) (hl : lv_has ls 8 [(0, .ref this), (1, .int (tw_I a1)), (2, .int (tw_I a2)), (3, .int (tw_I a3)), (4, .int (tw_I a4)), (6, .int (tw_I x6))]) : W p l e rmX9_longest s m args below meth c H locs 0 0 (MQ below (tw_Qi G sz out h) args s 0 0 (tw_F G)) (F0 m 92 ls []) := by
  obtain ⟨k, hk⟩ := tm_wl_iff.mp hk
  exact sX9_longest_S0 G sz hC this a1 a2 a3 a4 ga1 ga2 ga3 ga4 h k (.inr (.inr (.inr (.inl ((x6)))))) out hk H locs ls gx6 hR hL hl
theorem sX9_longest_L99 {l : Launch} {p : Program} {e : Env} {s : State} {m : MethodId} {args : Array Value} {below : List Frame} {meth : Method} {c : Code} (G : tw_G) (sz : Nat) (hC : tw_C G p s m args meth c RX9 cX9_longest 8 (some .int)) (this : Nat) (a1 : Int) (a2 : Int) (a3 : Int) (a4 : Int) (ga1 : tm_rg a1) (ga2 : tm_rg a2) (ga3 : tm_rg a3) (ga4 : tm_rg a4) (h : tm_H) (x6 : Int) (s0 : Int) (gx6 : tm_rg x6) (gs0 : tm_rg s0) (out : Int) (hk : fX9_longest_L99 this a1 a2 a3 a4 h x6 s0 = some out) (H : Heap) (locs : List Loc) (ls : Array Slot) (hR : tw_Rel G sz h H) (hL : tw_L G locs) (hl : lv_has ls 8 [(0, .ref this), (1, .int (tw_I a1)), (2, .int (tw_I a2)), (3, .int (tw_I a3)), (4, .int (tw_I a4)), (6, .int (tw_I x6))]) : W p l e rmX9_longest s m args below meth c H locs 0 0 (MQ below (tw_Qi G sz out h) args s 0 0 (tw_F G)) (F0 m 99 ls [.int (tw_I s0)]) := by
  obtain ⟨k, hk⟩ := tm_wl_iff.mp hk
  exact sX9_longest_S0 G sz hC this a1 a2 a3 a4 ga1 ga2 ga3 ga4 h k (.inr (.inr (.inr (.inr (.inl ((x6, s0))))))) out hk H locs ls gx6 gs0 hR hL hl
theorem sX9_longest_L101 {l : Launch} {p : Program} {e : Env} {s : State} {m : MethodId} {args : Array Value} {below : List Frame} {meth : Method} {c : Code} (G : tw_G) (sz : Nat) (hC : tw_C G p s m args meth c RX9 cX9_longest 8 (some .int)) (this : Nat) (a1 : Int) (a2 : Int) (a3 : Int) (a4 : Int) (ga1 : tm_rg a1) (ga2 : tm_rg a2) (ga3 : tm_rg a3) (ga4 : tm_rg a4) (h : tm_H) (x5 : Int) (x6 : Int) (gx5 : tm_rg x5) (gx6 : tm_rg x6) (out : Int) (hk : fX9_longest_L101 this a1 a2 a3 a4 h x5 x6 = some out) (H : Heap) (locs : List Loc) (ls : Array Slot) (hR : tw_Rel G sz h H) (hL : tw_L G locs) (hl : lv_has ls 8 [(0, .ref this), (1, .int (tw_I a1)), (2, .int (tw_I a2)), (3, .int (tw_I a3)), (4, .int (tw_I a4)), (5, .int (tw_I x5)), (6, .int (tw_I x6))]) : W p l e rmX9_longest s m args below meth c H locs 0 0 (MQ below (tw_Qi G sz out h) args s 0 0 (tw_F G)) (F0 m 101 ls []) := by
  obtain ⟨k, hk⟩ := tm_wl_iff.mp hk
  exact sX9_longest_S0 G sz hC this a1 a2 a3 a4 ga1 ga2 ga3 ga4 h k (.inr (.inr (.inr (.inr (.inr ((x5, x6))))))) out hk H locs ls gx5 gx6 hR hL hl
set_option maxRecDepth 100000 in
set_option maxHeartbeats 4000000 in
theorem cX9_longest_ok (l : Launch) (G : tw_G) (sz : Nat) (this : Nat) (a1 : Int) (a2 : Int) (a3 : Int) (a4 : Int) (ga1 : tm_rg a1) (ga2 : tm_rg a2) (ga3 : tm_rg a3) (ga4 : tm_rg a4) (h : tm_H) (out : Int) (hk : fX9_longest this a1 a2 a3 a4 h = some out) : Met l yX9_longest (tw_WS yX9_longest cX9_longest 8 (some .int)) rmX9_longest (va_Pc [.ref this, .int (tw_I a1), .int (tw_I a2), .int (tw_I a3), .int (tw_I a4)] (tw_Pre G sz h)) (tw_Qi G sz out h) 0 0 (tw_F G) := by
  refine tw_met (by decide +kernel) (Nat.le_of_ble_eq_true rfl) ?_
  intro p e s m args below meth c H ls hC hnm hR hl
  unfold fX9_longest at hk
  obtain ⟨hob, hk⟩ := tm_th_is hk
  have hl : lv_has ls 8 [(0, .ref this), (1, .int (tw_I a1)), (2, .int (tw_I a2)), (3, .int (tw_I a3)), (4, .int (tw_I a4))] := hl
  have hL : tw_L G [] := fun q z => by cases z
  generalize hlc : ([] : List Loc) = locs at hL ⊢
  refine lv_bipush (v := tw_I (-99)) hC.1 hC.2.1 dX9_longest_0 (by decide) ?_
  refine lv_istore (lv' := [(5, .int (tw_I ((-99)))), (0, .ref this), (1, .int (tw_I a1)), (2, .int (tw_I a2)), (3, .int (tw_I a3)), (4, .int (tw_I a4))]) hC.1 hC.2.1 dX9_longest_2 hl (by decide) rfl (fun ls hl => ?_)
  refine lv_iconst (v := tw_I 0) hC.1 hC.2.1 dX9_longest_4 rfl ?_
  refine lv_istore (lv' := [(6, .int (tw_I 0)), (5, .int (tw_I ((-99)))), (0, .ref this), (1, .int (tw_I a1)), (2, .int (tw_I a2)), (3, .int (tw_I a3)), (4, .int (tw_I a4))]) hC.1 hC.2.1 dX9_longest_5 hl (by decide) rfl (fun ls hl => ?_)
  exact sX9_longest_L7 G sz hC this a1 a2 a3 a4 ga1 ga2 ga3 ga4 h ((-99)) 0 ((tw_rgL rfl)) ((tw_rgL rfl)) out hk H locs _ hR hL (lv_sub hl [2, 3, 4, 5, 6, 1, 0] rfl)
set_option maxRecDepth 100000 in
theorem kX9_longest {l : Launch} {p : Program} {e : Env} {R : Room} {s : State} {m : MethodId} {args : Array Value} {below : List Frame} {meth : Method} {c : Code} {H : Heap} {locs : List Loc} {cells slots : Nat} {Q : State → Prop} {cc : ByteArray} {pc nL idx : Nat} {ls : Array Slot} {rest : List Value} {G : tw_G} {h : tm_H} {own : String} {ret : Option FieldType} {α : Type} {x : α} {sz : Nat} {this : Nat} {a1 : Int} {a2 : Int} {a3 : Int} {a4 : Int} (hC : tw_C G p s m args meth c own cc nL ret) (hR : tw_Rel G sz h H) (hL : tw_L G locs) {F : Int → Option α} (hk : (fX9_longest this a1 a2 a3 a4 h).bind F = some x) (ga1 : tm_rg a1) (ga2 : tm_rg a2) (ga3 : tm_rg a3) (ga4 : tm_rg a4) (hl : tw_mL own idx yX9_longest) (hRm : rmX9_longest.frames + 1 ≤ R.frames ∧ 8 + (8 + 11) + rmX9_longest.locals ≤ R.locals) (hsz : ls.size = nL) (hW : (rest.map fun v => v.category).sum ≤ 8) (hf : cells + 0 ≤ R.cells ∧ slots + 0 ≤ R.slots) (hdg : decode cc pc = .ok (.invokevirtual idx, 3)) (kk : ∀ (r : Int) (H1 : Heap) (locs1 : List Loc), tw_Rel G sz h H1 → tw_L G locs1 → tm_rg r → F r = some x → W p l e R s m args below meth c H1 locs1 (cells + 0) (slots + 0) Q (F0 m (pc + 3) ls (.int (tw_I r) :: rest))) : W p l e R s m args below meth c H locs cells slots Q (F0 m pc ls (.int (tw_I a4) :: .int (tw_I a3) :: .int (tw_I a2) :: .int (tw_I a1) :: .ref this :: rest)) := by
  obtain ⟨r, hr, hF⟩ := Option.bind_eq_some_iff.mp hk
  have ob : ∀ r, fX9_longest this a1 a2 a3 a4 h = some r → tm_is h 9 this := fun r hr => by
    unfold fX9_longest at hr
    exact (tm_th_is hr).1
  exact tw_backi (tw_runV hC hR (cX9_longest_ok l G sz this a1 a2 a3 a4 ga1 ga2 ga3 ga4 h r hr) (n := 4) (As := [.int (tw_I a1), .int (tw_I a2), .int (tw_I a3), .int (tw_I a4)]) ⟨tw_in_TB 891 (by decide +kernel) rfl, tw_in_TB 62 (by decide +kernel) rfl, by decide +kernel⟩ (tw_in_TB 890 (by decide +kernel) rfl) (tw_in_TB 21 (by decide +kernel) rfl) hl ⟨rfl, rfl⟩ hRm (ob r hr) (T := TX9) (N := 15) rfl rfl hsz rfl hW hdg hf) hL (fun H1 locs1 a b g => kk r H1 locs1 a b g hF)
def rmX9_isQuiet : Room := { frames := 0, cells := 0, slots := 0, locals := 0 }
set_option maxRecDepth 100000 in
set_option maxHeartbeats 4000000 in
theorem cX9_isQuiet_ok (l : Launch) (G : tw_G) (sz : Nat) (this : Nat) (a1 : Int) (ga1 : tm_rg a1) (h : tm_H) (out : Int) (hk : fX9_isQuiet this a1 h = some out) : Met l yX9_isQuiet (tw_WS yX9_isQuiet cX9_isQuiet 2 (some .boolean)) rmX9_isQuiet (va_Pc [.ref this, .int (tw_I a1)] (tw_Pre G sz h)) (tw_Qi G sz out h) 0 0 (tw_F G) := by
  refine tw_met (by decide +kernel) (Nat.le_of_ble_eq_true rfl) ?_
  intro p e s m args below meth c H ls hC hnm hR hl
  unfold fX9_isQuiet at hk
  obtain ⟨hob, hk⟩ := tm_th_is hk
  have hl : lv_has ls 2 [(0, .ref this), (1, .int (tw_I a1))] := hl
  have hL : tw_L G [] := fun q z => by cases z
  generalize hlc : ([] : List Loc) = locs at hL ⊢
  refine lv_iload_n hC.1 hC.2.1 dX9_isQuiet_0 rfl (lv_at hl 1 rfl) ?_
  refine lv_bipush (v := tw_I 12) hC.1 hC.2.1 dX9_isQuiet_1 (by decide) ?_
  refine tw_cge (tgt := 29) hC hk ga1 ((tw_rgL rfl)) dX9_isQuiet_3 (by decide) (fun _ hk => ?_) (fun _ hk => ?_)
  · refine lv_aload_n hC.1 hC.2.1 dX9_isQuiet_6 rfl (lv_at hl 0 rfl) ?_
    refine tw_getR hC hR hk flX9_7 dX9_isQuiet_7 (fun r1 hk => ?_)
    refine lv_sipush (v := tw_I 308) hC.1 hC.2.1 dX9_isQuiet_10 (by decide) ?_
    refine lv_bipush (v := tw_I 6) hC.1 hC.2.1 dX9_isQuiet_13 (by decide) ?_
    refine lv_iload_n hC.1 hC.2.1 dX9_isQuiet_15 rfl (lv_at hl 1 rfl) ?_
    refine tw_imul hC dX9_isQuiet_16 ?_
    refine tw_iadd hC dX9_isQuiet_17 ?_
    refine lv_iconst (v := tw_I 5) hC.1 hC.2.1 dX9_isQuiet_18 rfl ?_
    refine tw_iadd hC dX9_isQuiet_19 ?_
    refine tw_iald hC hR hk dX9_isQuiet_20 (fun v2 gv2 hk => ?_)
    refine lv_iconst (v := tw_I 1) hC.1 hC.2.1 dX9_isQuiet_21 rfl ?_
    refine tw_cne (tgt := 29) hC hk gv2 ((tw_rgL rfl)) dX9_isQuiet_22 (by decide) (fun _ hk => ?_) (fun _ hk => ?_)
    · refine lv_iconst (v := tw_I 1) hC.1 hC.2.1 dX9_isQuiet_25 rfl ?_
      refine lv_goto (tgt := 30) hC.1 hC.2.1 dX9_isQuiet_26 (by decide) ?_
      cases hk
      exact tw_zret hC hR hL rfl rfl dX9_isQuiet_30
    · refine lv_iconst (v := tw_I 0) hC.1 hC.2.1 dX9_isQuiet_29 rfl ?_
      cases hk
      exact tw_zret hC hR hL rfl rfl dX9_isQuiet_30
  · refine lv_iconst (v := tw_I 0) hC.1 hC.2.1 dX9_isQuiet_29 rfl ?_
    cases hk
    exact tw_zret hC hR hL rfl rfl dX9_isQuiet_30
set_option maxRecDepth 100000 in
theorem kX9_isQuiet {l : Launch} {p : Program} {e : Env} {R : Room} {s : State} {m : MethodId} {args : Array Value} {below : List Frame} {meth : Method} {c : Code} {H : Heap} {locs : List Loc} {cells slots : Nat} {Q : State → Prop} {cc : ByteArray} {pc nL idx : Nat} {ls : Array Slot} {rest : List Value} {G : tw_G} {h : tm_H} {own : String} {ret : Option FieldType} {α : Type} {x : α} {sz : Nat} {this : Nat} {a1 : Int} (hC : tw_C G p s m args meth c own cc nL ret) (hR : tw_Rel G sz h H) (hL : tw_L G locs) {F : Int → Option α} (hk : (fX9_isQuiet this a1 h).bind F = some x) (ga1 : tm_rg a1) (hl : tw_mL own idx yX9_isQuiet) (hRm : rmX9_isQuiet.frames + 1 ≤ R.frames ∧ 8 + (2 + 11) + rmX9_isQuiet.locals ≤ R.locals) (hsz : ls.size = nL) (hW : (rest.map fun v => v.category).sum ≤ 8) (hf : cells + 0 ≤ R.cells ∧ slots + 0 ≤ R.slots) (hdg : decode cc pc = .ok (.invokevirtual idx, 3)) (kk : ∀ (r : Int) (H1 : Heap) (locs1 : List Loc), tw_Rel G sz h H1 → tw_L G locs1 → tm_rg r → F r = some x → W p l e R s m args below meth c H1 locs1 (cells + 0) (slots + 0) Q (F0 m (pc + 3) ls (.int (tw_I r) :: rest))) : W p l e R s m args below meth c H locs cells slots Q (F0 m pc ls (.int (tw_I a1) :: .ref this :: rest)) := by
  obtain ⟨r, hr, hF⟩ := Option.bind_eq_some_iff.mp hk
  have ob : ∀ r, fX9_isQuiet this a1 h = some r → tm_is h 9 this := fun r hr => by
    unfold fX9_isQuiet at hr
    exact (tm_th_is hr).1
  exact tw_backi (tw_runV hC hR (cX9_isQuiet_ok l G sz this a1 ga1 h r hr) (n := 1) (As := [.int (tw_I a1)]) ⟨tw_in_TB 907 (by decide +kernel) rfl, tw_in_TB 62 (by decide +kernel) rfl, by decide +kernel⟩ (tw_in_TB 906 (by decide +kernel) rfl) (tw_in_TB 25 (by decide +kernel) rfl) hl ⟨rfl, rfl⟩ hRm (ob r hr) (T := TX9) (N := 15) rfl rfl hsz rfl hW hdg hf) hL (fun H1 locs1 a b g => kk r H1 locs1 a b g hF)
