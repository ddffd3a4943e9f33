def rmX9_mark : Room := { frames := 6, cells := 0, slots := 0, locals := 145 }
set_option maxRecDepth 100000 in
set_option maxHeartbeats 4000000 in
theorem sX9_mark_S0 {l : Launch} {p : Program} {e : Env} {s : State} {m : MethodId} {args : Array Value} {below : List Frame} {meth : Method} {c : Code} (G : tw_G) (sz : Nat) (hC : tw_C G p s m args meth c RX9 cX9_mark 7 (some .int)) (this : Nat) (a1 : Int) (a2 : Int) (ga1 : tm_rg a1) (ga2 : tm_rg a2) : ∀ (k : Nat) (st : (Int × Int × tm_H) ⊕ (Int × Int × Int × Int × tm_H) ⊕ (Int × Int × Int × Int × tm_H) ⊕ (Int × Int × Int × Int × Int × tm_H) ⊕ (Int × Int × Int × tm_H) ⊕ (Int × Int × Int × tm_H)) (out : Int × tm_H), tm_wit (fX9_mark_S0 this a1 a2) k st = some out → match st with
    | .inl ((x3, x4, h)) => ∀ (H : Heap) (locs : List Loc) (ls : Array Slot), tm_rg x3 → tm_rg x4 → tw_Rel G sz h H → tw_L G locs → lv_has ls 7 [(0, .ref this), (1, .int (tw_I a1)), (2, .int (tw_I a2)), (3, .int (tw_I x3)), (4, .int (tw_I x4))] → W p l e rmX9_mark s m args below meth c H locs 0 0 (MQ below (tw_Qi G sz out.1 out.2) args s 0 0 (tw_F G)) (F0 m 20 ls [])
    | .inr (.inl ((x3, x4, x5, x6, h))) => ∀ (H : Heap) (locs : List Loc) (ls : Array Slot), tm_rg x3 → tm_rg x4 → tm_rg x5 → tm_rg x6 → tw_Rel G sz h H → tw_L G locs → lv_has ls 7 [(0, .ref this), (1, .int (tw_I a1)), (2, .int (tw_I a2)), (3, .int (tw_I x3)), (4, .int (tw_I x4)), (5, .int (tw_I x5)), (6, .int (tw_I x6))] → W p l e rmX9_mark s m args below meth c H locs 0 0 (MQ below (tw_Qi G sz out.1 out.2) args s 0 0 (tw_F G)) (F0 m 38 ls [])
    | .inr (.inr (.inl ((x3, x4, x5, x6, h)))) => ∀ (H : Heap) (locs : List Loc) (ls : Array Slot), tm_rg x3 → tm_rg x4 → tm_rg x5 → tm_rg x6 → tw_Rel G sz h H → tw_L G locs → lv_has ls 7 [(0, .ref this), (1, .int (tw_I a1)), (2, .int (tw_I a2)), (3, .int (tw_I x3)), (4, .int (tw_I x4)), (5, .int (tw_I x5)), (6, .int (tw_I x6))] → W p l e rmX9_mark s m args below meth c H locs 0 0 (MQ below (tw_Qi G sz out.1 out.2) args s 0 0 (tw_F G)) (F0 m 96 ls [])
    | .inr (.inr (.inr (.inl ((x4, x5, x6, s0, s1, h))))) => ∀ (H : Heap) (locs : List Loc) (ls : Array Slot), tm_rg x4 → tm_rg x5 → tm_rg x6 → tm_rg s0 → tm_rg s1 → tw_Rel G sz h H → tw_L G locs → lv_has ls 7 [(0, .ref this), (1, .int (tw_I a1)), (2, .int (tw_I a2)), (4, .int (tw_I x4)), (5, .int (tw_I x5)), (6, .int (tw_I x6))] → W p l e rmX9_mark s m args below meth c H locs 0 0 (MQ below (tw_Qi G sz out.1 out.2) args s 0 0 (tw_F G)) (F0 m 112 ls [.int (tw_I s1), .int (tw_I s0)])
    | .inr (.inr (.inr (.inr (.inl ((x3, x4, x5, h)))))) => ∀ (H : Heap) (locs : List Loc) (ls : Array Slot), tm_rg x3 → tm_rg x4 → tm_rg x5 → tw_Rel G sz h H → tw_L G locs → lv_has ls 7 [(0, .ref this), (1, .int (tw_I a1)), (2, .int (tw_I a2)), (3, .int (tw_I x3)), (4, .int (tw_I x4)), (5, .int (tw_I x5))] → W p l e rmX9_mark s m args below meth c H locs 0 0 (MQ below (tw_Qi G sz out.1 out.2) args s 0 0 (tw_F G)) (F0 m 120 ls [])
    | .inr (.inr (.inr (.inr (.inr ((x4, s0, s1, h)))))) => ∀ (H : Heap) (locs : List Loc) (ls : Array Slot), tm_rg x4 → tm_rg s0 → tm_rg s1 → tw_Rel G sz h H → tw_L G locs → lv_has ls 7 [(0, .ref this), (1, .int (tw_I a1)), (2, .int (tw_I a2)), (4, .int (tw_I x4))] → W p l e rmX9_mark s m args below meth c H locs 0 0 (MQ below (tw_Qi G sz out.1 out.2) args s 0 0 (tw_F G)) (F0 m 133 ls [.int (tw_I s1), .int (tw_I s0)]) := by
  intro k
  induction k with
  | zero =>
    intro st out hk
    exact absurd hk (by unfold tm_wit; exact fun z => by cases z)
  | succ k ih =>
    intro st out hk
    obtain ⟨X, hk, hf⟩ := tm_wit_succ hk
    obtain ⟨x3, x4, h⟩ | ⟨x3, x4, x5, x6, h⟩ | ⟨x3, x4, x5, x6, h⟩ | ⟨x4, x5, x6, s0, s1, h⟩ | ⟨x3, x4, x5, h⟩ | ⟨x4, s0, s1, h⟩ := st
    · intro H locs ls gx3 gx4 hR hL hl
      dsimp only [fX9_mark_S0] at hk
      refine lv_iload hC.1 hC.2.1 dX9_mark_20 (lv_at hl 4 rfl) ?_
      refine lv_bipush (v := tw_I 6) hC.1 hC.2.1 dX9_mark_22 (by decide) ?_
      refine tw_cge (tgt := 141) hC hk gx4 ((tw_rgL rfl)) dX9_mark_24 (by decide) (fun _ hk => ?_) (fun _ hk => ?_)
      · refine lv_aload_n hC.1 hC.2.1 dX9_mark_27 rfl (lv_at hl 0 rfl) ?_
        refine lv_iload hC.1 hC.2.1 dX9_mark_28 (lv_at hl 4 rfl) ?_
        refine kX9_reads hC hR hL hk gx4 mlX9_122 ⟨by decide, by decide⟩ hl.1 (Nat.le_of_ble_eq_true rfl) ⟨Nat.zero_le _, Nat.zero_le _⟩ dX9_mark_30 (fun v2 h2 H locs hR hL gv2 hk => ?_)
        refine lv_istore (lv' := [(5, .int (tw_I v2)), (0, .ref this), (1, .int (tw_I a1)), (2, .int (tw_I a2)), (3, .int (tw_I x3)), (4, .int (tw_I x4))]) hC.1 hC.2.1 dX9_mark_33 hl (by decide) rfl (fun ls hl => ?_)
        refine lv_iconst (v := tw_I 0) hC.1 hC.2.1 dX9_mark_35 rfl ?_
        refine lv_istore (lv' := [(6, .int (tw_I 0)), (5, .int (tw_I v2)), (0, .ref this), (1, .int (tw_I a1)), (2, .int (tw_I a2)), (3, .int (tw_I x3)), (4, .int (tw_I x4))]) hC.1 hC.2.1 dX9_mark_36 hl (by decide) rfl (fun ls hl => ?_)
        cases hk
        exact ih _ out hf H locs _ gx3 gx4 gv2 ((tw_rgL rfl)) hR hL (lv_sub hl [2, 3, 4, 5, 6, 1, 0] rfl)
      · refine lv_bipush (v := tw_I (-99)) hC.1 hC.2.1 dX9_mark_141 (by decide) ?_
        cases hk
        cases hf
        exact tw_iret hC hR hL ((tw_rgL rfl)) rfl rfl dX9_mark_143
    · intro H locs ls gx3 gx4 gx5 gx6 hR hL hl
      dsimp only [fX9_mark_S0] at hk
      refine lv_iload hC.1 hC.2.1 dX9_mark_38 (lv_at hl 6 rfl) ?_
      refine lv_aload_n hC.1 hC.2.1 dX9_mark_40 rfl (lv_at hl 0 rfl) ?_
      refine lv_iload hC.1 hC.2.1 dX9_mark_41 (lv_at hl 4 rfl) ?_
      refine kX9_size hC hR hL hk gx4 mlX9_57 ⟨by decide, by decide⟩ hl.1 (Nat.le_of_ble_eq_true rfl) ⟨Nat.zero_le _, Nat.zero_le _⟩ dX9_mark_43 (fun v3 H locs hR hL gv3 hk => ?_)
      refine tw_cge (tgt := 120) hC hk gx6 gv3 dX9_mark_46 (by decide) (fun _ hk => ?_) (fun _ hk => ?_)
      · refine lv_iload_n hC.1 hC.2.1 dX9_mark_49 rfl (lv_at hl 3 rfl) ?_
        refine lv_iload hC.1 hC.2.1 dX9_mark_50 (lv_at hl 5 rfl) ?_
        refine tw_cge (tgt := 120) hC hk gx3 gx5 dX9_mark_52 (by decide) (fun _ hk => ?_) (fun _ hk => ?_)
        · refine lv_aload_n hC.1 hC.2.1 dX9_mark_55 rfl (lv_at hl 0 rfl) ?_
          refine tw_getR hC hR hk flX9_34 dX9_mark_56 (fun r4 hk => ?_)
          refine lv_iload hC.1 hC.2.1 dX9_mark_59 (lv_at hl 6 rfl) ?_
          refine tw_zald hC hR hk dX9_mark_61 (fun v5 gv5 hk => ?_)
          refine tw_zeq (tgt := 96) hC hk gv5 dX9_mark_62 (by decide) (fun _ hk => ?_) (fun _ hk => ?_)
          · cases hk
            exact ih _ out hf H locs _ gx3 gx4 gx5 gx6 hR hL (lv_sub hl [0, 1, 2, 3, 4, 5, 6] rfl)
          · refine lv_iload_n hC.1 hC.2.1 dX9_mark_65 rfl (lv_at hl 3 rfl) ?_
            refine tw_zne (tgt := 96) hC hk gx3 dX9_mark_66 (by decide) (fun _ hk => ?_) (fun _ hk => ?_)
            · refine lv_iload_n hC.1 hC.2.1 dX9_mark_69 rfl (lv_at hl 2 rfl) ?_
              refine tw_zne (tgt := 78) hC hk ga2 dX9_mark_70 (by decide) (fun _ hk => ?_) (fun _ hk => ?_)
              · refine lv_iload hC.1 hC.2.1 dX9_mark_73 (lv_at hl 4 rfl) ?_
                refine lv_goto (tgt := 95) hC.1 hC.2.1 dX9_mark_75 (by decide) ?_
                cases hk
                cases hf
                exact tw_iret hC hR hL gx4 rfl rfl dX9_mark_95
              · refine lv_iload_n hC.1 hC.2.1 dX9_mark_78 rfl (lv_at hl 2 rfl) ?_
                refine lv_iconst (v := tw_I 1) hC.1 hC.2.1 dX9_mark_79 rfl ?_
                refine tw_cne (tgt := 88) hC hk ga2 ((tw_rgL rfl)) dX9_mark_80 (by decide) (fun _ hk => ?_) (fun _ hk => ?_)
                · refine lv_iload hC.1 hC.2.1 dX9_mark_83 (lv_at hl 6 rfl) ?_
                  refine lv_goto (tgt := 95) hC.1 hC.2.1 dX9_mark_85 (by decide) ?_
                  cases hk
                  cases hf
                  exact tw_iret hC hR hL gx6 rfl rfl dX9_mark_95
                · refine lv_aload_n hC.1 hC.2.1 dX9_mark_88 rfl (lv_at hl 0 rfl) ?_
                  refine tw_getR hC hR hk flX9_28 dX9_mark_89 (fun r6 hk => ?_)
                  refine lv_iload hC.1 hC.2.1 dX9_mark_92 (lv_at hl 6 rfl) ?_
                  refine tw_iald hC hR hk dX9_mark_94 (fun v7 gv7 hk => ?_)
                  cases hk
                  cases hf
                  exact tw_iret hC hR hL gv7 rfl rfl dX9_mark_95
            · cases hk
              exact ih _ out hf H locs _ gx3 gx4 gx5 gx6 hR hL (lv_sub hl [0, 1, 2, 3, 4, 5, 6] rfl)
        · cases hk
          exact ih _ out hf H locs _ gx3 gx4 gx5 hR hL (lv_sub hl [0, 1, 2, 3, 4, 5] rfl)
      · cases hk
        exact ih _ out hf H locs _ gx3 gx4 gx5 hR hL (lv_sub hl [0, 1, 2, 3, 4, 5] rfl)
    · intro H locs ls gx3 gx4 gx5 gx6 hR hL hl
      dsimp only [fX9_mark_S0] at hk
      refine lv_iload_n hC.1 hC.2.1 dX9_mark_96 rfl (lv_at hl 3 rfl) ?_
      refine lv_aload_n hC.1 hC.2.1 dX9_mark_97 rfl (lv_at hl 0 rfl) ?_
      refine tw_getR hC hR hk flX9_34 dX9_mark_98 (fun r8 hk => ?_)
      refine lv_iload hC.1 hC.2.1 dX9_mark_101 (lv_at hl 6 rfl) ?_
      refine tw_zald hC hR hk dX9_mark_103 (fun v9 gv9 hk => ?_)
      refine tw_zeq (tgt := 111) hC hk gv9 dX9_mark_104 (by decide) (fun _ hk => ?_) (fun _ hk => ?_)
      · refine lv_iconst (v := tw_I 0) hC.1 hC.2.1 dX9_mark_111 rfl ?_
        cases hk
        exact ih _ out hf H locs _ gx4 gx5 gx6 gx3 ((tw_rgL rfl)) hR hL (lv_sub hl [0, 1, 2, 4, 5, 6] rfl)
      · refine lv_iconst (v := tw_I 1) hC.1 hC.2.1 dX9_mark_107 rfl ?_
        refine lv_goto (tgt := 112) hC.1 hC.2.1 dX9_mark_108 (by decide) ?_
        cases hk
        exact ih _ out hf H locs _ gx4 gx5 gx6 gx3 ((tw_rgL rfl)) hR hL (lv_sub hl [0, 1, 2, 4, 5, 6] rfl)
    · intro H locs ls gx4 gx5 gx6 gs0 gs1 hR hL hl
      dsimp only [fX9_mark_S0] at hk
      refine tw_isub hC dX9_mark_112 ?_
      refine lv_istore_n (lv' := [(3, .int (tw_I (tm_wr (s0 - s1)))), (0, .ref this), (1, .int (tw_I a1)), (2, .int (tw_I a2)), (4, .int (tw_I x4)), (5, .int (tw_I x5)), (6, .int (tw_I x6))]) hC.1 hC.2.1 dX9_mark_113 rfl hl (by decide) rfl (fun ls hl => ?_)
      refine tw_iinc (lv' := [(6, .int (tw_I (tm_wr (x6 + 1)))), (3, .int (tw_I (tm_wr (s0 - s1)))), (0, .ref this), (1, .int (tw_I a1)), (2, .int (tw_I a2)), (4, .int (tw_I x4)), (5, .int (tw_I x5))]) hC dX9_mark_114 hl (k := 6) rfl (by decide) rfl (fun ls hl => ?_)
      refine lv_goto (tgt := 38) hC.1 hC.2.1 dX9_mark_117 (by decide) ?_
      cases hk
      exact ih _ out hf H locs _ ((tm_wr_rg _)) gx4 gx5 ((tm_wr_rg _)) hR hL (lv_sub hl [2, 3, 4, 1, 5, 6, 0] rfl)
    · intro H locs ls gx3 gx4 gx5 hR hL hl
      dsimp only [fX9_mark_S0] at hk
      refine lv_iload_n hC.1 hC.2.1 dX9_mark_120 rfl (lv_at hl 3 rfl) ?_
      refine lv_iload_n hC.1 hC.2.1 dX9_mark_121 rfl (lv_at hl 3 rfl) ?_
      refine lv_iload hC.1 hC.2.1 dX9_mark_122 (lv_at hl 5 rfl) ?_
      refine tw_cge (tgt := 131) hC hk gx3 gx5 dX9_mark_124 (by decide) (fun _ hk => ?_) (fun _ hk => ?_)
      · refine lv_iconst (v := tw_I 0) hC.1 hC.2.1 dX9_mark_127 rfl ?_
        refine lv_goto (tgt := 133) hC.1 hC.2.1 dX9_mark_128 (by decide) ?_
        cases hk
        exact ih _ out hf H locs _ gx4 gx3 ((tw_rgL rfl)) hR hL (lv_sub hl [0, 1, 2, 4] rfl)
      · refine lv_iload hC.1 hC.2.1 dX9_mark_131 (lv_at hl 5 rfl) ?_
        cases hk
        exact ih _ out hf H locs _ gx4 gx3 gx5 hR hL (lv_sub hl [0, 1, 2, 4] rfl)
    · intro H locs ls gx4 gs0 gs1 hR hL hl
      dsimp only [fX9_mark_S0] at hk
      refine tw_isub hC dX9_mark_133 ?_
      refine lv_istore_n (lv' := [(3, .int (tw_I (tm_wr (s0 - s1)))), (0, .ref this), (1, .int (tw_I a1)), (2, .int (tw_I a2)), (4, .int (tw_I x4))]) hC.1 hC.2.1 dX9_mark_134 rfl hl (by decide) rfl (fun ls hl => ?_)
      refine tw_iinc (lv' := [(4, .int (tw_I (tm_wr (x4 + 1)))), (3, .int (tw_I (tm_wr (s0 - s1)))), (0, .ref this), (1, .int (tw_I a1)), (2, .int (tw_I a2))]) hC dX9_mark_135 hl (k := 4) rfl (by decide) rfl (fun ls hl => ?_)
      refine lv_goto (tgt := 20) hC.1 hC.2.1 dX9_mark_138 (by decide) ?_
      cases hk
      exact ih _ out hf H locs _ ((tm_wr_rg _)) ((tm_wr_rg _)) hR hL (lv_sub hl [2, 3, 4, 1, 0] rfl)
theorem sX9_mark_L20 {l : Launch} {p : Program} {e : Env} {s : State} {m : MethodId} {args : Array Value} {below : List Frame} {meth : Method} {c : Code} (G : tw_G) (sz : Nat) (hC : tw_C G p s m args meth c RX9 cX9_mark 7 (some .int)) (this : Nat) (a1 : Int) (a2 : Int) (ga1 : tm_rg a1) (ga2 : tm_rg a2) (x3 : Int) (x4 : Int) (h : tm_H) (gx3 : tm_rg x3) (gx4 : tm_rg x4) (out : Int × tm_H) (hk : fX9_mark_L20 this a1 a2 x3 x4 h = some out) (H : Heap) (locs : List Loc) (ls : Array Slot) (hR : tw_Rel G sz h H) (hL : tw_L G locs) (hl : lv_has ls 7 [(0, .ref this), (1, .int (tw_I a1)), (2, .int (tw_I a2)), (3, .int (tw_I x3)), (4, .int (tw_I x4))]) : W p l e rmX9_mark s m args below meth c H locs 0 0 (MQ below (tw_Qi G sz out.1 out.2) args s 0 0 (tw_F G)) (F0 m 20 ls []) := by
  obtain ⟨k, hk⟩ := tm_wl_iff.mp hk
  exact sX9_mark_S0 G sz hC this a1 a2 ga1 ga2 k (.inl ((x3, x4, h))) out hk H locs ls gx3 gx4 hR hL hl
theorem sX9_mark_L38 {l : Launch} {p : Program} {e : Env} {s : State} {m : MethodId} {args : Array Value} {below : List Frame} {meth : Method} {c : Code} (G : tw_G) (sz : Nat) (hC : tw_C G p s m args meth c RX9 cX9_mark 7 (some .int)) (this : Nat) (a1 : Int) (a2 : Int) (ga1 : tm_rg a1) (ga2 : tm_rg a2) (x3 : Int) (x4 : Int) (x5 : Int) (x6 : Int) (h : tm_H) (gx3 : tm_rg x3) (gx4 : tm_rg x4) (gx5 : tm_rg x5) (gx6 : tm_rg x6) (out : Int × tm_H) (hk : fX9_mark_L38 this a1 a2 x3 x4 x5 x6 h = some out) (H : Heap) (locs : List Loc) (ls : Array Slot) (hR : tw_Rel G sz h H) (hL : tw_L G locs) (hl : lv_has ls 7 [(0, .ref this), (1, .int (tw_I a1)), (2, .int (tw_I a2)), (3, .int (tw_I x3)), (4, .int (tw_I x4)), (5, .int (tw_I x5)), (6, .int (tw_I x6))]) : W p l e rmX9_mark s m args below meth c H locs 0 0 (MQ below (tw_Qi G sz out.1 out.2) args s 0 0 (tw_F G)) (F0 m 38 ls []) := by
  obtain ⟨k, hk⟩ := tm_wl_iff.mp hk
  exact sX9_mark_S0 G sz hC this a1 a2 ga1 ga2 k (.inr (.inl ((x3, x4, x5, x6, h)))) out hk H locs ls gx3 gx4 gx5 gx6 hR hL hl
theorem sX9_mark_L96 {l : Launch} {p : Program} {e : Env} {s : State} {m : MethodId} {args : Array Value} {below : List Frame} {meth : Method} {c : Code} (G : tw_G) (sz : Nat) (hC : tw_C G p s m args meth c RX9 cX9_mark 7 (some .int)) (this : Nat) (a1 : Int) (a2 : Int) (ga1 : tm_rg a1) (ga2 : tm_rg a2) (x3 : Int) (x4 : Int) (x5 : Int) (x6 : Int) (h : tm_H) (gx3 : tm_rg x3) (gx4 : tm_rg x4) (gx5 : tm_rg x5) (gx6 : tm_rg x6) (out : Int × tm_H) (hk : fX9_mark_L96 this a1 a2 x3 x4 x5 x6 h = some out) (H : Heap) (locs : List Loc) (ls : Array Slot) (hR : tw_Rel G sz h H) (hL : tw_L G locs) (hl : lv_has ls 7 [(0, .ref this), (1, .int (tw_I a1)), (2, .int (tw_I a2)), (3, .int (tw_I x3)), (4, .int (tw_I x4)), (5, .int (tw_I x5)), (6, .int (tw_I x6))]) : W p l e rmX9_mark s m args below meth c H locs 0 0 (MQ below (tw_Qi G sz out.1 out.2) args s 0 0 (tw_F G)) (F0 m 96 ls []) := by
  obtain ⟨k, hk⟩ := tm_wl_iff.mp hk
  exact sX9_mark_S0 G sz hC this a1 a2 ga1 ga2 k (.inr (.inr (.inl ((x3, x4, x5, x6, h))))) out hk H locs ls gx3 gx4 gx5 gx6 hR hL hl
theorem sX9_mark_L112 {l : Launch} {p : Program} {e : Env} {s : State} {m : MethodId} {args : Array Value} {below : List Frame} {meth : Method} {c : Code} (G : tw_G) (sz : Nat) (hC : tw_C G p s m args meth c RX9 cX9_mark 7 (some .int)) (this : Nat) (a1 : Int) (a2 : Int) (ga1 : tm_rg a1) (ga2 : tm_rg a2) (x4 : Int) (x5 : Int) (x6 : Int) (s0 : Int) (s1 : Int) (h : tm_H) (gx4 : tm_rg x4) (gx5 : tm_rg x5) (gx6 : tm_rg x6) (gs0 : tm_rg s0) (gs1 : tm_rg s1) (out : Int × tm_H) (hk : fX9_mark_L112 this a1 a2 x4 x5 x6 s0 s1 h = some out) (H : Heap) (locs : List Loc) (ls : Array Slot) (hR : tw_Rel G sz h H) (hL : tw_L G locs) (hl : lv_has ls 7 [(0, .ref this), (1, .int (tw_I a1)), (2, .int (tw_I a2)), (4, .int (tw_I x4)), (5, .int (tw_I x5)), (6, .int (tw_I x6))]) : W p l e rmX9_mark s m args below meth c H locs 0 0 (MQ below (tw_Qi G sz out.1 out.2) args s 0 0 (tw_F G)) (F0 m 112 ls [.int (tw_I s1), .int (tw_I s0)]) := by
  obtain ⟨k, hk⟩ := tm_wl_iff.mp hk
  exact sX9_mark_S0 G sz hC this a1 a2 ga1 ga2 k (.inr (.inr (.inr (.inl ((x4, x5, x6, s0, s1, h)))))) out hk H locs ls gx4 gx5 gx6 gs0 gs1 hR hL hl
theorem sX9_mark_L120 {l : Launch} {p : Program} {e : Env} {s : State} {m : MethodId} {args : Array Value} {below : List Frame} {meth : Method} {c : Code} (G : tw_G) (sz : Nat) (hC : tw_C G p s m args meth c RX9 cX9_mark 7 (some .int)) (this : Nat) (a1 : Int) (a2 : Int) (ga1 : tm_rg a1) (ga2 : tm_rg a2) (x3 : Int) (x4 : Int) (x5 : Int) (h : tm_H) (gx3 : tm_rg x3) (gx4 : tm_rg x4) (gx5 : tm_rg x5) (out : Int × tm_H) (hk : fX9_mark_L120 this a1 a2 x3 x4 x5 h = some out) (H : Heap) (locs : List Loc) (ls : Array Slot) (hR : tw_Rel G sz h H) (hL : tw_L G locs) (hl : lv_has ls 7 [(0, .ref this), (1, .int (tw_I a1)), (2, .int (tw_I a2)), (3, .int (tw_I x3)), (4, .int (tw_I x4)), (5, .int (tw_I x5))]) : W p l e rmX9_mark s m args below meth c H locs 0 0 (MQ below (tw_Qi G sz out.1 out.2) args s 0 0 (tw_F G)) (F0 m 120 ls []) := by
  obtain ⟨k, hk⟩ := tm_wl_iff.mp hk
  exact sX9_mark_S0 G sz hC this a1 a2 ga1 ga2 k (.inr (.inr (.inr (.inr (.inl ((x3, x4, x5, h))))))) out hk H locs ls gx3 gx4 gx5 hR hL hl
theorem sX9_mark_L133 {l : Launch} {p : Program} {e : Env} {s : State} {m : MethodId} {args : Array Value} {below : List Frame} {meth : Method} {c : Code} (G : tw_G) (sz : Nat) (hC : tw_C G p s m args meth c RX9 cX9_mark 7 (some .int)) (this : Nat) (a1 : Int) (a2 : Int) (ga1 : tm_rg a1) (ga2 : tm_rg a2) (x4 : Int) (s0 : Int) (s1 : Int) (h : tm_H) (gx4 : tm_rg x4) (gs0 : tm_rg s0) (gs1 : tm_rg s1) (out : Int × tm_H) (hk : fX9_mark_L133 this a1 a2 x4 s0 s1 h = some out) (H : Heap) (locs : List Loc) (ls : Array Slot) (hR : tw_Rel G sz h H) (hL : tw_L G locs) (hl : lv_has ls 7 [(0, .ref this), (1, .int (tw_I a1)), (2, .int (tw_I a2)), (4, .int (tw_I x4))]) : W p l e rmX9_mark s m args below meth c H locs 0 0 (MQ below (tw_Qi G sz out.1 out.2) args s 0 0 (tw_F G)) (F0 m 133 ls [.int (tw_I s1), .int (tw_I s0)]) := by
  obtain ⟨k, hk⟩ := tm_wl_iff.mp hk
  exact sX9_mark_S0 G sz hC this a1 a2 ga1 ga2 k (.inr (.inr (.inr (.inr (.inr ((x4, s0, s1, h))))))) out hk H locs ls gx4 gs0 gs1 hR hL hl
set_option maxRecDepth 100000 in
set_option maxHeartbeats 4000000 in
theorem cX9_mark_ok (l : Launch) (G : tw_G) (sz : Nat) (this : Nat) (a1 : Int) (a2 : Int) (ga1 : tm_rg a1) (ga2 : tm_rg a2) (h : tm_H) (out : Int × tm_H) (hk : fX9_mark this a1 a2 h = some out) : Met l yX9_mark (tw_WS yX9_mark cX9_mark 7 (some .int)) rmX9_mark (va_Pc [.ref this, .int (tw_I a1), .int (tw_I a2)] (tw_Pre G sz h)) (tw_Qi G sz out.1 out.2) 0 0 (tw_F G) := by
  refine tw_met (by decide +kernel) (Nat.le_of_ble_eq_true rfl) ?_
  intro p e s m args below meth c H ls hC hnm hR hl
  unfold fX9_mark at hk
  obtain ⟨hob, hk⟩ := tm_th_is hk
  have hl : lv_has ls 7 [(0, .ref this), (1, .int (tw_I a1)), (2, .int (tw_I a2))] := hl
  have hL : tw_L G [] := fun q z => by cases z
  generalize hlc : ([] : List Loc) = locs at hL ⊢
  refine lv_iload_n hC.1 hC.2.1 dX9_mark_0 rfl (lv_at hl 1 rfl) ?_
  refine tw_zlt (tgt := 13) hC hk ga1 dX9_mark_1 (by decide) (fun _ hk => ?_) (fun _ hk => ?_)
  · refine lv_iconst (v := tw_I (-1)) hC.1 hC.2.1 dX9_mark_13 rfl ?_
    cases hk
    exact tw_iret hC hR hL ((tw_rgL rfl)) rfl rfl dX9_mark_14
  · refine lv_iload_n hC.1 hC.2.1 dX9_mark_4 rfl (lv_at hl 2 rfl) ?_
    refine lv_iconst (v := tw_I 0) hC.1 hC.2.1 dX9_mark_5 rfl ?_
    refine lv_iconst (v := tw_I 2) hC.1 hC.2.1 dX9_mark_6 rfl ?_
    refine kX9_in hC hR hL hk ga2 ((tw_rgL rfl)) ((tw_rgL rfl)) mlX9_45 ⟨by decide, by decide⟩ hl.1 (Nat.le_of_ble_eq_true rfl) ⟨Nat.zero_le _, Nat.zero_le _⟩ dX9_mark_7 (fun v1 H locs hR hL gv1 hk => ?_)
    refine tw_zne (tgt := 15) hC hk gv1 dX9_mark_10 (by decide) (fun _ hk => ?_) (fun _ hk => ?_)
    · refine lv_iconst (v := tw_I (-1)) hC.1 hC.2.1 dX9_mark_13 rfl ?_
      cases hk
      exact tw_iret hC hR hL ((tw_rgL rfl)) rfl rfl dX9_mark_14
    · refine lv_iload_n hC.1 hC.2.1 dX9_mark_15 rfl (lv_at hl 1 rfl) ?_
      refine lv_istore_n (lv' := [(3, .int (tw_I a1)), (0, .ref this), (1, .int (tw_I a1)), (2, .int (tw_I a2))]) hC.1 hC.2.1 dX9_mark_16 rfl hl (by decide) rfl (fun ls hl => ?_)
      refine lv_iconst (v := tw_I 0) hC.1 hC.2.1 dX9_mark_17 rfl ?_
      refine lv_istore (lv' := [(4, .int (tw_I 0)), (3, .int (tw_I a1)), (0, .ref this), (1, .int (tw_I a1)), (2, .int (tw_I a2))]) hC.1 hC.2.1 dX9_mark_18 hl (by decide) rfl (fun ls hl => ?_)
      exact sX9_mark_L20 G sz hC this a1 a2 ga1 ga2 a1 0 h ga1 ((tw_rgL rfl)) out hk H locs _ hR hL (lv_sub hl [2, 3, 4, 1, 0] rfl)
set_option maxRecDepth 100000 in
theorem kX9_mark {l : Launch} {p : Program} {e : Env} {R : Room} {s : State} {m : MethodId} {args : Array Value} {below : List Frame} {meth : Method} {c : Code} {H : Heap} {locs : List Loc} {cells slots : Nat} {Q : State → Prop} {cc : ByteArray} {pc nL idx : Nat} {ls : Array Slot} {rest : List Value} {G : tw_G} {h : tm_H} {own : String} {ret : Option FieldType} {α : Type} {x : α} {sz : Nat} {this : Nat} {a1 : Int} {a2 : Int} (hC : tw_C G p s m args meth c own cc nL ret) (hR : tw_Rel G sz h H) (hL : tw_L G locs) {F : Int × tm_H → Option α} (hk : (fX9_mark this a1 a2 h).bind F = some x) (ga1 : tm_rg a1) (ga2 : tm_rg a2) (hl : tw_mL own idx yX9_mark) (hRm : rmX9_mark.frames + 1 ≤ R.frames ∧ 8 + (7 + 11) + rmX9_mark.locals ≤ R.locals) (hsz : ls.size = nL) (hW : (rest.map fun v => v.category).sum ≤ 8) (hf : cells + 0 ≤ R.cells ∧ slots + 0 ≤ R.slots) (hdg : decode cc pc = .ok (.invokevirtual idx, 3)) (kk : ∀ (r : Int) (h1 : tm_H) (H1 : Heap) (locs1 : List Loc), tw_Rel G sz h1 H1 → tw_L G locs1 → tm_rg r → F (r, h1) = some x → W p l e R s m args below meth c H1 locs1 (cells + 0) (slots + 0) Q (F0 m (pc + 3) ls (.int (tw_I r) :: rest))) : W p l e R s m args below meth c H locs cells slots Q (F0 m pc ls (.int (tw_I a2) :: .int (tw_I a1) :: .ref this :: rest)) := by
  obtain ⟨r, hr, hF⟩ := Option.bind_eq_some_iff.mp hk
  have ob : ∀ r, fX9_mark this a1 a2 h = some r → tm_is h 9 this := fun r hr => by
    unfold fX9_mark at hr
    exact (tm_th_is hr).1
  exact tw_backi (tw_runV hC hR (cX9_mark_ok l G sz this a1 a2 ga1 ga2 h r hr) (n := 2) (As := [.int (tw_I a1), .int (tw_I a2)]) ⟨tw_in_TB 1078 (by decide +kernel) rfl, tw_in_TB 62 (by decide +kernel) rfl, by decide +kernel⟩ (tw_in_TB 1076 (by decide +kernel) rfl) (tw_in_TB 1077 (by decide +kernel) rfl) hl ⟨rfl, rfl⟩ hRm (ob r hr) (T := TX9) (N := 15) rfl rfl hsz rfl hW hdg hf) hL (fun H1 locs1 a b g => kk r.1 r.2 H1 locs1 a b g hF)
def rmX9_why : Room := { frames := 6, cells := 0, slots := 0, locals := 145 }
set_option maxRecDepth 100000 in
set_option maxHeartbeats 4000000 in
theorem sX9_why_L72 {l : Launch} {p : Program} {e : Env} {s : State} {m : MethodId} {args : Array Value} {below : List Frame} {meth : Method} {c : Code} (G : tw_G) (sz : Nat) (hC : tw_C G p s m args meth c RX9 cX9_why 5 (some .int)) (this : Nat) (a1 : Int) (a2 : Int) (a3 : Int) (ga1 : tm_rg a1) (ga2 : tm_rg a2) (ga3 : tm_rg a3) (x4 : Int) (h : tm_H) (gx4 : tm_rg x4) (out : Int × tm_H) (hk : fX9_why_L72 this a1 a2 a3 x4 h = some out) (H : Heap) (locs : List Loc) (ls : Array Slot) (hR : tw_Rel G sz h H) (hL : tw_L G locs) (hl : lv_has ls 5 [(0, .ref this), (1, .int (tw_I a1)), (2, .int (tw_I a2)), (3, .int (tw_I a3)), (4, .int (tw_I x4))]) : W p l e rmX9_why s m args below meth c H locs 0 0 (MQ below (tw_Qi G sz out.1 out.2) args s 0 0 (tw_F G)) (F0 m 72 ls []) := by
  unfold fX9_why_L72 at hk
  refine lv_aload_n hC.1 hC.2.1 dX9_why_72 rfl (lv_at hl 0 rfl) ?_
  refine tw_getR hC hR hk flX9_31 dX9_why_73 (fun r11 hk => ?_)
  refine lv_iload_n hC.1 hC.2.1 dX9_why_76 rfl (lv_at hl 2 rfl) ?_
  refine tw_iald hC hR hk dX9_why_77 (fun v12 gv12 hk => ?_)
  refine tw_zle (tgt := 85) hC hk gv12 dX9_why_78 (by decide) (fun _ hk => ?_) (fun _ hk => ?_)
  · refine lv_iconst (v := tw_I 3) hC.1 hC.2.1 dX9_why_81 rfl ?_
    refine lv_goto (tgt := 116) hC.1 hC.2.1 dX9_why_82 (by decide) ?_
    cases hk
    exact tw_iret hC hR hL ((tw_rgL rfl)) rfl rfl dX9_why_116
  · refine lv_aload_n hC.1 hC.2.1 dX9_why_85 rfl (lv_at hl 0 rfl) ?_
    refine lv_iload_n hC.1 hC.2.1 dX9_why_86 rfl (lv_at hl 3 rfl) ?_
    refine kX9_isQuiet hC hR hL hk ga3 mlX9_115 ⟨by decide, by decide⟩ hl.1 (Nat.le_of_ble_eq_true rfl) ⟨Nat.zero_le _, Nat.zero_le _⟩ dX9_why_87 (fun v13 H locs hR hL gv13 hk => ?_)
    refine tw_zeq (tgt := 97) hC hk gv13 dX9_why_90 (by decide) (fun _ hk => ?_) (fun _ hk => ?_)
    · refine lv_aload_n hC.1 hC.2.1 dX9_why_97 rfl (lv_at hl 0 rfl) ?_
      refine tw_getR hC hR hk flX9_34 dX9_why_98 (fun r14 hk => ?_)
      refine lv_iload_n hC.1 hC.2.1 dX9_why_101 rfl (lv_at hl 2 rfl) ?_
      refine tw_zald hC hR hk dX9_why_102 (fun v15 gv15 hk => ?_)
      refine tw_zeq (tgt := 115) hC hk gv15 dX9_why_103 (by decide) (fun _ hk => ?_) (fun _ hk => ?_)
      · refine lv_iconst (v := tw_I 5) hC.1 hC.2.1 dX9_why_115 rfl ?_
        cases hk
        exact tw_iret hC hR hL ((tw_rgL rfl)) rfl rfl dX9_why_116
      · refine lv_iload hC.1 hC.2.1 dX9_why_106 (lv_at hl 4 rfl) ?_
        refine tw_zle (tgt := 115) hC hk gx4 dX9_why_108 (by decide) (fun _ hk => ?_) (fun _ hk => ?_)
        · refine lv_iconst (v := tw_I 0) hC.1 hC.2.1 dX9_why_111 rfl ?_
          refine lv_goto (tgt := 116) hC.1 hC.2.1 dX9_why_112 (by decide) ?_
          cases hk
          exact tw_iret hC hR hL ((tw_rgL rfl)) rfl rfl dX9_why_116
        · refine lv_iconst (v := tw_I 5) hC.1 hC.2.1 dX9_why_115 rfl ?_
          cases hk
          exact tw_iret hC hR hL ((tw_rgL rfl)) rfl rfl dX9_why_116
    · refine lv_iconst (v := tw_I 4) hC.1 hC.2.1 dX9_why_93 rfl ?_
      refine lv_goto (tgt := 116) hC.1 hC.2.1 dX9_why_94 (by decide) ?_
      cases hk
      exact tw_iret hC hR hL ((tw_rgL rfl)) rfl rfl dX9_why_116
set_option maxRecDepth 100000 in
set_option maxHeartbeats 4000000 in
theorem cX9_why_ok (l : Launch) (G : tw_G) (sz : Nat) (this : Nat) (a1 : Int) (a2 : Int) (a3 : Int) (ga1 : tm_rg a1) (ga2 : tm_rg a2) (ga3 : tm_rg a3) (h : tm_H) (out : Int × tm_H) (hk : fX9_why this a1 a2 a3 h = some out) : Met l yX9_why (tw_WS yX9_why cX9_why 5 (some .int)) rmX9_why (va_Pc [.ref this, .int (tw_I a1), .int (tw_I a2), .int (tw_I a3)] (tw_Pre G sz h)) (tw_Qi G sz out.1 out.2) 0 0 (tw_F G) := by
  refine tw_met (by decide +kernel) (Nat.le_of_ble_eq_true rfl) ?_
  intro p e s m args below meth c H ls hC hnm hR hl
  unfold fX9_why at hk
  obtain ⟨hob, hk⟩ := tm_th_is hk
  have hl : lv_has ls 5 [(0, .ref this), (1, .int (tw_I a1)), (2, .int (tw_I a2)), (3, .int (tw_I a3))] := hl
  have hL : tw_L G [] := fun q z => by cases z
  generalize hlc : ([] : List Loc) = locs at hL ⊢
  refine lv_iload_n hC.1 hC.2.1 dX9_why_0 rfl (lv_at hl 1 rfl) ?_
  refine kX9_isChapter hC hR hL hk ga1 mlX9_53 ⟨by decide, by decide⟩ hl.1 (Nat.le_of_ble_eq_true rfl) ⟨Nat.zero_le _, Nat.zero_le _⟩ dX9_why_1 (fun v1 H locs hR hL gv1 hk => ?_)
  refine tw_zeq (tgt := 30) hC hk gv1 dX9_why_4 (by decide) (fun _ hk => ?_) (fun _ hk => ?_)
  · refine lv_iconst (v := tw_I (-1)) hC.1 hC.2.1 dX9_why_30 rfl ?_
    cases hk
    exact tw_iret hC hR hL ((tw_rgL rfl)) rfl rfl dX9_why_31
  · refine lv_iload_n hC.1 hC.2.1 dX9_why_7 rfl (lv_at hl 2 rfl) ?_
    refine lv_iconst (v := tw_I 0) hC.1 hC.2.1 dX9_why_8 rfl ?_
    refine lv_aload_n hC.1 hC.2.1 dX9_why_9 rfl (lv_at hl 0 rfl) ?_
    refine lv_iload_n hC.1 hC.2.1 dX9_why_10 rfl (lv_at hl 1 rfl) ?_
    refine kX9_size hC hR hL hk ga1 mlX9_57 ⟨by decide, by decide⟩ hl.1 (Nat.le_of_ble_eq_true rfl) ⟨Nat.zero_le _, Nat.zero_le _⟩ dX9_why_11 (fun v2 H locs hR hL gv2 hk => ?_)
    refine lv_iconst (v := tw_I 1) hC.1 hC.2.1 dX9_why_14 rfl ?_
    refine tw_isub hC dX9_why_15 ?_
    refine kX9_in hC hR hL hk ga2 ((tw_rgL rfl)) ((tm_wr_rg _)) mlX9_45 ⟨by decide, by decide⟩ hl.1 (Nat.le_of_ble_eq_true rfl) ⟨Nat.zero_le _, Nat.zero_le _⟩ dX9_why_16 (fun v3 H locs hR hL gv3 hk => ?_)
    refine tw_zeq (tgt := 30) hC hk gv3 dX9_why_19 (by decide) (fun _ hk => ?_) (fun _ hk => ?_)
    · refine lv_iconst (v := tw_I (-1)) hC.1 hC.2.1 dX9_why_30 rfl ?_
      cases hk
      exact tw_iret hC hR hL ((tw_rgL rfl)) rfl rfl dX9_why_31
    · refine lv_aload_n hC.1 hC.2.1 dX9_why_22 rfl (lv_at hl 0 rfl) ?_
      refine lv_iload_n hC.1 hC.2.1 dX9_why_23 rfl (lv_at hl 3 rfl) ?_
      refine kX9_isTerm hC hR hL hk ga3 mlX9_90 ⟨by decide, by decide⟩ hl.1 (Nat.le_of_ble_eq_true rfl) ⟨Nat.zero_le _, Nat.zero_le _⟩ dX9_why_24 (fun v4 H locs hR hL gv4 hk => ?_)
      refine tw_zne (tgt := 32) hC hk gv4 dX9_why_27 (by decide) (fun _ hk => ?_) (fun _ hk => ?_)
      · refine lv_iconst (v := tw_I (-1)) hC.1 hC.2.1 dX9_why_30 rfl ?_
        cases hk
        exact tw_iret hC hR hL ((tw_rgL rfl)) rfl rfl dX9_why_31
      · refine lv_aload_n hC.1 hC.2.1 dX9_why_32 rfl (lv_at hl 0 rfl) ?_
        refine lv_iload_n hC.1 hC.2.1 dX9_why_33 rfl (lv_at hl 1 rfl) ?_
        refine kX9_reads hC hR hL hk ga1 mlX9_122 ⟨by decide, by decide⟩ hl.1 (Nat.le_of_ble_eq_true rfl) ⟨Nat.zero_le _, Nat.zero_le _⟩ dX9_why_34 (fun v5 h5 H locs hR hL gv5 hk => ?_)
        refine lv_istore (lv' := [(4, .int (tw_I v5)), (0, .ref this), (1, .int (tw_I a1)), (2, .int (tw_I a2)), (3, .int (tw_I a3))]) hC.1 hC.2.1 dX9_why_37 hl (by decide) rfl (fun ls hl => ?_)
        refine lv_aload_n hC.1 hC.2.1 dX9_why_39 rfl (lv_at hl 1 rfl) ?_
        refine lv_iload_n hC.1 hC.2.1 dX9_why_40 rfl (lv_at hl 4 rfl) ?_
        refine lv_iload_n hC.1 hC.2.1 dX9_why_41 rfl (lv_at hl 2 rfl) ?_
        refine lv_iload_n hC.1 hC.2.1 dX9_why_42 rfl (lv_at hl 3 rfl) ?_
        refine kX9_occurs hC hR hL hk ga3 ga1 ga2 mlX9_108 ⟨by decide, by decide⟩ hl.1 (Nat.le_of_ble_eq_true rfl) ⟨Nat.zero_le _, Nat.zero_le _⟩ dX9_why_43 (fun v6 H locs hR hL gv6 hk => ?_)
        refine tw_zne (tgt := 51) hC hk gv6 dX9_why_46 (by decide) (fun _ hk => ?_) (fun _ hk => ?_)
        · refine lv_iconst (v := tw_I 1) hC.1 hC.2.1 dX9_why_49 rfl ?_
          cases hk
          exact tw_iret hC hR hL ((tw_rgL rfl)) rfl rfl dX9_why_50
        · refine lv_aload_n hC.1 hC.2.1 dX9_why_51 rfl (lv_at hl 1 rfl) ?_
          refine tw_getR hC hR hk flX9_31 dX9_why_52 (fun r7 hk => ?_)
          refine lv_iload_n hC.1 hC.2.1 dX9_why_55 rfl (lv_at hl 3 rfl) ?_
          refine tw_iald hC hR hk dX9_why_56 (fun v8 gv8 hk => ?_)
          refine tw_zne (tgt := 72) hC hk gv8 dX9_why_57 (by decide) (fun _ hk => ?_) (fun _ hk => ?_)
          · refine lv_aload_n hC.1 hC.2.1 dX9_why_60 rfl (lv_at hl 1 rfl) ?_
            refine tw_getR hC hR hk flX9_28 dX9_why_61 (fun r9 hk => ?_)
            refine lv_iload_n hC.1 hC.2.1 dX9_why_64 rfl (lv_at hl 3 rfl) ?_
            refine tw_iald hC hR hk dX9_why_65 (fun v10 gv10 hk => ?_)
            refine lv_iload_n hC.1 hC.2.1 dX9_why_66 rfl (lv_at hl 4 rfl) ?_
            refine tw_ceq (tgt := 72) hC hk gv10 ga3 dX9_why_67 (by decide) (fun _ hk => ?_) (fun _ hk => ?_)
            · exact sX9_why_L72 G sz hC this a1 a2 a3 ga1 ga2 ga3 v5 h5 gv5 out hk H locs _ hR hL (lv_sub hl [1, 2, 3, 4, 0] rfl)
            · refine lv_iconst (v := tw_I 2) hC.1 hC.2.1 dX9_why_70 rfl ?_
              cases hk
              exact tw_iret hC hR hL ((tw_rgL rfl)) rfl rfl dX9_why_71
          · exact sX9_why_L72 G sz hC this a1 a2 a3 ga1 ga2 ga3 v5 h5 gv5 out hk H locs _ hR hL (lv_sub hl [1, 2, 3, 4, 0] rfl)
set_option maxRecDepth 100000 in
theorem kX9_why {l : Launch} {p : Program} {e : Env} {R : Room} {s : State} {m : MethodId} {args : Array Value} {below : List Frame} {meth : Method} {c : Code} {H : Heap} {locs : List Loc} {cells slots : Nat} {Q : State → Prop} {cc : ByteArray} {pc nL idx : Nat} {ls : Array Slot} {rest : List Value} {G : tw_G} {h : tm_H} {own : String} {ret : Option FieldType} {α : Type} {x : α} {sz : Nat} {this : Nat} {a1 : Int} {a2 : Int} {a3 : Int} (hC : tw_C G p s m args meth c own cc nL ret) (hR : tw_Rel G sz h H) (hL : tw_L G locs) {F : Int × tm_H → Option α} (hk : (fX9_why this a1 a2 a3 h).bind F = some x) (ga1 : tm_rg a1) (ga2 : tm_rg a2) (ga3 : tm_rg a3) (hl : tw_mL own idx yX9_why) (hRm : rmX9_why.frames + 1 ≤ R.frames ∧ 8 + (5 + 11) + rmX9_why.locals ≤ R.locals) (hsz : ls.size = nL) (hW : (rest.map fun v => v.category).sum ≤ 8) (hf : cells + 0 ≤ R.cells ∧ slots + 0 ≤ R.slots) (hdg : decode cc pc = .ok (.invokevirtual idx, 3)) (kk : ∀ (r : Int) (h1 : tm_H) (H1 : Heap) (locs1 : List Loc), tw_Rel G sz h1 H1 → tw_L G locs1 → tm_rg r → F (r, h1) = some x → W p l e R s m args below meth c H1 locs1 (cells + 0) (slots + 0) Q (F0 m (pc + 3) ls (.int (tw_I r) :: rest))) : W p l e R s m args below meth c H locs cells slots Q (F0 m pc ls (.int (tw_I a3) :: .int (tw_I a2) :: .int (tw_I a1) :: .ref this :: rest)) := by
  obtain ⟨r, hr, hF⟩ := Option.bind_eq_some_iff.mp hk
  have ob : ∀ r, fX9_why this a1 a2 a3 h = some r → tm_is h 9 this := fun r hr => by
    unfold fX9_why at hr
    exact (tm_th_is hr).1
  exact tw_backi (tw_runV hC hR (cX9_why_ok l G sz this a1 a2 a3 ga1 ga2 ga3 h r hr) (n := 3) (As := [.int (tw_I a1), .int (tw_I a2), .int (tw_I a3)]) ⟨tw_in_TB 1082 (by decide +kernel) rfl, tw_in_TB 62 (by decide +kernel) rfl, by decide +kernel⟩ (tw_in_TB 1080 (by decide +kernel) rfl) (tw_in_TB 1081 (by decide +kernel) rfl) hl ⟨rfl, rfl⟩ hRm (ob r hr) (T := TX9) (N := 15) rfl rfl hsz rfl hW hdg hf) hL (fun H1 locs1 a b g => kk r.1 r.2 H1 locs1 a b g hF)
def rmX9_nested : Room := { frames := 2, cells := 0, slots := 0, locals := 43 }
set_option maxRecDepth 100000 in
set_option maxHeartbeats 4000000 in
theorem sX9_nested_S0 {l : Launch} {p : Program} {e : Env} {s : State} {m : MethodId} {args : Array Value} {below : List Frame} {meth : Method} {c : Code} (G : tw_G) (sz : Nat) (hC : tw_C G p s m args meth c RX9 cX9_nested 7 (some .int)) (this : Nat) (a1 : Int) (a2 : Int) (ga1 : tm_rg a1) (ga2 : tm_rg a2) (h : tm_H) : ∀ (k : Nat) (st : (Int × Int) ⊕ (Int × Int × Int × Int) ⊕ (Int × Int × Int × Int) ⊕ (Int × Int × Int) ⊕ (Int × Int × Int)) (out : Int), tm_wit (fX9_nested_S0 this a1 a2 h) k st = some out → match st with
    | .inl ((x3, x4)) => ∀ (H : Heap) (locs : List Loc) (ls : Array Slot), tm_rg x3 → tm_rg x4 → tw_Rel G sz h H → tw_L G locs → lv_has ls 7 [(0, .ref this), (1, .int (tw_I a1)), (2, .int (tw_I a2)), (3, .int (tw_I x3)), (4, .int (tw_I x4))] → W p l e rmX9_nested s m args below meth c H locs 0 0 (MQ below (tw_Qi G sz out h) args s 0 0 (tw_F G)) (F0 m 23 ls [])
    | .inr (.inl ((x3, x4, x5, x6))) => ∀ (H : Heap) (locs : List Loc) (ls : Array Slot), tm_rg x3 → tm_rg x4 → tm_rg x5 → tm_rg x6 → tw_Rel G sz h H → tw_L G locs → lv_has ls 7 [(0, .ref this), (1, .int (tw_I a1)), (2, .int (tw_I a2)), (3, .int (tw_I x3)), (4, .int (tw_I x4)), (5, .int (tw_I x5)), (6, .int (tw_I x6))] → W p l e rmX9_nested s m args below meth c H locs 0 0 (MQ below (tw_Qi G sz out h) args s 0 0 (tw_F G)) (F0 m 47 ls [])
    | .inr (.inr (.inl ((x3, x4, x6, s0)))) => ∀ (H : Heap) (locs : List Loc) (ls : Array Slot), tm_rg x3 → tm_rg x4 → tm_rg x6 → tm_rg s0 → tw_Rel G sz h H → tw_L G locs → lv_has ls 7 [(0, .ref this), (1, .int (tw_I a1)), (2, .int (tw_I a2)), (3, .int (tw_I x3)), (4, .int (tw_I x4)), (6, .int (tw_I x6))] → W p l e rmX9_nested s m args below meth c H locs 0 0 (MQ below (tw_Qi G sz out h) args s 0 0 (tw_F G)) (F0 m 102 ls [.int (tw_I s0)])
    | .inr (.inr (.inr (.inl ((x3, x4, x5))))) => ∀ (H : Heap) (locs : List Loc) (ls : Array Slot), tm_rg x3 → tm_rg x4 → tm_rg x5 → tw_Rel G sz h H → tw_L G locs → lv_has ls 7 [(0, .ref this), (1, .int (tw_I a1)), (2, .int (tw_I a2)), (3, .int (tw_I x3)), (4, .int (tw_I x4)), (5, .int (tw_I x5))] → W p l e rmX9_nested s m args below meth c H locs 0 0 (MQ below (tw_Qi G sz out h) args s 0 0 (tw_F G)) (F0 m 110 ls [])
    | .inr (.inr (.inr (.inr ((x4, s0, s1))))) => ∀ (H : Heap) (locs : List Loc) (ls : Array Slot), tm_rg x4 → tm_rg s0 → tm_rg s1 → tw_Rel G sz h H → tw_L G locs → lv_has ls 7 [(0, .ref this), (1, .int (tw_I a1)), (2, .int (tw_I a2)), (4, .int (tw_I x4))] → W p l e rmX9_nested s m args below meth c H locs 0 0 (MQ below (tw_Qi G sz out h) args s 0 0 (tw_F G)) (F0 m 121 ls [.int (tw_I s1), .int (tw_I s0)]) := by
  intro k
  induction k with
  | zero =>
    intro st out hk
    exact absurd hk (by unfold tm_wit; exact fun z => by cases z)
  | succ k ih =>
    intro st out hk
    obtain ⟨X, hk, hf⟩ := tm_wit_succ hk
    obtain ⟨x3, x4⟩ | ⟨x3, x4, x5, x6⟩ | ⟨x3, x4, x6, s0⟩ | ⟨x3, x4, x5⟩ | ⟨x4, s0, s1⟩ := st
    · intro H locs ls gx3 gx4 hR hL hl
      dsimp only [fX9_nested_S0] at hk
      refine lv_iload hC.1 hC.2.1 dX9_nested_23 (lv_at hl 4 rfl) ?_
      refine lv_aload_n hC.1 hC.2.1 dX9_nested_25 rfl (lv_at hl 0 rfl) ?_
      refine lv_iload_n hC.1 hC.2.1 dX9_nested_26 rfl (lv_at hl 1 rfl) ?_
      refine lv_iconst (v := tw_I 0) hC.1 hC.2.1 dX9_nested_27 rfl ?_
      refine kX9_ofTerm hC hR hL hk ga1 ((tw_rgL rfl)) mlX9_71 ⟨by decide, by decide⟩ hl.1 (Nat.le_of_ble_eq_true rfl) ⟨Nat.zero_le _, Nat.zero_le _⟩ dX9_nested_28 (fun v3 H locs hR hL gv3 hk => ?_)
      refine tw_iadd hC dX9_nested_31 ?_
      refine lv_aload_n hC.1 hC.2.1 dX9_nested_32 rfl (lv_at hl 0 rfl) ?_
      refine lv_iload_n hC.1 hC.2.1 dX9_nested_33 rfl (lv_at hl 2 rfl) ?_
      refine lv_iconst (v := tw_I 0) hC.1 hC.2.1 dX9_nested_34 rfl ?_
      refine kX9_ofTerm hC hR hL hk ga2 ((tw_rgL rfl)) mlX9_71 ⟨by decide, by decide⟩ hl.1 (Nat.le_of_ble_eq_true rfl) ⟨Nat.zero_le _, Nat.zero_le _⟩ dX9_nested_35 (fun v4 H locs hR hL gv4 hk => ?_)
      refine tw_cgt (tgt := 129) hC hk ((tm_wr_rg _)) gv4 dX9_nested_38 (by decide) (fun _ hk => ?_) (fun _ hk => ?_)
      · refine lv_iload_n hC.1 hC.2.1 dX9_nested_129 rfl (lv_at hl 3 rfl) ?_
        cases hk
        cases hf
        exact tw_iret hC hR hL gx3 rfl rfl dX9_nested_130
      · refine lv_iconst (v := tw_I 1) hC.1 hC.2.1 dX9_nested_41 rfl ?_
        refine lv_istore (lv' := [(5, .int (tw_I 1)), (0, .ref this), (1, .int (tw_I a1)), (2, .int (tw_I a2)), (3, .int (tw_I x3)), (4, .int (tw_I x4))]) hC.1 hC.2.1 dX9_nested_42 hl (by decide) rfl (fun ls hl => ?_)
        refine lv_iconst (v := tw_I 1) hC.1 hC.2.1 dX9_nested_44 rfl ?_
        refine lv_istore (lv' := [(6, .int (tw_I 1)), (5, .int (tw_I 1)), (0, .ref this), (1, .int (tw_I a1)), (2, .int (tw_I a2)), (3, .int (tw_I x3)), (4, .int (tw_I x4))]) hC.1 hC.2.1 dX9_nested_45 hl (by decide) rfl (fun ls hl => ?_)
        cases hk
        exact ih _ out hf H locs _ gx3 gx4 ((tw_rgL rfl)) ((tw_rgL rfl)) hR hL (lv_sub hl [2, 3, 4, 5, 6, 1, 0] rfl)
    · intro H locs ls gx3 gx4 gx5 gx6 hR hL hl
      dsimp only [fX9_nested_S0] at hk
      refine lv_iload hC.1 hC.2.1 dX9_nested_47 (lv_at hl 6 rfl) ?_
      refine lv_aload_n hC.1 hC.2.1 dX9_nested_49 rfl (lv_at hl 0 rfl) ?_
      refine lv_iload_n hC.1 hC.2.1 dX9_nested_50 rfl (lv_at hl 1 rfl) ?_
      refine lv_iconst (v := tw_I 0) hC.1 hC.2.1 dX9_nested_51 rfl ?_
      refine kX9_ofTerm hC hR hL hk ga1 ((tw_rgL rfl)) mlX9_71 ⟨by decide, by decide⟩ hl.1 (Nat.le_of_ble_eq_true rfl) ⟨Nat.zero_le _, Nat.zero_le _⟩ dX9_nested_52 (fun v5 H locs hR hL gv5 hk => ?_)
      refine tw_cgt (tgt := 110) hC hk gx6 gv5 dX9_nested_55 (by decide) (fun _ hk => ?_) (fun _ hk => ?_)
      · cases hk
        exact ih _ out hf H locs _ gx3 gx4 gx5 hR hL (lv_sub hl [0, 1, 2, 3, 4, 5] rfl)
      · refine lv_iload hC.1 hC.2.1 dX9_nested_58 (lv_at hl 5 rfl) ?_
        refine tw_zeq (tgt := 110) hC hk gx5 dX9_nested_60 (by decide) (fun _ hk => ?_) (fun _ hk => ?_)
        · cases hk
          exact ih _ out hf H locs _ gx3 gx4 gx5 hR hL (lv_sub hl [0, 1, 2, 3, 4, 5] rfl)
        · refine lv_aload_n hC.1 hC.2.1 dX9_nested_63 rfl (lv_at hl 0 rfl) ?_
          refine tw_getR hC hR hk flX9_7 dX9_nested_64 (fun r6 hk => ?_)
          refine lv_iconst (v := tw_I 1) hC.1 hC.2.1 dX9_nested_67 rfl ?_
          refine lv_aload_n hC.1 hC.2.1 dX9_nested_68 rfl (lv_at hl 0 rfl) ?_
          refine lv_iload_n hC.1 hC.2.1 dX9_nested_69 rfl (lv_at hl 1 rfl) ?_
          refine lv_iload hC.1 hC.2.1 dX9_nested_70 (lv_at hl 6 rfl) ?_
          refine kX9_ofTerm hC hR hL hk ga1 gx6 mlX9_71 ⟨by decide, by decide⟩ hl.1 (Nat.le_of_ble_eq_true rfl) ⟨Nat.zero_le _, Nat.zero_le _⟩ dX9_nested_72 (fun v7 H locs hR hL gv7 hk => ?_)
          refine tw_iadd hC dX9_nested_75 ?_
          refine tw_iald hC hR hk dX9_nested_76 (fun v8 gv8 hk => ?_)
          refine lv_aload_n hC.1 hC.2.1 dX9_nested_77 rfl (lv_at hl 0 rfl) ?_
          refine tw_getR hC hR hk flX9_7 dX9_nested_78 (fun r9 hk => ?_)
          refine lv_iconst (v := tw_I 1) hC.1 hC.2.1 dX9_nested_81 rfl ?_
          refine lv_aload_n hC.1 hC.2.1 dX9_nested_82 rfl (lv_at hl 0 rfl) ?_
          refine lv_iload_n hC.1 hC.2.1 dX9_nested_83 rfl (lv_at hl 2 rfl) ?_
          refine lv_iload hC.1 hC.2.1 dX9_nested_84 (lv_at hl 4 rfl) ?_
          refine lv_iload hC.1 hC.2.1 dX9_nested_86 (lv_at hl 6 rfl) ?_
          refine tw_iadd hC dX9_nested_88 ?_
          refine kX9_ofTerm hC hR hL hk ga2 ((tm_wr_rg _)) mlX9_71 ⟨by decide, by decide⟩ hl.1 (Nat.le_of_ble_eq_true rfl) ⟨Nat.zero_le _, Nat.zero_le _⟩ dX9_nested_89 (fun v10 H locs hR hL gv10 hk => ?_)
          refine tw_iadd hC dX9_nested_92 ?_
          refine tw_iald hC hR hk dX9_nested_93 (fun v11 gv11 hk => ?_)
          refine tw_cne (tgt := 101) hC hk gv8 gv11 dX9_nested_94 (by decide) (fun _ hk => ?_) (fun _ hk => ?_)
          · refine lv_iconst (v := tw_I 1) hC.1 hC.2.1 dX9_nested_97 rfl ?_
            refine lv_goto (tgt := 102) hC.1 hC.2.1 dX9_nested_98 (by decide) ?_
            cases hk
            exact ih _ out hf H locs _ gx3 gx4 gx6 ((tw_rgL rfl)) hR hL (lv_sub hl [0, 1, 2, 3, 4, 6] rfl)
          · refine lv_iconst (v := tw_I 0) hC.1 hC.2.1 dX9_nested_101 rfl ?_
            cases hk
            exact ih _ out hf H locs _ gx3 gx4 gx6 ((tw_rgL rfl)) hR hL (lv_sub hl [0, 1, 2, 3, 4, 6] rfl)
    · intro H locs ls gx3 gx4 gx6 gs0 hR hL hl
      dsimp only [fX9_nested_S0] at hk
      refine lv_istore (lv' := [(5, .int (tw_I s0)), (0, .ref this), (1, .int (tw_I a1)), (2, .int (tw_I a2)), (3, .int (tw_I x3)), (4, .int (tw_I x4)), (6, .int (tw_I x6))]) hC.1 hC.2.1 dX9_nested_102 hl (by decide) rfl (fun ls hl => ?_)
      refine tw_iinc (lv' := [(6, .int (tw_I (tm_wr (x6 + 1)))), (5, .int (tw_I s0)), (0, .ref this), (1, .int (tw_I a1)), (2, .int (tw_I a2)), (3, .int (tw_I x3)), (4, .int (tw_I x4))]) hC dX9_nested_104 hl (k := 6) rfl (by decide) rfl (fun ls hl => ?_)
      refine lv_goto (tgt := 47) hC.1 hC.2.1 dX9_nested_107 (by decide) ?_
      cases hk
      exact ih _ out hf H locs _ gx3 gx4 gs0 ((tm_wr_rg _)) hR hL (lv_sub hl [2, 3, 4, 5, 6, 1, 0] rfl)
    · intro H locs ls gx3 gx4 gx5 hR hL hl
      dsimp only [fX9_nested_S0] at hk
      refine lv_iload_n hC.1 hC.2.1 dX9_nested_110 rfl (lv_at hl 3 rfl) ?_
      refine lv_iload hC.1 hC.2.1 dX9_nested_111 (lv_at hl 5 rfl) ?_
      refine tw_zeq (tgt := 120) hC hk gx5 dX9_nested_113 (by decide) (fun _ hk => ?_) (fun _ hk => ?_)
      · refine lv_iconst (v := tw_I 0) hC.1 hC.2.1 dX9_nested_120 rfl ?_
        cases hk
        exact ih _ out hf H locs _ gx4 gx3 ((tw_rgL rfl)) hR hL (lv_sub hl [0, 1, 2, 4] rfl)
      · refine lv_iconst (v := tw_I 1) hC.1 hC.2.1 dX9_nested_116 rfl ?_
        refine lv_goto (tgt := 121) hC.1 hC.2.1 dX9_nested_117 (by decide) ?_
        cases hk
        exact ih _ out hf H locs _ gx4 gx3 ((tw_rgL rfl)) hR hL (lv_sub hl [0, 1, 2, 4] rfl)
    · intro H locs ls gx4 gs0 gs1 hR hL hl
      dsimp only [fX9_nested_S0] at hk
      refine tw_iadd hC dX9_nested_121 ?_
      refine lv_istore_n (lv' := [(3, .int (tw_I (tm_wr (s0 + s1)))), (0, .ref this), (1, .int (tw_I a1)), (2, .int (tw_I a2)), (4, .int (tw_I x4))]) hC.1 hC.2.1 dX9_nested_122 rfl hl (by decide) rfl (fun ls hl => ?_)
      refine tw_iinc (lv' := [(4, .int (tw_I (tm_wr (x4 + 1)))), (3, .int (tw_I (tm_wr (s0 + s1)))), (0, .ref this), (1, .int (tw_I a1)), (2, .int (tw_I a2))]) hC dX9_nested_123 hl (k := 4) rfl (by decide) rfl (fun ls hl => ?_)
      refine lv_goto (tgt := 23) hC.1 hC.2.1 dX9_nested_126 (by decide) ?_
      cases hk
      exact ih _ out hf H locs _ ((tm_wr_rg _)) ((tm_wr_rg _)) hR hL (lv_sub hl [2, 3, 4, 1, 0] rfl)
theorem sX9_nested_L23 {l : Launch} {p : Program} {e : Env} {s : State} {m : MethodId} {args : Array Value} {below : List Frame} {meth : Method} {c : Code} (G : tw_G) (sz : Nat) (hC : tw_C G p s m args meth c RX9 cX9_nested 7 (some .int)) (this : Nat) (a1 : Int) (a2 : Int) (ga1 : tm_rg a1) (ga2 : tm_rg a2) (h : tm_H) (x3 : Int) (x4 : Int) (gx3 : tm_rg x3) (gx4 : tm_rg x4) (out : Int) (hk : fX9_nested_L23 this a1 a2 h x3 x4 = some out) (H : Heap) (locs : List Loc) (ls : Array Slot) (hR : tw_Rel G sz h H) (hL : tw_L G locs) (hl : lv_has ls 7 [(0, .ref this), (1, .int (tw_I a1)), (2, .int (tw_I a2)), (3, .int (tw_I x3)), (4, .int (tw_I x4))]) : W p l e rmX9_nested s m args below meth c H locs 0 0 (MQ below (tw_Qi G sz out h) args s 0 0 (tw_F G)) (F0 m 23 ls []) := by
  obtain ⟨k, hk⟩ := tm_wl_iff.mp hk
  exact sX9_nested_S0 G sz hC this a1 a2 ga1 ga2 h k (.inl ((x3, x4))) out hk H locs ls gx3 gx4 hR hL hl
theorem sX9_nested_L47 {l : Launch} {p : Program} {e : Env} {s : State} {m : MethodId} {args : Array Value} {below : List Frame} {meth : Method} {c : Code} (G : tw_G) (sz : Nat) (hC : tw_C G p s m args meth c RX9 cX9_nested 7 (some .int)) (this : Nat) (a1 : Int) (a2 : Int) (ga1 : tm_rg a1) (ga2 : tm_rg a2) (h : tm_H) (x3 : Int) (x4 : Int) (x5 : Int) (x6 : Int) (gx3 : tm_rg x3) (gx4 : tm_rg x4) (gx5 : tm_rg x5) (gx6 : tm_rg x6) (out : Int) (hk : fX9_nested_L47 this a1 a2 h x3 x4 x5 x6 = some out) (H : Heap) (locs : List Loc) (ls : Array Slot) (hR : tw_Rel G sz h H) (hL : tw_L G locs) (hl : lv_has ls 7 [(0, .ref this), (1, .int (tw_I a1)), (2, .int (tw_I a2)), (3, .int (tw_I x3)), (4, .int (tw_I x4)), (5, .int (tw_I x5)), (6, .int (tw_I x6))]) : W p l e rmX9_nested s m args below meth c H locs 0 0 (MQ below (tw_Qi G sz out h) args s 0 0 (tw_F G)) (F0 m 47 ls []) := by
  obtain ⟨k, hk⟩ := tm_wl_iff.mp hk
  exact sX9_nested_S0 G sz hC this a1 a2 ga1 ga2 h k (.inr (.inl ((x3, x4, x5, x6)))) out hk H locs ls gx3 gx4 gx5 gx6 hR hL hl
theorem sX9_nested_L102 {l : Launch} {p : Program} {e : Env} {s : State} {m : MethodId} {args : Array Value} {below : List Frame} {meth : Method} {c : Code} (G : tw_G) (sz : Nat) (hC : tw_C G p s m args meth c RX9 cX9_nested 7 (some .int)) (this : Nat) (a1 : Int) (a2 : Int) (ga1 : tm_rg a1) (ga2 : tm_rg a2) (h : tm_H) (x3 : Int) (x4 : Int) (x6 : Int) (s0 : Int) (gx3 : tm_rg x3) (gx4 : tm_rg x4) (gx6 : tm_rg x6) (gs0 : tm_rg s0) (out : Int) (hk : fX9_nested_L102 this a1 a2 h x3 x4 x6 s0 = some out) (H : Heap) (locs : List Loc) (ls : Array Slot) (hR : tw_Rel G sz h H) (hL : tw_L G locs) (hl : lv_has ls 7 [(0, .ref this), (1, .int (tw_I a1)), (2, .int (tw_I a2)), (3, .int (tw_I x3)), (4, .int (tw_I x4)), (6, .int (tw_I x6))]) : W p l e rmX9_nested s m args below meth c H locs 0 0 (MQ below (tw_Qi G sz out h) args s 0 0 (tw_F G)) (F0 m 102 ls [.int (tw_I s0)]) := by
  obtain ⟨k, hk⟩ := tm_wl_iff.mp hk
  exact sX9_nested_S0 G sz hC this a1 a2 ga1 ga2 h k (.inr (.inr (.inl ((x3, x4, x6, s0))))) out hk H locs ls gx3 gx4 gx6 gs0 hR hL hl
theorem sX9_nested_L110 {l : Launch} {p : Program} {e : Env} {s : State} {m : MethodId} {args : Array Value} {below : List Frame} {meth : Method} {c : Code} (G : tw_G) (sz : Nat) (hC : tw_C G p s m args meth c RX9 cX9_nested 7 (some .int)) (this : Nat) (a1 : Int) (a2 : Int) (ga1 : tm_rg a1) (ga2 : tm_rg a2) (h : tm_H) (x3 : Int) (x4 : Int) (x5 : Int) (gx3 : tm_rg x3) (gx4 : tm_rg x4) (gx5 : tm_rg x5) (out : Int) (hk : fX9_nested_L110 this a1 a2 h x3 x4 x5 = some out) (H : Heap) (locs : List Loc) (ls : Array Slot) (hR : tw_Rel G sz h H) (hL : tw_L G locs) (hl : lv_has ls 7 [(0, .ref this), (1, .int (tw_I a1)), (2, .int (tw_I a2)), (3, .int (tw_I x3)), (4, .int (tw_I x4)), (5, .int (tw_I x5))]) : W p l e rmX9_nested s m args below meth c H locs 0 0 (MQ below (tw_Qi G sz out h) args s 0 0 (tw_F G)) (F0 m 110 ls []) := by
  obtain ⟨k, hk⟩ := tm_wl_iff.mp hk
  exact sX9_nested_S0 G sz hC this a1 a2 ga1 ga2 h k (.inr (.inr (.inr (.inl ((x3, x4, x5)))))) out hk H locs ls gx3 gx4 gx5 hR hL hl
theorem sX9_nested_L121 {l : Launch} {p : Program} {e : Env} {s : State} {m : MethodId} {args : Array Value} {below : List Frame} {meth : Method} {c : Code} (G : tw_G) (sz : Nat) (hC : tw_C G p s m args meth c RX9 cX9_nested 7 (some .int)) (this : Nat) (a1 : Int) (a2 : Int) (ga1 : tm_rg a1) (ga2 : tm_rg a2) (h : tm_H) (x4 : Int) (s0 : Int) (s1 : Int) (gx4 : tm_rg x4) (gs0 : tm_rg s0) (gs1 : tm_rg s1) (out : Int) (hk : fX9_nested_L121 this a1 a2 h x4 s0 s1 = some out) (H : Heap) (locs : List Loc) (ls : Array Slot) (hR : tw_Rel G sz h H) (hL : tw_L G locs) (hl : lv_has ls 7 [(0, .ref this), (1, .int (tw_I a1)), (2, .int (tw_I a2)), (4, .int (tw_I x4))]) : W p l e rmX9_nested s m args below meth c H locs 0 0 (MQ below (tw_Qi G sz out h) args s 0 0 (tw_F G)) (F0 m 121 ls [.int (tw_I s1), .int (tw_I s0)]) := by
  obtain ⟨k, hk⟩ := tm_wl_iff.mp hk
  exact sX9_nested_S0 G sz hC this a1 a2 ga1 ga2 h k (.inr (.inr (.inr (.inr ((x4, s0, s1)))))) out hk H locs ls gx4 gs0 gs1 hR hL hl
set_option maxRecDepth 100000 in
set_option maxHeartbeats 4000000 in
theorem cX9_nested_ok (l : Launch) (G : tw_G) (sz : Nat) (this : Nat) (a1 : Int) (a2 : Int) (ga1 : tm_rg a1) (ga2 : tm_rg a2) (h : tm_H) (out : Int) (hk : fX9_nested this a1 a2 h = some out) : Met l yX9_nested (tw_WS yX9_nested cX9_nested 7 (some .int)) rmX9_nested (va_Pc [.ref this, .int (tw_I a1), .int (tw_I a2)] (tw_Pre G sz h)) (tw_Qi G sz out h) 0 0 (tw_F G) := by
  refine tw_met (by decide +kernel) (Nat.le_of_ble_eq_true rfl) ?_
  intro p e s m args below meth c H ls hC hnm hR hl
  unfold fX9_nested at hk
  obtain ⟨hob, hk⟩ := tm_th_is hk
  have hl : lv_has ls 7 [(0, .ref this), (1, .int (tw_I a1)), (2, .int (tw_I a2))] := hl
  have hL : tw_L G [] := fun q z => by cases z
  generalize hlc : ([] : List Loc) = locs at hL ⊢
  refine lv_aload_n hC.1 hC.2.1 dX9_nested_0 rfl (lv_at hl 0 rfl) ?_
  refine lv_iload_n hC.1 hC.2.1 dX9_nested_1 rfl (lv_at hl 1 rfl) ?_
  refine kX9_isTerm hC hR hL hk ga1 mlX9_90 ⟨by decide, by decide⟩ hl.1 (Nat.le_of_ble_eq_true rfl) ⟨Nat.zero_le _, Nat.zero_le _⟩ dX9_nested_2 (fun v1 H locs hR hL gv1 hk => ?_)
  refine tw_zeq (tgt := 16) hC hk gv1 dX9_nested_5 (by decide) (fun _ hk => ?_) (fun _ hk => ?_)
  · refine lv_iconst (v := tw_I (-1)) hC.1 hC.2.1 dX9_nested_16 rfl ?_
    cases hk
    exact tw_iret hC hR hL ((tw_rgL rfl)) rfl rfl dX9_nested_17
  · refine lv_aload_n hC.1 hC.2.1 dX9_nested_8 rfl (lv_at hl 0 rfl) ?_
    refine lv_iload_n hC.1 hC.2.1 dX9_nested_9 rfl (lv_at hl 2 rfl) ?_
    refine kX9_isTerm hC hR hL hk ga2 mlX9_90 ⟨by decide, by decide⟩ hl.1 (Nat.le_of_ble_eq_true rfl) ⟨Nat.zero_le _, Nat.zero_le _⟩ dX9_nested_10 (fun v2 H locs hR hL gv2 hk => ?_)
    refine tw_zne (tgt := 18) hC hk gv2 dX9_nested_13 (by decide) (fun _ hk => ?_) (fun _ hk => ?_)
    · refine lv_iconst (v := tw_I (-1)) hC.1 hC.2.1 dX9_nested_16 rfl ?_
      cases hk
      exact tw_iret hC hR hL ((tw_rgL rfl)) rfl rfl dX9_nested_17
    · refine lv_iconst (v := tw_I 0) hC.1 hC.2.1 dX9_nested_18 rfl ?_
      refine lv_istore_n (lv' := [(3, .int (tw_I 0)), (0, .ref this), (1, .int (tw_I a1)), (2, .int (tw_I a2))]) hC.1 hC.2.1 dX9_nested_19 rfl hl (by decide) rfl (fun ls hl => ?_)
      refine lv_iconst (v := tw_I 0) hC.1 hC.2.1 dX9_nested_20 rfl ?_
      refine lv_istore (lv' := [(4, .int (tw_I 0)), (3, .int (tw_I 0)), (0, .ref this), (1, .int (tw_I a1)), (2, .int (tw_I a2))]) hC.1 hC.2.1 dX9_nested_21 hl (by decide) rfl (fun ls hl => ?_)
      exact sX9_nested_L23 G sz hC this a1 a2 ga1 ga2 h 0 0 ((tw_rgL rfl)) ((tw_rgL rfl)) out hk H locs _ hR hL (lv_sub hl [2, 3, 4, 1, 0] rfl)
set_option maxRecDepth 100000 in
theorem kX9_nested {l : Launch} {p : Program} {e : Env} {R : Room} {s : State} {m : MethodId} {args : Array Value} {below : List Frame} {meth : Method} {c : Code} {H : Heap} {locs : List Loc} {cells slots : Nat} {Q : State → Prop} {cc : ByteArray} {pc nL idx : Nat} {ls : Array Slot} {rest : List Value} {G : tw_G} {h : tm_H} {own : String} {ret : Option FieldType} {α : Type} {x : α} {sz : Nat} {this : Nat} {a1 : Int} {a2 : Int} (hC : tw_C G p s m args meth c own cc nL ret) (hR : tw_Rel G sz h H) (hL : tw_L G locs) {F : Int → Option α} (hk : (fX9_nested this a1 a2 h).bind F = some x) (ga1 : tm_rg a1) (ga2 : tm_rg a2) (hl : tw_mL own idx yX9_nested) (hRm : rmX9_nested.frames + 1 ≤ R.frames ∧ 8 + (7 + 11) + rmX9_nested.locals ≤ R.locals) (hsz : ls.size = nL) (hW : (rest.map fun v => v.category).sum ≤ 8) (hf : cells + 0 ≤ R.cells ∧ slots + 0 ≤ R.slots) (hdg : decode cc pc = .ok (.invokevirtual idx, 3)) (kk : ∀ (r : Int) (H1 : Heap) (locs1 : List Loc), tw_Rel G sz h H1 → tw_L G locs1 → tm_rg r → F r = some x → W p l e R s m args below meth c H1 locs1 (cells + 0) (slots + 0) Q (F0 m (pc + 3) ls (.int (tw_I r) :: rest))) : W p l e R s m args below meth c H locs cells slots Q (F0 m pc ls (.int (tw_I a2) :: .int (tw_I a1) :: .ref this :: rest)) := by
  obtain ⟨r, hr, hF⟩ := Option.bind_eq_some_iff.mp hk
  have ob : ∀ r, fX9_nested this a1 a2 h = some r → tm_is h 9 this := fun r hr => by
    unfold fX9_nested at hr
    exact (tm_th_is hr).1
  exact tw_backi (tw_runV hC hR (cX9_nested_ok l G sz this a1 a2 ga1 ga2 h r hr) (n := 2) (As := [.int (tw_I a1), .int (tw_I a2)]) ⟨tw_in_TB 1086 (by decide +kernel) rfl, tw_in_TB 62 (by decide +kernel) rfl, by decide +kernel⟩ (tw_in_TB 1084 (by decide +kernel) rfl) (tw_in_TB 1085 (by decide +kernel) rfl) hl ⟨rfl, rfl⟩ hRm (ob r hr) (T := TX9) (N := 15) rfl rfl hsz rfl hW hdg hf) hL (fun H1 locs1 a b g => kk r H1 locs1 a b g hF)
def rmX9_gain : Room := { frames := 6, cells := 0, slots := 0, locals := 145 }
set_option maxRecDepth 100000 in
set_option maxHeartbeats 4000000 in
theorem sX9_gain_S0 {l : Launch} {p : Program} {e : Env} {s : State} {m : MethodId} {args : Array Value} {below : List Frame} {meth : Method} {c : Code} (G : tw_G) (sz : Nat) (hC : tw_C G p s m args meth c RX9 cX9_gain 7 (some .int)) (this : Nat) (a1 : Int) (a2 : Int) (a3 : Int) (a4 : Int) (ga1 : tm_rg a1) (ga2 : tm_rg a2) (ga3 : tm_rg a3) (ga4 : tm_rg a4) : ∀ (k : Nat) (st : (Int × Int × tm_H)) (out : Int × tm_H), tm_wit (fX9_gain_S0 this a1 a2 a3 a4) k st = some out → match st with
    | (x5, x6, h) => ∀ (H : Heap) (locs : List Loc) (ls : Array Slot), tm_rg x5 → tm_rg x6 → tw_Rel G sz h H → tw_L G locs → lv_has ls 7 [(0, .ref this), (1, .int (tw_I a1)), (2, .int (tw_I a2)), (3, .int (tw_I a3)), (4, .int (tw_I a4)), (5, .int (tw_I x5)), (6, .int (tw_I x6))] → W p l e rmX9_gain s m args below meth c H locs 0 0 (MQ below (tw_Qi G sz out.1 out.2) args s 0 0 (tw_F G)) (F0 m 30 ls []) := by
  intro k
  induction k with
  | zero =>
    intro st out hk
    exact absurd hk (by unfold tm_wit; exact fun z => by cases z)
  | succ k ih =>
    intro st out hk
    obtain ⟨X, hk, hf⟩ := tm_wit_succ hk
    obtain ⟨x5, x6, h⟩ := st
    intro H locs ls gx5 gx6 hR hL hl
    dsimp only [fX9_gain_S0] at hk
    refine lv_iload hC.1 hC.2.1 dX9_gain_30 (lv_at hl 6 rfl) ?_
    refine lv_bipush (v := tw_I 6) hC.1 hC.2.1 dX9_gain_32 (by decide) ?_
    refine tw_cge (tgt := 63) hC hk gx6 ((tw_rgL rfl)) dX9_gain_34 (by decide) (fun _ hk => ?_) (fun _ hk => ?_)
    · refine lv_iload hC.1 hC.2.1 dX9_gain_37 (lv_at hl 5 rfl) ?_
      refine lv_aload_n hC.1 hC.2.1 dX9_gain_39 rfl (lv_at hl 0 rfl) ?_
      refine lv_iload hC.1 hC.2.1 dX9_gain_40 (lv_at hl 6 rfl) ?_
      refine lv_iconst (v := tw_I (-1)) hC.1 hC.2.1 dX9_gain_42 rfl ?_
      refine lv_iconst (v := tw_I 1) hC.1 hC.2.1 dX9_gain_43 rfl ?_
      refine kX9_readsBy hC hR hL hk gx6 ((tw_rgL rfl)) ((tw_rgL rfl)) mlX9_118 ⟨by decide, by decide⟩ hl.1 (Nat.le_of_ble_eq_true rfl) ⟨Nat.zero_le _, Nat.zero_le _⟩ dX9_gain_44 (fun v3 h3 H locs hR hL gv3 hk => ?_)
      refine lv_aload_n hC.1 hC.2.1 dX9_gain_47 rfl (lv_at hl 0 rfl) ?_
      refine lv_iload hC.1 hC.2.1 dX9_gain_48 (lv_at hl 6 rfl) ?_
      refine kX9_reads hC hR hL hk gx6 mlX9_122 ⟨by decide, by decide⟩ hl.1 (Nat.le_of_ble_eq_true rfl) ⟨Nat.zero_le _, Nat.zero_le _⟩ dX9_gain_50 (fun v4 h4 H locs hR hL gv4 hk => ?_)
      refine tw_isub hC dX9_gain_53 ?_
      refine tw_iadd hC dX9_gain_54 ?_
      refine lv_istore (lv' := [(5, .int (tw_I (tm_wr (x5 + (tm_wr (v3 - v4)))))), (0, .ref this), (1, .int (tw_I a1)), (2, .int (tw_I a2)), (3, .int (tw_I a3)), (4, .int (tw_I a4)), (6, .int (tw_I x6))]) hC.1 hC.2.1 dX9_gain_55 hl (by decide) rfl (fun ls hl => ?_)
      refine tw_iinc (lv' := [(6, .int (tw_I (tm_wr (x6 + 1)))), (5, .int (tw_I (tm_wr (x5 + (tm_wr (v3 - v4)))))), (0, .ref this), (1, .int (tw_I a1)), (2, .int (tw_I a2)), (3, .int (tw_I a3)), (4, .int (tw_I a4))]) hC dX9_gain_57 hl (k := 6) rfl (by decide) rfl (fun ls hl => ?_)
      refine lv_goto (tgt := 30) hC.1 hC.2.1 dX9_gain_60 (by decide) ?_
      cases hk
      exact ih _ out hf H locs _ ((tm_wr_rg _)) ((tm_wr_rg _)) hR hL (lv_sub hl [2, 3, 4, 5, 6, 1, 0] rfl)
    · refine lv_bipush (v := tw_I 100) hC.1 hC.2.1 dX9_gain_63 (by decide) ?_
      refine lv_iload hC.1 hC.2.1 dX9_gain_65 (lv_at hl 5 rfl) ?_
      refine tw_iadd hC dX9_gain_67 ?_
      cases hk
      cases hf
      exact tw_iret hC hR hL ((tm_wr_rg _)) rfl rfl dX9_gain_68
theorem sX9_gain_L30 {l : Launch} {p : Program} {e : Env} {s : State} {m : MethodId} {args : Array Value} {below : List Frame} {meth : Method} {c : Code} (G : tw_G) (sz : Nat) (hC : tw_C G p s m args meth c RX9 cX9_gain 7 (some .int)) (this : Nat) (a1 : Int) (a2 : Int) (a3 : Int) (a4 : Int) (ga1 : tm_rg a1) (ga2 : tm_rg a2) (ga3 : tm_rg a3) (ga4 : tm_rg a4) (x5 : Int) (x6 : Int) (h : tm_H) (gx5 : tm_rg x5) (gx6 : tm_rg x6) (out : Int × tm_H) (hk : fX9_gain_L30 this a1 a2 a3 a4 x5 x6 h = some out) (H : Heap) (locs : List Loc) (ls : Array Slot) (hR : tw_Rel G sz h H) (hL : tw_L G locs) (hl : lv_has ls 7 [(0, .ref this), (1, .int (tw_I a1)), (2, .int (tw_I a2)), (3, .int (tw_I a3)), (4, .int (tw_I a4)), (5, .int (tw_I x5)), (6, .int (tw_I x6))]) : W p l e rmX9_gain s m args below meth c H locs 0 0 (MQ below (tw_Qi G sz out.1 out.2) args s 0 0 (tw_F G)) (F0 m 30 ls []) := by
  obtain ⟨k, hk⟩ := tm_wl_iff.mp hk
  exact sX9_gain_S0 G sz hC this a1 a2 a3 a4 ga1 ga2 ga3 ga4 k ((x5, x6, h)) out hk H locs ls gx5 gx6 hR hL hl
set_option maxRecDepth 100000 in
set_option maxHeartbeats 4000000 in
theorem cX9_gain_ok (l : Launch) (G : tw_G) (sz : Nat) (this : Nat) (a1 : Int) (a2 : Int) (a3 : Int) (a4 : Int) (ga1 : tm_rg a1) (ga2 : tm_rg a2) (ga3 : tm_rg a3) (ga4 : tm_rg a4) (h : tm_H) (out : Int × tm_H) (hk : fX9_gain this a1 a2 a3 a4 h = some out) : Met l yX9_gain (tw_WS yX9_gain cX9_gain 7 (some .int)) rmX9_gain (va_Pc [.ref this, .int (tw_I a1), .int (tw_I a2), .int (tw_I a3), .int (tw_I a4)] (tw_Pre G sz h)) (tw_Qi G sz out.1 out.2) 0 0 (tw_F G) := by
  refine tw_met (by decide +kernel) (Nat.le_of_ble_eq_true rfl) ?_
  intro p e s m args below meth c H ls hC hnm hR hl
  unfold fX9_gain at hk
  obtain ⟨hob, hk⟩ := tm_th_is hk
  have hl : lv_has ls 7 [(0, .ref this), (1, .int (tw_I a1)), (2, .int (tw_I a2)), (3, .int (tw_I a3)), (4, .int (tw_I a4))] := hl
  have hL : tw_L G [] := fun q z => by cases z
  generalize hlc : ([] : List Loc) = locs at hL ⊢
  refine lv_aload_n hC.1 hC.2.1 dX9_gain_0 rfl (lv_at hl 0 rfl) ?_
  refine lv_iload_n hC.1 hC.2.1 dX9_gain_1 rfl (lv_at hl 1 rfl) ?_
  refine lv_iload_n hC.1 hC.2.1 dX9_gain_2 rfl (lv_at hl 2 rfl) ?_
  refine lv_iload_n hC.1 hC.2.1 dX9_gain_3 rfl (lv_at hl 3 rfl) ?_
  refine lv_iload hC.1 hC.2.1 dX9_gain_4 (lv_at hl 4 rfl) ?_
  refine kX9_tries hC hR hL hk ga1 ga2 ga3 ga4 mlX9_78 ⟨by decide, by decide⟩ hl.1 (Nat.le_of_ble_eq_true rfl) ⟨Nat.zero_le _, Nat.zero_le _⟩ dX9_gain_6 (fun v1 h1 H locs hR hL gv1 hk => ?_)
  refine tw_zne (tgt := 14) hC hk gv1 dX9_gain_9 (by decide) (fun _ hk => ?_) (fun _ hk => ?_)
  · refine lv_iconst (v := tw_I (-1)) hC.1 hC.2.1 dX9_gain_12 rfl ?_
    cases hk
    exact tw_iret hC hR hL ((tw_rgL rfl)) rfl rfl dX9_gain_13
  · refine lv_aload_n hC.1 hC.2.1 dX9_gain_14 rfl (lv_at hl 0 rfl) ?_
    refine kX9_isThere hC hR hL hk mlX9_82 ⟨by decide, by decide⟩ hl.1 (Nat.le_of_ble_eq_true rfl) ⟨Nat.zero_le _, Nat.zero_le _⟩ dX9_gain_15 (fun v2 H locs hR hL gv2 hk => ?_)
    refine tw_zeq (tgt := 24) hC hk gv2 dX9_gain_18 (by decide) (fun _ hk => ?_) (fun _ hk => ?_)
    · refine lv_iconst (v := tw_I 0) hC.1 hC.2.1 dX9_gain_24 rfl ?_
      refine lv_istore (lv' := [(5, .int (tw_I 0)), (0, .ref this), (1, .int (tw_I a1)), (2, .int (tw_I a2)), (3, .int (tw_I a3)), (4, .int (tw_I a4))]) hC.1 hC.2.1 dX9_gain_25 hl (by decide) rfl (fun ls hl => ?_)
      refine lv_iconst (v := tw_I 0) hC.1 hC.2.1 dX9_gain_27 rfl ?_
      refine lv_istore (lv' := [(6, .int (tw_I 0)), (5, .int (tw_I 0)), (0, .ref this), (1, .int (tw_I a1)), (2, .int (tw_I a2)), (3, .int (tw_I a3)), (4, .int (tw_I a4))]) hC.1 hC.2.1 dX9_gain_28 hl (by decide) rfl (fun ls hl => ?_)
      exact sX9_gain_L30 G sz hC this a1 a2 a3 a4 ga1 ga2 ga3 ga4 0 0 h1 ((tw_rgL rfl)) ((tw_rgL rfl)) out hk H locs _ hR hL (lv_sub hl [2, 3, 4, 5, 6, 1, 0] rfl)
    · refine lv_bipush (v := tw_I (-2)) hC.1 hC.2.1 dX9_gain_21 (by decide) ?_
      cases hk
      exact tw_iret hC hR hL ((tw_rgL rfl)) rfl rfl dX9_gain_23
set_option maxRecDepth 100000 in
theorem kX9_gain {l : Launch} {p : Program} {e : Env} {R : Room} {s : State} {m : MethodId} {args : Array Value} {below : List Frame} {meth : Method} {c : Code} {H : Heap} {locs : List Loc} {cells slots : Nat} {Q : State → Prop} {cc : ByteArray} {pc nL idx : Nat} {ls : Array Slot} {rest : List Value} {G : tw_G} {h : tm_H} {own : String} {ret : Option FieldType} {α : Type} {x : α} {sz : Nat} {this : Nat} {a1 : Int} {a2 : Int} {a3 : Int} {a4 : Int} (hC : tw_C G p s m args meth c own cc nL ret) (hR : tw_Rel G sz h H) (hL : tw_L G locs) {F : Int × tm_H → Option α} (hk : (fX9_gain this a1 a2 a3 a4 h).bind F = some x) (ga1 : tm_rg a1) (ga2 : tm_rg a2) (ga3 : tm_rg a3) (ga4 : tm_rg a4) (hl : tw_mL own idx yX9_gain) (hRm : rmX9_gain.frames + 1 ≤ R.frames ∧ 8 + (7 + 11) + rmX9_gain.locals ≤ R.locals) (hsz : ls.size = nL) (hW : (rest.map fun v => v.category).sum ≤ 8) (hf : cells + 0 ≤ R.cells ∧ slots + 0 ≤ R.slots) (hdg : decode cc pc = .ok (.invokevirtual idx, 3)) (kk : ∀ (r : Int) (h1 : tm_H) (H1 : Heap) (locs1 : List Loc), tw_Rel G sz h1 H1 → tw_L G locs1 → tm_rg r → F (r, h1) = some x → W p l e R s m args below meth c H1 locs1 (cells + 0) (slots + 0) Q (F0 m (pc + 3) ls (.int (tw_I r) :: rest))) : W p l e R s m args below meth c H locs cells slots Q (F0 m pc ls (.int (tw_I a4) :: .int (tw_I a3) :: .int (tw_I a2) :: .int (tw_I a1) :: .ref this :: rest)) := by
  obtain ⟨r, hr, hF⟩ := Option.bind_eq_some_iff.mp hk
  have ob : ∀ r, fX9_gain this a1 a2 a3 a4 h = some r → tm_is h 9 this := fun r hr => by
    unfold fX9_gain at hr
    exact (tm_th_is hr).1
  exact tw_backi (tw_runV hC hR (cX9_gain_ok l G sz this a1 a2 a3 a4 ga1 ga2 ga3 ga4 h r hr) (n := 4) (As := [.int (tw_I a1), .int (tw_I a2), .int (tw_I a3), .int (tw_I a4)]) ⟨tw_in_TB 1090 (by decide +kernel) rfl, tw_in_TB 62 (by decide +kernel) rfl, by decide +kernel⟩ (tw_in_TB 1088 (by decide +kernel) rfl) (tw_in_TB 1089 (by decide +kernel) rfl) hl ⟨rfl, rfl⟩ hRm (ob r hr) (T := TX9) (N := 15) rfl rfl hsz rfl hW hdg hf) hL (fun H1 locs1 a b g => kk r.1 r.2 H1 locs1 a b g hF)
def rmX9_greediest : Room := { frames := 6, cells := 0, slots := 0, locals := 147 }
set_option maxRecDepth 100000 in
set_option maxHeartbeats 4000000 in
theorem sX9_greediest_S0 {l : Launch} {p : Program} {e : Env} {s : State} {m : MethodId} {args : Array Value} {below : List Frame} {meth : Method} {c : Code} (G : tw_G) (sz : Nat) (hC : tw_C G p s m args meth c RX9 cX9_greediest 5 (some .int)) (this : Nat)  : ∀ (k : Nat) (st : (Int × Int × Int × tm_H) ⊕ (Int × Int × tm_H) ⊕ (Int × Int × Int × tm_H)) (out : Int × tm_H), tm_wit (fX9_greediest_S0 this) k st = some out → match st with
    | .inl ((x1, x2, x3, h)) => ∀ (H : Heap) (locs : List Loc) (ls : Array Slot), tm_rg x1 → tm_rg x2 → tm_rg x3 → tw_Rel G sz h H → tw_L G locs → lv_has ls 5 [(0, .ref this), (1, .int (tw_I x1)), (2, .int (tw_I x2)), (3, .int (tw_I x3))] → W p l e rmX9_greediest s m args below meth c H locs 0 0 (MQ below (tw_Qi G sz out.1 out.2) args s 0 0 (tw_F G)) (F0 m 7 ls [])
    | .inr (.inl ((x3, x4, h))) => ∀ (H : Heap) (locs : List Loc) (ls : Array Slot), tm_rg x3 → tm_rg x4 → tw_Rel G sz h H → tw_L G locs → lv_has ls 5 [(0, .ref this), (3, .int (tw_I x3)), (4, .int (tw_I x4))] → W p l e rmX9_greediest s m args below meth c H locs 0 0 (MQ below (tw_Qi G sz out.1 out.2) args s 0 0 (tw_F G)) (F0 m 38 ls [])
    | .inr (.inr ((x1, x2, x3, h))) => ∀ (H : Heap) (locs : List Loc) (ls : Array Slot), tm_rg x1 → tm_rg x2 → tm_rg x3 → tw_Rel G sz h H → tw_L G locs → lv_has ls 5 [(0, .ref this), (1, .int (tw_I x1)), (2, .int (tw_I x2)), (3, .int (tw_I x3))] → W p l e rmX9_greediest s m args below meth c H locs 0 0 (MQ below (tw_Qi G sz out.1 out.2) args s 0 0 (tw_F G)) (F0 m 43 ls []) := by
  intro k
  induction k with
  | zero =>
    intro st out hk
    exact absurd hk (by unfold tm_wit; exact fun z => by cases z)
  | succ k ih =>
    intro st out hk
    obtain ⟨X, hk, hf⟩ := tm_wit_succ hk
    obtain ⟨x1, x2, x3, h⟩ | ⟨x3, x4, h⟩ | ⟨x1, x2, x3, h⟩ := st
    · intro H locs ls gx1 gx2 gx3 hR hL hl
      dsimp only [fX9_greediest_S0] at hk
      refine lv_iload_n hC.1 hC.2.1 dX9_greediest_7 rfl (lv_at hl 3 rfl) ?_
      refine lv_aload_n hC.1 hC.2.1 dX9_greediest_8 rfl (lv_at hl 0 rfl) ?_
      refine tw_getR hC hR hk flX9_7 dX9_greediest_9 (fun r1 hk => ?_)
      refine lv_sipush (v := tw_I 307) hC.1 hC.2.1 dX9_greediest_12 (by decide) ?_
      refine tw_iald hC hR hk dX9_greediest_15 (fun v2 gv2 hk => ?_)
      refine tw_cge (tgt := 49) hC hk gx3 gv2 dX9_greediest_16 (by decide) (fun _ hk => ?_) (fun _ hk => ?_)
      · refine lv_aload_n hC.1 hC.2.1 dX9_greediest_19 rfl (lv_at hl 0 rfl) ?_
        refine lv_iload_n hC.1 hC.2.1 dX9_greediest_20 rfl (lv_at hl 3 rfl) ?_
        refine kX9_allMarks hC hR hL hk gx3 mlX9_68 ⟨by decide, by decide⟩ hl.1 (Nat.le_of_ble_eq_true rfl) ⟨Nat.zero_le _, Nat.zero_le _⟩ dX9_greediest_21 (fun v3 h3 H locs hR hL gv3 hk => ?_)
        refine lv_istore (lv' := [(4, .int (tw_I v3)), (0, .ref this), (1, .int (tw_I x1)), (2, .int (tw_I x2)), (3, .int (tw_I x3))]) hC.1 hC.2.1 dX9_greediest_24 hl (by decide) rfl (fun ls hl => ?_)
        refine lv_iload_n hC.1 hC.2.1 dX9_greediest_26 rfl (lv_at hl 2 rfl) ?_
        refine lv_bipush (v := tw_I (-99)) hC.1 hC.2.1 dX9_greediest_27 (by decide) ?_
        refine tw_ceq (tgt := 38) hC hk gx1 ((tw_rgL rfl)) dX9_greediest_29 (by decide) (fun _ hk => ?_) (fun _ hk => ?_)
        · cases hk
          exact ih _ out hf H locs _ gx3 gv3 hR hL (lv_sub hl [1, 4, 0] rfl)
        · refine lv_iload hC.1 hC.2.1 dX9_greediest_32 (lv_at hl 0 rfl) ?_
          refine lv_iload_n hC.1 hC.2.1 dX9_greediest_34 rfl (lv_at hl 3 rfl) ?_
          refine tw_cle (tgt := 43) hC hk gv3 gx2 dX9_greediest_35 (by decide) (fun _ hk => ?_) (fun _ hk => ?_)
          · cases hk
            exact ih _ out hf H locs _ gx3 gv3 hR hL (lv_sub hl [1, 4, 0] rfl)
          · cases hk
            exact ih _ out hf H locs _ gx1 gx2 gx3 hR hL (lv_sub hl [1, 2, 3, 4] rfl)
      · refine lv_iload_n hC.1 hC.2.1 dX9_greediest_49 rfl (lv_at hl 1 rfl) ?_
        cases hk
        cases hf
        exact tw_iret hC hR hL gx1 rfl rfl dX9_greediest_50
    · intro H locs ls gx3 gx4 hR hL hl
      dsimp only [fX9_greediest_S0] at hk
      refine lv_iload_n hC.1 hC.2.1 dX9_greediest_38 rfl (lv_at hl 1 rfl) ?_
      refine lv_istore_n (lv' := [(1, .int (tw_I x3)), (0, .ref this), (3, .int (tw_I x3)), (4, .int (tw_I x4))]) hC.1 hC.2.1 dX9_greediest_39 rfl hl (by decide) rfl (fun ls hl => ?_)
      refine lv_iload hC.1 hC.2.1 dX9_greediest_40 (lv_at hl 3 rfl) ?_
      refine lv_istore_n (lv' := [(2, .int (tw_I x4)), (1, .int (tw_I x3)), (0, .ref this), (3, .int (tw_I x3)), (4, .int (tw_I x4))]) hC.1 hC.2.1 dX9_greediest_42 rfl hl (by decide) rfl (fun ls hl => ?_)
      cases hk
      exact ih _ out hf H locs _ gx3 gx4 gx3 hR hL (lv_sub hl [2, 1, 0, 3] rfl)
    · intro H locs ls gx1 gx2 gx3 hR hL hl
      dsimp only [fX9_greediest_S0] at hk
      refine tw_iinc (lv' := [(3, .int (tw_I (tm_wr (x3 + 1)))), (0, .ref this), (1, .int (tw_I x1)), (2, .int (tw_I x2))]) hC dX9_greediest_43 hl (k := 3) rfl (by decide) rfl (fun ls hl => ?_)
      refine lv_goto (tgt := 7) hC.1 hC.2.1 dX9_greediest_46 (by decide) ?_
      cases hk
      exact ih _ out hf H locs _ gx1 gx2 ((tm_wr_rg _)) hR hL (lv_sub hl [1, 2, 3, 0] rfl)
theorem sX9_greediest_L7 {l : Launch} {p : Program} {e : Env} {s : State} {m : MethodId} {args : Array Value} {below : List Frame} {meth : Method} {c : Code} (G : tw_G) (sz : Nat) (hC : tw_C G p s m args meth c RX9 cX9_greediest 5 (some .int)) (this : Nat)  (x1 : Int) (x2 : Int) (x3 : Int) (h : tm_H) (gx1 : tm_rg x1) (gx2 : tm_rg x2) (gx3 : tm_rg x3) (out : Int × tm_H) (hk : fX9_greediest_L7 this x1 x2 x3 h = some out) (H : Heap) (locs : List Loc) (ls : Array Slot) (hR : tw_Rel G sz h H) (hL : tw_L G locs) (hl : lv_has ls 5 [(0, .ref this), (1, .int (tw_I x1)), (2, .int (tw_I x2)), (3, .int (tw_I x3))]) : W p l e rmX9_greediest s m args below meth c H locs 0 0 (MQ below (tw_Qi G sz out.1 out.2) args s 0 0 (tw_F G)) (F0 m 7 ls []) := by
  obtain ⟨k, hk⟩ := tm_wl_iff.mp hk
  exact sX9_greediest_S0 G sz hC this  k (.inl ((x1, x2, x3, h))) out hk H locs ls gx1 gx2 gx3 hR hL hl
theorem sX9_greediest_L38 {l : Launch} {p : Program} {e : Env} {s : State} {m : MethodId} {args : Array Value} {below : List Frame} {meth : Method} {c : Code} (G : tw_G) (sz : Nat) (hC : tw_C G p s m args meth c RX9 cX9_greediest 5 (some .int)) (this : Nat)  (x3 : Int) (x4 : Int) (h : tm_H) (gx3 : tm_rg x3) (gx4 : tm_rg x4) (out : Int × tm_H) (hk : fX9_greediest_L38 this x3 x4 h = some out) (H : Heap) (locs : List Loc) (ls : Array Slot) (hR : tw_Rel G sz h H) (hL : tw_L G locs) (hl : lv_has ls 5 [(0, .ref this), (3, .int (tw_I x3)), (4, .int (tw_I x4))]) : W p l e rmX9_greediest s m args below meth c H locs 0 0 (MQ below (tw_Qi G sz out.1 out.2) args s 0 0 (tw_F G)) (F0 m 38 ls []) := by
  obtain ⟨k, hk⟩ := tm_wl_iff.mp hk
  exact sX9_greediest_S0 G sz hC this  k (.inr (.inl ((x3, x4, h)))) out hk H locs ls gx3 gx4 hR hL hl
theorem sX9_greediest_L43 {l : Launch} {p : Program} {e : Env} {s : State} {m : MethodId} {args : Array Value} {below : List Frame} {meth : Method} {c : Code} (G : tw_G) (sz : Nat) (hC : tw_C G p s m args meth c RX9 cX9_greediest 5 (some .int)) (this : Nat)  (x1 : Int) (x2 : Int) (x3 : Int) (h : tm_H) (gx1 : tm_rg x1) (gx2 : tm_rg x2) (gx3 : tm_rg x3) (out : Int × tm_H) (hk : fX9_greediest_L43 this x1 x2 x3 h = some out) (H : Heap) (locs : List Loc) (ls : Array Slot) (hR : tw_Rel G sz h H) (hL : tw_L G locs) (hl : lv_has ls 5 [(0, .ref this), (1, .int (tw_I x1)), (2, .int (tw_I x2)), (3, .int (tw_I x3))]) : W p l e rmX9_greediest s m args below meth c H locs 0 0 (MQ below (tw_Qi G sz out.1 out.2) args s 0 0 (tw_F G)) (F0 m 43 ls []) := by
  obtain ⟨k, hk⟩ := tm_wl_iff.mp hk
  exact sX9_greediest_S0 G sz hC this  k (.inr (.inr ((x1, x2, x3, h)))) out hk H locs ls gx1 gx2 gx3 hR hL hl
set_option maxRecDepth 100000 in
set_option maxHeartbeats 4000000 in
theorem cX9_greediest_ok (l : Launch) (G : tw_G) (sz : Nat) (this : Nat)  (h : tm_H) (out : Int × tm_H) (hk : fX9_greediest this h = some out) : Met l yX9_greediest (tw_WS yX9_greediest cX9_greediest 5 (some .int)) rmX9_greediest (va_Pc [.ref this] (tw_Pre G sz h)) (tw_Qi G sz out.1 out.2) 0 0 (tw_F G) := by
  refine tw_met (by decide +kernel) (Nat.le_of_ble_eq_true rfl) ?_
  intro p e s m args below meth c H ls hC hnm hR hl
  unfold fX9_greediest at hk
  obtain ⟨hob, hk⟩ := tm_th_is hk
  have hl : lv_has ls 5 [(0, .ref this)] := hl
  have hL : tw_L G [] := fun q z => by cases z
  generalize hlc : ([] : List Loc) = locs at hL ⊢
  refine lv_bipush (v := tw_I (-99)) hC.1 hC.2.1 dX9_greediest_0 (by decide) ?_
  refine lv_istore_n (lv' := [(1, .int (tw_I ((-99)))), (0, .ref this)]) hC.1 hC.2.1 dX9_greediest_2 rfl hl (by decide) rfl (fun ls hl => ?_)
  refine lv_iconst (v := tw_I 0) hC.1 hC.2.1 dX9_greediest_3 rfl ?_
  refine lv_istore_n (lv' := [(2, .int (tw_I 0)), (1, .int (tw_I ((-99)))), (0, .ref this)]) hC.1 hC.2.1 dX9_greediest_4 rfl hl (by decide) rfl (fun ls hl => ?_)
  refine lv_iconst (v := tw_I 0) hC.1 hC.2.1 dX9_greediest_5 rfl ?_
  refine lv_istore_n (lv' := [(3, .int (tw_I 0)), (2, .int (tw_I 0)), (1, .int (tw_I ((-99)))), (0, .ref this)]) hC.1 hC.2.1 dX9_greediest_6 rfl hl (by decide) rfl (fun ls hl => ?_)
  exact sX9_greediest_L7 G sz hC this ((-99)) 0 0 h ((tw_rgL rfl)) ((tw_rgL rfl)) ((tw_rgL rfl)) out hk H locs _ hR hL (lv_sub hl [3, 2, 1, 0] rfl)
set_option maxRecDepth 100000 in
theorem kX9_greediest {l : Launch} {p : Program} {e : Env} {R : Room} {s : State} {m : MethodId} {args : Array Value} {below : List Frame} {meth : Method} {c : Code} {H : Heap} {locs : List Loc} {cells slots : Nat} {Q : State → Prop} {cc : ByteArray} {pc nL idx : Nat} {ls : Array Slot} {rest : List Value} {G : tw_G} {h : tm_H} {own : String} {ret : Option FieldType} {α : Type} {x : α} {sz : Nat} {this : Nat} (hC : tw_C G p s m args meth c own cc nL ret) (hR : tw_Rel G sz h H) (hL : tw_L G locs) {F : Int × tm_H → Option α} (hk : (fX9_greediest this h).bind F = some x)  (hl : tw_mL own idx yX9_greediest) (hRm : rmX9_greediest.frames + 1 ≤ R.frames ∧ 8 + (5 + 11) + rmX9_greediest.locals ≤ R.locals) (hsz : ls.size = nL) (hW : (rest.map fun v => v.category).sum ≤ 8) (hf : cells + 0 ≤ R.cells ∧ slots + 0 ≤ R.slots) (hdg : decode cc pc = .ok (.invokevirtual idx, 3)) (kk : ∀ (r : Int) (h1 : tm_H) (H1 : Heap) (locs1 : List Loc), tw_Rel G sz h1 H1 → tw_L G locs1 → tm_rg r → F (r, h1) = some x → W p l e R s m args below meth c H1 locs1 (cells + 0) (slots + 0) Q (F0 m (pc + 3) ls (.int (tw_I r) :: rest))) : W p l e R s m args below meth c H locs cells slots Q (F0 m pc ls (.ref this :: rest)) := by
  obtain ⟨r, hr, hF⟩ := Option.bind_eq_some_iff.mp hk
  have ob : ∀ r, fX9_greediest this h = some r → tm_is h 9 this := fun r hr => by
    unfold fX9_greediest at hr
    exact (tm_th_is hr).1
  exact tw_backi (tw_runV hC hR (cX9_greediest_ok l G sz this  h r hr) (n := 0) (As := []) ⟨tw_in_TB 1094 (by decide +kernel) rfl, tw_in_TB 62 (by decide +kernel) rfl, by decide +kernel⟩ (tw_in_TB 1092 (by decide +kernel) rfl) (tw_in_TB 1093 (by decide +kernel) rfl) hl ⟨rfl, rfl⟩ hRm (ob r hr) (T := TX9) (N := 15) rfl rfl hsz rfl hW hdg hf) hL (fun H1 locs1 a b g => kk r.1 r.2 H1 locs1 a b g hF)
