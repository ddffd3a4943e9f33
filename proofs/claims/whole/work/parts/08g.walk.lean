def rmX9_readsBy : Room := { frames := 4, cells := 0, slots := 0, locals := 95 }
set_option maxRecDepth 100000 in
set_option maxHeartbeats 4000000 in
theorem sX9_readsBy_S0 {l : Launch} {p : Program} {e : Env} {s : State} {m : MethodId} {args : Array Value} {below : List Frame} {meth : Method} {c : Code} (G : tw_G) (sz : Nat) (hC : tw_C G p s m args meth c RX9 cX9_readsBy 10 (some .int)) (this : Nat) (a1 : Int) (a2 : Int) (a3 : Int) (ga1 : tm_rg a1) (ga2 : tm_rg a2) (ga3 : tm_rg a3) : ∀ (k : Nat) (st : (Int × Int × Int × tm_H) ⊕ (Int × Int × Int × Int × Int × tm_H) ⊕ (Int × Int × Int × Int × Int × Int × tm_H) ⊕ (Int × Int × Int × Int × tm_H) ⊕ (Int × Int × Int × Int × tm_H)) (out : Int × tm_H), tm_wit (fX9_readsBy_S0 this a1 a2 a3) k st = some out → match st with
    | .inl ((x4, x5, x6, h)) => ∀ (H : Heap) (locs : List Loc) (ls : Array Slot), tm_rg x4 → tm_rg x5 → tm_rg x6 → tw_Rel G sz h H → tw_L G locs → lv_has ls 10 [(0, .ref this), (1, .int (tw_I a1)), (2, .int (tw_I a2)), (3, .int (tw_I a3)), (4, .int (tw_I x4)), (5, .int (tw_I x5)), (6, .int (tw_I x6))] → W p l e rmX9_readsBy s m args below meth c H locs 0 0 (MQ below (tw_Qi G sz out.1 out.2) args s 0 0 (tw_F G)) (F0 m 51 ls [])
    | .inr (.inl ((x4, x5, x6, x7, s0, h))) => ∀ (H : Heap) (locs : List Loc) (ls : Array Slot), tm_rg x4 → tm_rg x5 → tm_rg x6 → tm_rg x7 → tm_rg s0 → tw_Rel G sz h H → tw_L G locs → lv_has ls 10 [(0, .ref this), (1, .int (tw_I a1)), (2, .int (tw_I a2)), (3, .int (tw_I a3)), (4, .int (tw_I x4)), (5, .int (tw_I x5)), (6, .int (tw_I x6)), (7, .int (tw_I x7))] → W p l e rmX9_readsBy s m args below meth c H locs 0 0 (MQ below (tw_Qi G sz out.1 out.2) args s 0 0 (tw_F G)) (F0 m 90 ls [.int (tw_I s0)])
    | .inr (.inr (.inl ((x4, x5, x6, x7, x8, x9, h)))) => ∀ (H : Heap) (locs : List Loc) (ls : Array Slot), tm_rg x4 → tm_rg x5 → tm_rg x6 → tm_rg x7 → tm_rg x8 → tm_rg x9 → tw_Rel G sz h H → tw_L G locs → lv_has ls 10 [(0, .ref this), (1, .int (tw_I a1)), (2, .int (tw_I a2)), (3, .int (tw_I a3)), (4, .int (tw_I x4)), (5, .int (tw_I x5)), (6, .int (tw_I x6)), (7, .int (tw_I x7)), (8, .int (tw_I x8)), (9, .int (tw_I x9))] → W p l e rmX9_readsBy s m args below meth c H locs 0 0 (MQ below (tw_Qi G sz out.1 out.2) args s 0 0 (tw_F G)) (F0 m 95 ls [])
    | .inr (.inr (.inr (.inl ((x4, x5, x6, x8, h))))) => ∀ (H : Heap) (locs : List Loc) (ls : Array Slot), tm_rg x4 → tm_rg x5 → tm_rg x6 → tm_rg x8 → tw_Rel G sz h H → tw_L G locs → lv_has ls 10 [(0, .ref this), (1, .int (tw_I a1)), (2, .int (tw_I a2)), (3, .int (tw_I a3)), (4, .int (tw_I x4)), (5, .int (tw_I x5)), (6, .int (tw_I x6)), (8, .int (tw_I x8))] → W p l e rmX9_readsBy s m args below meth c H locs 0 0 (MQ below (tw_Qi G sz out.1 out.2) args s 0 0 (tw_F G)) (F0 m 176 ls [])
    | .inr (.inr (.inr (.inr ((x4, x5, s0, s1, h))))) => ∀ (H : Heap) (locs : List Loc) (ls : Array Slot), tm_rg x4 → tm_rg x5 → tm_rg s0 → tm_rg s1 → tw_Rel G sz h H → tw_L G locs → lv_has ls 10 [(0, .ref this), (1, .int (tw_I a1)), (2, .int (tw_I a2)), (3, .int (tw_I a3)), (4, .int (tw_I x4)), (5, .int (tw_I x5))] → W p l e rmX9_readsBy s m args below meth c H locs 0 0 (MQ below (tw_Qi G sz out.1 out.2) args s 0 0 (tw_F G)) (F0 m 189 ls [.int (tw_I s1), .int (tw_I s0)]) := by
  intro k
  induction k with
  | zero =>
    intro st out hk
    exact absurd hk (by unfold tm_wit; exact fun z => by cases z)
  | succ k ih =>
    intro st out hk
    obtain ⟨X, hk, hf⟩ := tm_wit_succ hk
    obtain ⟨x4, x5, x6, h⟩ | ⟨x4, x5, x6, x7, s0, h⟩ | ⟨x4, x5, x6, x7, x8, x9, h⟩ | ⟨x4, x5, x6, x8, h⟩ | ⟨x4, x5, s0, s1, h⟩ := st
    · intro H locs ls gx4 gx5 gx6 hR hL hl
      dsimp only [fX9_readsBy_S0] at hk
      refine lv_iload hC.1 hC.2.1 dX9_readsBy_51 (lv_at hl 6 rfl) ?_
      refine lv_aload_n hC.1 hC.2.1 dX9_readsBy_53 rfl (lv_at hl 0 rfl) ?_
      refine lv_iload_n hC.1 hC.2.1 dX9_readsBy_54 rfl (lv_at hl 1 rfl) ?_
      refine kX9_size hC hR hL hk ga1 mlX9_57 ⟨by decide, by decide⟩ hl.1 (Nat.le_of_ble_eq_true rfl) ⟨Nat.zero_le _, Nat.zero_le _⟩ dX9_readsBy_55 (fun v7 H locs hR hL gv7 hk => ?_)
      refine tw_cge (tgt := 195) hC hk gx6 gv7 dX9_readsBy_58 (by decide) (fun _ hk => ?_) (fun _ hk => ?_)
      · refine lv_aload_n hC.1 hC.2.1 dX9_readsBy_61 rfl (lv_at hl 0 rfl) ?_
        refine lv_iload_n hC.1 hC.2.1 dX9_readsBy_62 rfl (lv_at hl 1 rfl) ?_
        refine lv_iload hC.1 hC.2.1 dX9_readsBy_63 (lv_at hl 6 rfl) ?_
        refine lv_iload_n hC.1 hC.2.1 dX9_readsBy_65 rfl (lv_at hl 2 rfl) ?_
        refine lv_iload_n hC.1 hC.2.1 dX9_readsBy_66 rfl (lv_at hl 3 rfl) ?_
        refine kX9_longest hC hR hL hk ga1 gx6 ga2 ga3 mlX9_111 ⟨by decide, by decide⟩ hl.1 (Nat.le_of_ble_eq_true rfl) ⟨Nat.zero_le _, Nat.zero_le _⟩ dX9_readsBy_67 (fun v8 H locs hR hL gv8 hk => ?_)
        refine lv_istore (lv' := [(7, .int (tw_I v8)), (0, .ref this), (1, .int (tw_I a1)), (2, .int (tw_I a2)), (3, .int (tw_I a3)), (4, .int (tw_I x4)), (5, .int (tw_I x5)), (6, .int (tw_I x6))]) hC.1 hC.2.1 dX9_readsBy_70 hl (by decide) rfl (fun ls hl => ?_)
        refine lv_iload hC.1 hC.2.1 dX9_readsBy_72 (lv_at hl 0 rfl) ?_
        refine lv_bipush (v := tw_I (-99)) hC.1 hC.2.1 dX9_readsBy_74 (by decide) ?_
        refine tw_cne (tgt := 83) hC hk gv8 ((tw_rgL rfl)) dX9_readsBy_76 (by decide) (fun _ hk => ?_) (fun _ hk => ?_)
        · refine lv_iconst (v := tw_I 0) hC.1 hC.2.1 dX9_readsBy_79 rfl ?_
          refine lv_goto (tgt := 90) hC.1 hC.2.1 dX9_readsBy_80 (by decide) ?_
          cases hk
          exact ih _ out hf H locs _ gx4 gx5 gx6 gv8 ((tw_rgL rfl)) hR hL (lv_sub hl [1, 2, 3, 4, 5, 6, 7, 0] rfl)
        · refine lv_aload_n hC.1 hC.2.1 dX9_readsBy_83 rfl (lv_at hl 1 rfl) ?_
          refine lv_iload hC.1 hC.2.1 dX9_readsBy_84 (lv_at hl 0 rfl) ?_
          refine lv_iconst (v := tw_I 0) hC.1 hC.2.1 dX9_readsBy_86 rfl ?_
          refine kX9_ofTerm hC hR hL hk gv8 ((tw_rgL rfl)) mlX9_71 ⟨by decide, by decide⟩ hl.1 (Nat.le_of_ble_eq_true rfl) ⟨Nat.zero_le _, Nat.zero_le _⟩ dX9_readsBy_87 (fun v9 H locs hR hL gv9 hk => ?_)
          cases hk
          exact ih _ out hf H locs _ gx4 gx5 gx6 gv8 gv9 hR hL (lv_sub hl [1, 2, 3, 4, 5, 6, 7, 0] rfl)
      · refine lv_iload hC.1 hC.2.1 dX9_readsBy_195 (lv_at hl 4 rfl) ?_
        cases hk
        cases hf
        exact tw_iret hC hR hL gx4 rfl rfl dX9_readsBy_197
    · intro H locs ls gx4 gx5 gx6 gx7 gs0 hR hL hl
      dsimp only [fX9_readsBy_S0] at hk
      refine lv_istore (lv' := [(8, .int (tw_I s0)), (0, .ref this), (1, .int (tw_I a1)), (2, .int (tw_I a2)), (3, .int (tw_I a3)), (4, .int (tw_I x4)), (5, .int (tw_I x5)), (6, .int (tw_I x6)), (7, .int (tw_I x7))]) hC.1 hC.2.1 dX9_readsBy_90 hl (by decide) rfl (fun ls hl => ?_)
      refine lv_iconst (v := tw_I 0) hC.1 hC.2.1 dX9_readsBy_92 rfl ?_
      refine lv_istore (lv' := [(9, .int (tw_I 0)), (8, .int (tw_I s0)), (0, .ref this), (1, .int (tw_I a1)), (2, .int (tw_I a2)), (3, .int (tw_I a3)), (4, .int (tw_I x4)), (5, .int (tw_I x5)), (6, .int (tw_I x6)), (7, .int (tw_I x7))]) hC.1 hC.2.1 dX9_readsBy_93 hl (by decide) rfl (fun ls hl => ?_)
      cases hk
      exact ih _ out hf H locs _ gx4 gx5 gx6 gx7 gs0 ((tw_rgL rfl)) hR hL (lv_sub hl [2, 3, 4, 5, 6, 7, 8, 9, 1, 0] rfl)
    · intro H locs ls gx4 gx5 gx6 gx7 gx8 gx9 hR hL hl
      dsimp only [fX9_readsBy_S0] at hk
      refine lv_iload hC.1 hC.2.1 dX9_readsBy_95 (lv_at hl 9 rfl) ?_
      refine lv_iload hC.1 hC.2.1 dX9_readsBy_97 (lv_at hl 8 rfl) ?_
      refine tw_cge (tgt := 132) hC hk gx9 gx8 dX9_readsBy_99 (by decide) (fun _ hk => ?_) (fun _ hk => ?_)
      · refine lv_aload_n hC.1 hC.2.1 dX9_readsBy_102 rfl (lv_at hl 0 rfl) ?_
        refine tw_getR hC hR hk flX9_28 dX9_readsBy_103 (fun r10 hk => ?_)
        refine lv_iload hC.1 hC.2.1 dX9_readsBy_106 (lv_at hl 6 rfl) ?_
        refine lv_iload hC.1 hC.2.1 dX9_readsBy_108 (lv_at hl 9 rfl) ?_
        refine tw_iadd hC dX9_readsBy_110 ?_
        refine lv_iload hC.1 hC.2.1 dX9_readsBy_111 (lv_at hl 7 rfl) ?_
        refine tw_iast hC hR hL gx7 hk dX9_readsBy_113 (fun h11 H locs hR hL hk => ?_)
        refine lv_aload_n hC.1 hC.2.1 dX9_readsBy_114 rfl (lv_at hl 0 rfl) ?_
        refine tw_getR hC hR hk flX9_31 dX9_readsBy_115 (fun r12 hk => ?_)
        refine lv_iload hC.1 hC.2.1 dX9_readsBy_118 (lv_at hl 6 rfl) ?_
        refine lv_iload hC.1 hC.2.1 dX9_readsBy_120 (lv_at hl 9 rfl) ?_
        refine tw_iadd hC dX9_readsBy_122 ?_
        refine lv_iload hC.1 hC.2.1 dX9_readsBy_123 (lv_at hl 9 rfl) ?_
        refine tw_iast hC hR hL gx9 hk dX9_readsBy_125 (fun h13 H locs hR hL hk => ?_)
        refine tw_iinc (lv' := [(9, .int (tw_I (tm_wr (x9 + 1)))), (0, .ref this), (1, .int (tw_I a1)), (2, .int (tw_I a2)), (3, .int (tw_I a3)), (4, .int (tw_I x4)), (5, .int (tw_I x5)), (6, .int (tw_I x6)), (7, .int (tw_I x7)), (8, .int (tw_I x8))]) hC dX9_readsBy_126 hl (k := 9) rfl (by decide) rfl (fun ls hl => ?_)
        refine lv_goto (tgt := 95) hC.1 hC.2.1 dX9_readsBy_129 (by decide) ?_
        cases hk
        exact ih _ out hf H locs _ gx4 gx5 gx6 gx7 gx8 ((tm_wr_rg _)) hR hL (lv_sub hl [1, 2, 3, 4, 5, 6, 7, 8, 9, 0] rfl)
      · refine lv_iload hC.1 hC.2.1 dX9_readsBy_132 (lv_at hl 8 rfl) ?_
        refine tw_zle (tgt := 176) hC hk gx8 dX9_readsBy_134 (by decide) (fun _ hk => ?_) (fun _ hk => ?_)
        · refine lv_aload_n hC.1 hC.2.1 dX9_readsBy_137 rfl (lv_at hl 0 rfl) ?_
          refine lv_iload hC.1 hC.2.1 dX9_readsBy_138 (lv_at hl 7 rfl) ?_
          refine kX9_isQuiet hC hR hL hk gx7 mlX9_115 ⟨by decide, by decide⟩ hl.1 (Nat.le_of_ble_eq_true rfl) ⟨Nat.zero_le _, Nat.zero_le _⟩ dX9_readsBy_140 (fun v14 H locs hR hL gv14 hk => ?_)
          refine tw_zne (tgt := 176) hC hk gv14 dX9_readsBy_143 (by decide) (fun _ hk => ?_) (fun _ hk => ?_)
          · refine lv_iload hC.1 hC.2.1 dX9_readsBy_146 (lv_at hl 5 rfl) ?_
            refine lv_iload hC.1 hC.2.1 dX9_readsBy_148 (lv_at hl 7 rfl) ?_
            refine tw_ishr hC dX9_readsBy_150 ?_
            refine lv_iconst (v := tw_I 1) hC.1 hC.2.1 dX9_readsBy_151 rfl ?_
            refine tw_iand hC dX9_readsBy_152 ?_
            refine tw_zne (tgt := 176) hC hk ((tm_and_rg _ _)) dX9_readsBy_153 (by decide) (fun _ hk => ?_) (fun _ hk => ?_)
            · refine lv_iload hC.1 hC.2.1 dX9_readsBy_156 (lv_at hl 5 rfl) ?_
              refine lv_iconst (v := tw_I 1) hC.1 hC.2.1 dX9_readsBy_158 rfl ?_
              refine lv_iload hC.1 hC.2.1 dX9_readsBy_159 (lv_at hl 7 rfl) ?_
              refine tw_ishl hC dX9_readsBy_161 ?_
              refine tw_ior hC dX9_readsBy_162 ?_
              refine lv_istore (lv' := [(5, .int (tw_I (tm_or x5 (tm_shl 1 x7)))), (0, .ref this), (1, .int (tw_I a1)), (2, .int (tw_I a2)), (3, .int (tw_I a3)), (4, .int (tw_I x4)), (6, .int (tw_I x6)), (7, .int (tw_I x7)), (8, .int (tw_I x8)), (9, .int (tw_I x9))]) hC.1 hC.2.1 dX9_readsBy_163 hl (by decide) rfl (fun ls hl => ?_)
              refine lv_aload_n hC.1 hC.2.1 dX9_readsBy_165 rfl (lv_at hl 1 rfl) ?_
              refine tw_getR hC hR hk flX9_34 dX9_readsBy_166 (fun r15 hk => ?_)
              refine lv_iload hC.1 hC.2.1 dX9_readsBy_169 (lv_at hl 6 rfl) ?_
              refine lv_iconst (v := tw_I 1) hC.1 hC.2.1 dX9_readsBy_171 rfl ?_
              refine tw_zast hC hR hL hk dX9_readsBy_172 (fun h16 H locs hR hL hk => ?_)
              refine tw_iinc (lv' := [(4, .int (tw_I (tm_wr (x4 + 1)))), (5, .int (tw_I (tm_or x5 (tm_shl 1 x7)))), (0, .ref this), (1, .int (tw_I a1)), (2, .int (tw_I a2)), (3, .int (tw_I a3)), (6, .int (tw_I x6)), (7, .int (tw_I x7)), (8, .int (tw_I x8)), (9, .int (tw_I x9))]) hC dX9_readsBy_173 hl (k := 5) rfl (by decide) rfl (fun ls hl => ?_)
              cases hk
              exact ih _ out hf H locs _ ((tm_wr_rg _)) ((tm_or_rg _ _)) gx6 gx8 hR hL (lv_sub hl [2, 3, 4, 5, 0, 1, 6, 8] rfl)
            · cases hk
              exact ih _ out hf H locs _ gx4 gx5 gx6 gx8 hR hL (lv_sub hl [0, 1, 2, 3, 4, 5, 6, 8] rfl)
          · cases hk
            exact ih _ out hf H locs _ gx4 gx5 gx6 gx8 hR hL (lv_sub hl [0, 1, 2, 3, 4, 5, 6, 8] rfl)
        · cases hk
          exact ih _ out hf H locs _ gx4 gx5 gx6 gx8 hR hL (lv_sub hl [0, 1, 2, 3, 4, 5, 6, 8] rfl)
    · intro H locs ls gx4 gx5 gx6 gx8 hR hL hl
      dsimp only [fX9_readsBy_S0] at hk
      refine lv_iload hC.1 hC.2.1 dX9_readsBy_176 (lv_at hl 6 rfl) ?_
      refine lv_iload hC.1 hC.2.1 dX9_readsBy_178 (lv_at hl 7 rfl) ?_
      refine tw_zle (tgt := 188) hC hk gx8 dX9_readsBy_180 (by decide) (fun _ hk => ?_) (fun _ hk => ?_)
      · refine lv_iload hC.1 hC.2.1 dX9_readsBy_183 (lv_at hl 7 rfl) ?_
        refine lv_goto (tgt := 189) hC.1 hC.2.1 dX9_readsBy_185 (by decide) ?_
        cases hk
        exact ih _ out hf H locs _ gx4 gx5 gx6 gx8 hR hL (lv_sub hl [0, 1, 2, 3, 4, 5] rfl)
      · refine lv_iconst (v := tw_I 1) hC.1 hC.2.1 dX9_readsBy_188 rfl ?_
        cases hk
        exact ih _ out hf H locs _ gx4 gx5 gx6 ((tw_rgL rfl)) hR hL (lv_sub hl [0, 1, 2, 3, 4, 5] rfl)
    · intro H locs ls gx4 gx5 gs0 gs1 hR hL hl
      dsimp only [fX9_readsBy_S0] at hk
      refine tw_iadd hC dX9_readsBy_189 ?_
      refine lv_istore (lv' := [(6, .int (tw_I (tm_wr (s0 + s1)))), (0, .ref this), (1, .int (tw_I a1)), (2, .int (tw_I a2)), (3, .int (tw_I a3)), (4, .int (tw_I x4)), (5, .int (tw_I x5))]) hC.1 hC.2.1 dX9_readsBy_190 hl (by decide) rfl (fun ls hl => ?_)
      refine lv_goto (tgt := 51) hC.1 hC.2.1 dX9_readsBy_192 (by decide) ?_
      cases hk
      exact ih _ out hf H locs _ gx4 gx5 ((tm_wr_rg _)) hR hL (lv_sub hl [1, 2, 3, 4, 5, 6, 0] rfl)
theorem sX9_readsBy_L51 {l : Launch} {p : Program} {e : Env} {s : State} {m : MethodId} {args : Array Value} {below : List Frame} {meth : Method} {c : Code} (G : tw_G) (sz : Nat) (hC : tw_C G p s m args meth c RX9 cX9_readsBy 10 (some .int)) (this : Nat) (a1 : Int) (a2 : Int) (a3 : Int) (ga1 : tm_rg a1) (ga2 : tm_rg a2) (ga3 : tm_rg a3) (x4 : Int) (x5 : Int) (x6 : Int) (h : tm_H) (gx4 : tm_rg x4) (gx5 : tm_rg x5) (gx6 : tm_rg x6) (out : Int × tm_H) (hk : fX9_readsBy_L51 this a1 a2 a3 x4 x5 x6 h = some out) (H : Heap) (locs : List Loc) (ls : Array Slot) (hR : tw_Rel G sz h H) (hL : tw_L G locs) (hl : lv_has ls 10 [(0, .ref this), (1, .int (tw_I a1)), (2, .int (tw_I a2)), (3, .int (tw_I a3)), (4, .int (tw_I x4)), (5, .int (tw_I x5)), (6, .int (tw_I x6))]) : W p l e rmX9_readsBy s m args below meth c H locs 0 0 (MQ below (tw_Qi G sz out.1 out.2) args s 0 0 (tw_F G)) (F0 m 51 ls []) := by
  obtain ⟨k, hk⟩ := tm_wl_iff.mp hk
  exact sX9_readsBy_S0 G sz hC this a1 a2 a3 ga1 ga2 ga3 k (.inl ((x4, x5, x6, h))) out hk H locs ls gx4 gx5 gx6 hR hL hl
theorem sX9_readsBy_L90 {l : Launch} {p : Program} {e : Env} {s : State} {m : MethodId} {args : Array Value} {below : List Frame} {meth : Method} {c : Code} (G : tw_G) (sz : Nat) (hC : tw_C G p s m args meth c RX9 cX9_readsBy 10 (some .int)) (this : Nat) (a1 : Int) (a2 : Int) (a3 : Int) (ga1 : tm_rg a1) (ga2 : tm_rg a2) (ga3 : tm_rg a3) (x4 : Int) (x5 : Int) (x6 : Int) (x7 : Int) (s0 : Int) (h : tm_H) (gx4 : tm_rg x4) (gx5 : tm_rg x5) (gx6 : tm_rg x6) (gx7 : tm_rg x7) (gs0 : tm_rg s0) (out : Int × tm_H) (hk : fX9_readsBy_L90 this a1 a2 a3 x4 x5 x6 x7 s0 h = some out) (H : Heap) (locs : List Loc) (ls : Array Slot) (hR : tw_Rel G sz h H) (hL : tw_L G locs) (hl : lv_has ls 10 [(0, .ref this), (1, .int (tw_I a1)), (2, .int (tw_I a2)), (3, .int (tw_I a3)), (4, .int (tw_I x4)), (5, .int (tw_I x5)), (6, .int (tw_I x6)), (7, .int (tw_I x7))]) : W p l e rmX9_readsBy s m args below meth c H locs 0 0 (MQ below (tw_Qi G sz out.1 out.2) args s 0 0 (tw_F G)) (F0 m 90 ls [.int (tw_I s0)]) := by
  obtain ⟨k, hk⟩ := tm_wl_iff.mp hk
  exact sX9_readsBy_S0 G sz hC this a1 a2 a3 ga1 ga2 ga3 k (.inr (.inl ((x4, x5, x6, x7, s0, h)))) out hk H locs ls gx4 gx5 gx6 gx7 gs0 hR hL hl
theorem sX9_readsBy_L95 {l : Launch} {p : Program} {e : Env} {s : State} {m : MethodId} {args : Array Value} {below : List Frame} {meth : Method} {c : Code} (G : tw_G) (sz : Nat) (hC : tw_C G p s m args meth c RX9 cX9_readsBy 10 (some .int)) (this : Nat) (a1 : Int) (a2 : Int) (a3 : Int) (ga1 : tm_rg a1) (ga2 : tm_rg a2) (ga3 : tm_rg a3) (x4 : Int) (x5 : Int) (x6 : Int) (x7 : Int) (x8 : Int) (x9 : Int) (h : tm_H) (gx4 : tm_rg x4) (gx5 : tm_rg x5) (gx6 : tm_rg x6) (gx7 : tm_rg x7) (gx8 : tm_rg x8) (gx9 : tm_rg x9) (out : Int × tm_H) (hk : fX9_readsBy_L95 this a1 a2 a3 x4 x5 x6 x7 x8 x9 h = some out) (H : Heap) (locs : List Loc) (ls : Array Slot) (hR : tw_Rel G sz h H) (hL : tw_L G locs) (hl : lv_has ls 10 [(0, .ref this), (1, .int (tw_I a1)), (2, .int (tw_I a2)), (3, .int (tw_I a3)), (4, .int (tw_I x4)), (5, .int (tw_I x5)), (6, .int (tw_I x6)), (7, .int (tw_I x7)), (8, .int (tw_I x8)), (9, .int (tw_I x9))]) : W p l e rmX9_readsBy s m args below meth c H locs 0 0 (MQ below (tw_Qi G sz out.1 out.2) args s 0 0 (tw_F G)) (F0 m 95 ls []) := by
  obtain ⟨k, hk⟩ := tm_wl_iff.mp hk
  exact sX9_readsBy_S0 G sz hC this a1 a2 a3 ga1 ga2 ga3 k (.inr (.inr (.inl ((x4, x5, x6, x7, x8, x9, h))))) out hk H locs ls gx4 gx5 gx6 gx7 gx8 gx9 hR hL hl
theorem sX9_readsBy_L176 {l : Launch} {p : Program} {e : Env} {s : State} {m : MethodId} {args : Array Value} {below : List Frame} {meth : Method} {c : Code} (G : tw_G) (sz : Nat) (hC : tw_C G p s m args meth c RX9 cX9_readsBy 10 (some .int)) (this : Nat) (a1 : Int) (a2 : Int) (a3 : Int) (ga1 : tm_rg a1) (ga2 : tm_rg a2) (ga3 : tm_rg a3) (x4 : Int) (x5 : Int) (x6 : Int) (x8 : Int) (h : tm_H) (gx4 : tm_rg x4) (gx5 : tm_rg x5) (gx6 : tm_rg x6) (gx8 : tm_rg x8) (out : Int × tm_H) (hk : fX9_readsBy_L176 this a1 a2 a3 x4 x5 x6 x8 h = some out) (H : Heap) (locs : List Loc) (ls : Array Slot) (hR : tw_Rel G sz h H) (hL : tw_L G locs) (hl : lv_has ls 10 [(0, .ref this), (1, .int (tw_I a1)), (2, .int (tw_I a2)), (3, .int (tw_I a3)), (4, .int (tw_I x4)), (5, .int (tw_I x5)), (6, .int (tw_I x6)), (8, .int (tw_I x8))]) : W p l e rmX9_readsBy s m args below meth c H locs 0 0 (MQ below (tw_Qi G sz out.1 out.2) args s 0 0 (tw_F G)) (F0 m 176 ls []) := by
  obtain ⟨k, hk⟩ := tm_wl_iff.mp hk
  exact sX9_readsBy_S0 G sz hC this a1 a2 a3 ga1 ga2 ga3 k (.inr (.inr (.inr (.inl ((x4, x5, x6, x8, h)))))) out hk H locs ls gx4 gx5 gx6 gx8 hR hL hl
theorem sX9_readsBy_L189 {l : Launch} {p : Program} {e : Env} {s : State} {m : MethodId} {args : Array Value} {below : List Frame} {meth : Method} {c : Code} (G : tw_G) (sz : Nat) (hC : tw_C G p s m args meth c RX9 cX9_readsBy 10 (some .int)) (this : Nat) (a1 : Int) (a2 : Int) (a3 : Int) (ga1 : tm_rg a1) (ga2 : tm_rg a2) (ga3 : tm_rg a3) (x4 : Int) (x5 : Int) (s0 : Int) (s1 : Int) (h : tm_H) (gx4 : tm_rg x4) (gx5 : tm_rg x5) (gs0 : tm_rg s0) (gs1 : tm_rg s1) (out : Int × tm_H) (hk : fX9_readsBy_L189 this a1 a2 a3 x4 x5 s0 s1 h = some out) (H : Heap) (locs : List Loc) (ls : Array Slot) (hR : tw_Rel G sz h H) (hL : tw_L G locs) (hl : lv_has ls 10 [(0, .ref this), (1, .int (tw_I a1)), (2, .int (tw_I a2)), (3, .int (tw_I a3)), (4, .int (tw_I x4)), (5, .int (tw_I x5))]) : W p l e rmX9_readsBy s m args below meth c H locs 0 0 (MQ below (tw_Qi G sz out.1 out.2) args s 0 0 (tw_F G)) (F0 m 189 ls [.int (tw_I s1), .int (tw_I s0)]) := by
  obtain ⟨k, hk⟩ := tm_wl_iff.mp hk
  exact sX9_readsBy_S0 G sz hC this a1 a2 a3 ga1 ga2 ga3 k (.inr (.inr (.inr (.inr ((x4, x5, s0, s1, h)))))) out hk H locs ls gx4 gx5 gs0 gs1 hR hL hl
set_option maxRecDepth 100000 in
set_option maxHeartbeats 4000000 in
theorem sX9_readsBy_S1 {l : Launch} {p : Program} {e : Env} {s : State} {m : MethodId} {args : Array Value} {below : List Frame} {meth : Method} {c : Code} (G : tw_G) (sz : Nat) (hC : tw_C G p s m args meth c RX9 cX9_readsBy 10 (some .int)) (this : Nat) (a1 : Int) (a2 : Int) (a3 : Int) (ga1 : tm_rg a1) (ga2 : tm_rg a2) (ga3 : tm_rg a3) : ∀ (k : Nat) (st : (Int × Int × Int × Int × tm_H)) (out : Int × tm_H), tm_wit (fX9_readsBy_S1 this a1 a2 a3) k st = some out → match st with
    | (x4, x5, x6, x7, h) => ∀ (H : Heap) (locs : List Loc) (ls : Array Slot), tm_rg x4 → tm_rg x5 → tm_rg x6 → tm_rg x7 → tw_Rel G sz h H → tw_L G locs → lv_has ls 10 [(0, .ref this), (1, .int (tw_I a1)), (2, .int (tw_I a2)), (3, .int (tw_I a3)), (4, .int (tw_I x4)), (5, .int (tw_I x5)), (6, .int (tw_I x6)), (7, .int (tw_I x7))] → W p l e rmX9_readsBy s m args below meth c H locs 0 0 (MQ below (tw_Qi G sz out.1 out.2) args s 0 0 (tw_F G)) (F0 m 12 ls []) := by
  intro k
  induction k with
  | zero =>
    intro st out hk
    exact absurd hk (by unfold tm_wit; exact fun z => by cases z)
  | succ k ih =>
    intro st out hk
    obtain ⟨X, hk, hf⟩ := tm_wit_succ hk
    obtain ⟨x4, x5, x6, x7, h⟩ := st
    intro H locs ls gx4 gx5 gx6 gx7 hR hL hl
    dsimp only [fX9_readsBy_S1] at hk
    refine lv_iload hC.1 hC.2.1 dX9_readsBy_12 (lv_at hl 7 rfl) ?_
    refine lv_bipush (v := tw_I 40) hC.1 hC.2.1 dX9_readsBy_14 (by decide) ?_
    refine tw_cge (tgt := 51) hC hk gx7 ((tw_rgL rfl)) dX9_readsBy_16 (by decide) (fun _ hk => ?_) (fun _ hk => ?_)
    · refine lv_aload_n hC.1 hC.2.1 dX9_readsBy_19 rfl (lv_at hl 0 rfl) ?_
      refine tw_getR hC hR hk flX9_28 dX9_readsBy_20 (fun r1 hk => ?_)
      refine lv_iload hC.1 hC.2.1 dX9_readsBy_23 (lv_at hl 7 rfl) ?_
      refine lv_bipush (v := tw_I (-99)) hC.1 hC.2.1 dX9_readsBy_25 (by decide) ?_
      refine tw_iast hC hR hL ((tw_rgL rfl)) hk dX9_readsBy_27 (fun h2 H locs hR hL hk => ?_)
      refine lv_aload_n hC.1 hC.2.1 dX9_readsBy_28 rfl (lv_at hl 0 rfl) ?_
      refine tw_getR hC hR hk flX9_31 dX9_readsBy_29 (fun r3 hk => ?_)
      refine lv_iload hC.1 hC.2.1 dX9_readsBy_32 (lv_at hl 7 rfl) ?_
      refine lv_bipush (v := tw_I (-99)) hC.1 hC.2.1 dX9_readsBy_34 (by decide) ?_
      refine tw_iast hC hR hL ((tw_rgL rfl)) hk dX9_readsBy_36 (fun h4 H locs hR hL hk => ?_)
      refine lv_aload_n hC.1 hC.2.1 dX9_readsBy_37 rfl (lv_at hl 0 rfl) ?_
      refine tw_getR hC hR hk flX9_34 dX9_readsBy_38 (fun r5 hk => ?_)
      refine lv_iload hC.1 hC.2.1 dX9_readsBy_41 (lv_at hl 7 rfl) ?_
      refine lv_iconst (v := tw_I 0) hC.1 hC.2.1 dX9_readsBy_43 rfl ?_
      refine tw_zast hC hR hL hk dX9_readsBy_44 (fun h6 H locs hR hL hk => ?_)
      refine tw_iinc (lv' := [(7, .int (tw_I (tm_wr (x7 + 1)))), (0, .ref this), (1, .int (tw_I a1)), (2, .int (tw_I a2)), (3, .int (tw_I a3)), (4, .int (tw_I x4)), (5, .int (tw_I x5)), (6, .int (tw_I x6))]) hC dX9_readsBy_45 hl (k := 7) rfl (by decide) rfl (fun ls hl => ?_)
      refine lv_goto (tgt := 12) hC.1 hC.2.1 dX9_readsBy_48 (by decide) ?_
      cases hk
      exact ih _ out hf H locs _ gx4 gx5 gx6 ((tm_wr_rg _)) hR hL (lv_sub hl [1, 2, 3, 4, 5, 6, 7, 0] rfl)
    · obtain ⟨r, hk2, hX⟩ := tm_out_some hk
      rw [hX] at hf
      have hr : r = out := Option.some.inj hf
      rw [hr] at hk2
      exact sX9_readsBy_L51 G sz hC this a1 a2 a3 ga1 ga2 ga3 x4 x5 x6 h gx4 gx5 gx6 out hk2 H locs _ hR hL (lv_sub hl [0, 1, 2, 3, 4, 5, 6] rfl)
theorem sX9_readsBy_L12 {l : Launch} {p : Program} {e : Env} {s : State} {m : MethodId} {args : Array Value} {below : List Frame} {meth : Method} {c : Code} (G : tw_G) (sz : Nat) (hC : tw_C G p s m args meth c RX9 cX9_readsBy 10 (some .int)) (this : Nat) (a1 : Int) (a2 : Int) (a3 : Int) (ga1 : tm_rg a1) (ga2 : tm_rg a2) (ga3 : tm_rg a3) (x4 : Int) (x5 : Int) (x6 : Int) (x7 : Int) (h : tm_H) (gx4 : tm_rg x4) (gx5 : tm_rg x5) (gx6 : tm_rg x6) (gx7 : tm_rg x7) (out : Int × tm_H) (hk : fX9_readsBy_L12 this a1 a2 a3 x4 x5 x6 x7 h = some out) (H : Heap) (locs : List Loc) (ls : Array Slot) (hR : tw_Rel G sz h H) (hL : tw_L G locs) (hl : lv_has ls 10 [(0, .ref this), (1, .int (tw_I a1)), (2, .int (tw_I a2)), (3, .int (tw_I a3)), (4, .int (tw_I x4)), (5, .int (tw_I x5)), (6, .int (tw_I x6)), (7, .int (tw_I x7))]) : W p l e rmX9_readsBy s m args below meth c H locs 0 0 (MQ below (tw_Qi G sz out.1 out.2) args s 0 0 (tw_F G)) (F0 m 12 ls []) := by
  obtain ⟨k, hk⟩ := tm_wl_iff.mp hk
  exact sX9_readsBy_S1 G sz hC this a1 a2 a3 ga1 ga2 ga3 k ((x4, x5, x6, x7, h)) out hk H locs ls gx4 gx5 gx6 gx7 hR hL hl
set_option maxRecDepth 100000 in
set_option maxHeartbeats 4000000 in
theorem cX9_readsBy_ok (l : Launch) (G : tw_G) (sz : Nat) (this : Nat) (a1 : Int) (a2 : Int) (a3 : Int) (ga1 : tm_rg a1) (ga2 : tm_rg a2) (ga3 : tm_rg a3) (h : tm_H) (out : Int × tm_H) (hk : fX9_readsBy this a1 a2 a3 h = some out) : Met l yX9_readsBy (tw_WS yX9_readsBy cX9_readsBy 10 (some .int)) rmX9_readsBy (va_Pc [.ref this, .int (tw_I a1), .int (tw_I a2), .int (tw_I a3)] (tw_Pre G sz h)) (tw_Qi G sz out.1 out.2) 0 0 (tw_F G) := by
  refine tw_met (by decide +kernel) (Nat.le_of_ble_eq_true rfl) ?_
  intro p e s m args below meth c H ls hC hnm hR hl
  unfold fX9_readsBy at hk
  obtain ⟨hob, hk⟩ := tm_th_is hk
  have hl : lv_has ls 10 [(0, .ref this), (1, .int (tw_I a1)), (2, .int (tw_I a2)), (3, .int (tw_I a3))] := hl
  have hL : tw_L G [] := fun q z => by cases z
  generalize hlc : ([] : List Loc) = locs at hL ⊢
  refine lv_iconst (v := tw_I 0) hC.1 hC.2.1 dX9_readsBy_0 rfl ?_
  refine lv_istore (lv' := [(4, .int (tw_I 0)), (0, .ref this), (1, .int (tw_I a1)), (2, .int (tw_I a2)), (3, .int (tw_I a3))]) hC.1 hC.2.1 dX9_readsBy_1 hl (by decide) rfl (fun ls hl => ?_)
  refine lv_iconst (v := tw_I 0) hC.1 hC.2.1 dX9_readsBy_3 rfl ?_
  refine lv_istore (lv' := [(5, .int (tw_I 0)), (4, .int (tw_I 0)), (0, .ref this), (1, .int (tw_I a1)), (2, .int (tw_I a2)), (3, .int (tw_I a3))]) hC.1 hC.2.1 dX9_readsBy_4 hl (by decide) rfl (fun ls hl => ?_)
  refine lv_iconst (v := tw_I 0) hC.1 hC.2.1 dX9_readsBy_6 rfl ?_
  refine lv_istore (lv' := [(6, .int (tw_I 0)), (5, .int (tw_I 0)), (4, .int (tw_I 0)), (0, .ref this), (1, .int (tw_I a1)), (2, .int (tw_I a2)), (3, .int (tw_I a3))]) hC.1 hC.2.1 dX9_readsBy_7 hl (by decide) rfl (fun ls hl => ?_)
  refine lv_iconst (v := tw_I 0) hC.1 hC.2.1 dX9_readsBy_9 rfl ?_
  refine lv_istore (lv' := [(7, .int (tw_I 0)), (6, .int (tw_I 0)), (5, .int (tw_I 0)), (4, .int (tw_I 0)), (0, .ref this), (1, .int (tw_I a1)), (2, .int (tw_I a2)), (3, .int (tw_I a3))]) hC.1 hC.2.1 dX9_readsBy_10 hl (by decide) rfl (fun ls hl => ?_)
  exact sX9_readsBy_L12 G sz hC this a1 a2 a3 ga1 ga2 ga3 0 0 0 0 h ((tw_rgL rfl)) ((tw_rgL rfl)) ((tw_rgL rfl)) ((tw_rgL rfl)) out hk H locs _ hR hL (lv_sub hl [4, 5, 6, 7, 3, 2, 1, 0] rfl)
set_option maxRecDepth 100000 in
theorem kX9_readsBy {l : Launch} {p : Program} {e : Env} {R : Room} {s : State} {m : MethodId} {args : Array Value} {below : List Frame} {meth : Method} {c : Code} {H : Heap} {locs : List Loc} {cells slots : Nat} {Q : State → Prop} {cc : ByteArray} {pc nL idx : Nat} {ls : Array Slot} {rest : List Value} {G : tw_G} {h : tm_H} {own : String} {ret : Option FieldType} {α : Type} {x : α} {sz : Nat} {this : Nat} {a1 : Int} {a2 : Int} {a3 : Int} (hC : tw_C G p s m args meth c own cc nL ret) (hR : tw_Rel G sz h H) (hL : tw_L G locs) {F : Int × tm_H → Option α} (hk : (fX9_readsBy this a1 a2 a3 h).bind F = some x) (ga1 : tm_rg a1) (ga2 : tm_rg a2) (ga3 : tm_rg a3) (hl : tw_mL own idx yX9_readsBy) (hRm : rmX9_readsBy.frames + 1 ≤ R.frames ∧ 8 + (10 + 11) + rmX9_readsBy.locals ≤ R.locals) (hsz : ls.size = nL) (hW : (rest.map fun v => v.category).sum ≤ 8) (hf : cells + 0 ≤ R.cells ∧ slots + 0 ≤ R.slots) (hdg : decode cc pc = .ok (.invokevirtual idx, 3)) (kk : ∀ (r : Int) (h1 : tm_H) (H1 : Heap) (locs1 : List Loc), tw_Rel G sz h1 H1 → tw_L G locs1 → tm_rg r → F (r, h1) = some x → W p l e R s m args below meth c H1 locs1 (cells + 0) (slots + 0) Q (F0 m (pc + 3) ls (.int (tw_I r) :: rest))) : W p l e R s m args below meth c H locs cells slots Q (F0 m pc ls (.int (tw_I a3) :: .int (tw_I a2) :: .int (tw_I a1) :: .ref this :: rest)) := by
  obtain ⟨r, hr, hF⟩ := Option.bind_eq_some_iff.mp hk
  have ob : ∀ r, fX9_readsBy this a1 a2 a3 h = some r → tm_is h 9 this := fun r hr => by
    unfold fX9_readsBy at hr
    exact (tm_th_is hr).1
  exact tw_backi (tw_runV hC hR (cX9_readsBy_ok l G sz this a1 a2 a3 ga1 ga2 ga3 h r hr) (n := 3) (As := [.int (tw_I a1), .int (tw_I a2), .int (tw_I a3)]) ⟨tw_in_TB 887 (by decide +kernel) rfl, tw_in_TB 62 (by decide +kernel) rfl, by decide +kernel⟩ (tw_in_TB 886 (by decide +kernel) rfl) (tw_in_TB 20 (by decide +kernel) rfl) hl ⟨rfl, rfl⟩ hRm (ob r hr) (T := TX9) (N := 15) rfl rfl hsz rfl hW hdg hf) hL (fun H1 locs1 a b g => kk r.1 r.2 H1 locs1 a b g hF)
def rmX9_allMarks : Room := { frames := 5, cells := 0, slots := 0, locals := 124 }
set_option maxRecDepth 100000 in
set_option maxHeartbeats 4000000 in
theorem sX9_allMarks_S0 {l : Launch} {p : Program} {e : Env} {s : State} {m : MethodId} {args : Array Value} {below : List Frame} {meth : Method} {c : Code} (G : tw_G) (sz : Nat) (hC : tw_C G p s m args meth c RX9 cX9_allMarks 4 (some .int)) (this : Nat) (a1 : Int) (ga1 : tm_rg a1) : ∀ (k : Nat) (st : (Int × Int × tm_H)) (out : Int × tm_H), tm_wit (fX9_allMarks_S0 this a1) k st = some out → match st with
    | (x2, x3, h) => ∀ (H : Heap) (locs : List Loc) (ls : Array Slot), tm_rg x2 → tm_rg x3 → tw_Rel G sz h H → tw_L G locs → lv_has ls 4 [(0, .ref this), (1, .int (tw_I a1)), (2, .int (tw_I x2)), (3, .int (tw_I x3))] → W p l e rmX9_allMarks s m args below meth c H locs 0 0 (MQ below (tw_Qi G sz out.1 out.2) args s 0 0 (tw_F G)) (F0 m 4 ls []) := by
  intro k
  induction k with
  | zero =>
    intro st out hk
    exact absurd hk (by unfold tm_wit; exact fun z => by cases z)
  | succ k ih =>
    intro st out hk
    obtain ⟨X, hk, hf⟩ := tm_wit_succ hk
    obtain ⟨x2, x3, h⟩ := st
    intro H locs ls gx2 gx3 hR hL hl
    dsimp only [fX9_allMarks_S0] at hk
    refine lv_iload_n hC.1 hC.2.1 dX9_allMarks_4 rfl (lv_at hl 3 rfl) ?_
    refine lv_bipush (v := tw_I 6) hC.1 hC.2.1 dX9_allMarks_5 (by decide) ?_
    refine tw_cge (tgt := 26) hC hk gx3 ((tw_rgL rfl)) dX9_allMarks_7 (by decide) (fun _ hk => ?_) (fun _ hk => ?_)
    · refine lv_iload_n hC.1 hC.2.1 dX9_allMarks_10 rfl (lv_at hl 2 rfl) ?_
      refine lv_aload_n hC.1 hC.2.1 dX9_allMarks_11 rfl (lv_at hl 0 rfl) ?_
      refine lv_iload_n hC.1 hC.2.1 dX9_allMarks_12 rfl (lv_at hl 3 rfl) ?_
      refine lv_iload_n hC.1 hC.2.1 dX9_allMarks_13 rfl (lv_at hl 1 rfl) ?_
      refine lv_iconst (v := tw_I 0) hC.1 hC.2.1 dX9_allMarks_14 rfl ?_
      refine kX9_readsBy hC hR hL hk gx3 ga1 ((tw_rgL rfl)) mlX9_118 ⟨by decide, by decide⟩ hl.1 (Nat.le_of_ble_eq_true rfl) ⟨Nat.zero_le _, Nat.zero_le _⟩ dX9_allMarks_15 (fun v1 h1 H locs hR hL gv1 hk => ?_)
      refine tw_iadd hC dX9_allMarks_18 ?_
      refine lv_istore_n (lv' := [(2, .int (tw_I (tm_wr (x2 + v1)))), (0, .ref this), (1, .int (tw_I a1)), (3, .int (tw_I x3))]) hC.1 hC.2.1 dX9_allMarks_19 rfl hl (by decide) rfl (fun ls hl => ?_)
      refine tw_iinc (lv' := [(3, .int (tw_I (tm_wr (x3 + 1)))), (2, .int (tw_I (tm_wr (x2 + v1)))), (0, .ref this), (1, .int (tw_I a1))]) hC dX9_allMarks_20 hl (k := 3) rfl (by decide) rfl (fun ls hl => ?_)
      refine lv_goto (tgt := 4) hC.1 hC.2.1 dX9_allMarks_23 (by decide) ?_
      cases hk
      exact ih _ out hf H locs _ ((tm_wr_rg _)) ((tm_wr_rg _)) hR hL (lv_sub hl [2, 3, 1, 0] rfl)
    · refine lv_iload_n hC.1 hC.2.1 dX9_allMarks_26 rfl (lv_at hl 2 rfl) ?_
      cases hk
      cases hf
      exact tw_iret hC hR hL gx2 rfl rfl dX9_allMarks_27
theorem sX9_allMarks_L4 {l : Launch} {p : Program} {e : Env} {s : State} {m : MethodId} {args : Array Value} {below : List Frame} {meth : Method} {c : Code} (G : tw_G) (sz : Nat) (hC : tw_C G p s m args meth c RX9 cX9_allMarks 4 (some .int)) (this : Nat) (a1 : Int) (ga1 : tm_rg a1) (x2 : Int) (x3 : Int) (h : tm_H) (gx2 : tm_rg x2) (gx3 : tm_rg x3) (out : Int × tm_H) (hk : fX9_allMarks_L4 this a1 x2 x3 h = some out) (H : Heap) (locs : List Loc) (ls : Array Slot) (hR : tw_Rel G sz h H) (hL : tw_L G locs) (hl : lv_has ls 4 [(0, .ref this), (1, .int (tw_I a1)), (2, .int (tw_I x2)), (3, .int (tw_I x3))]) : W p l e rmX9_allMarks s m args below meth c H locs 0 0 (MQ below (tw_Qi G sz out.1 out.2) args s 0 0 (tw_F G)) (F0 m 4 ls []) := by
  obtain ⟨k, hk⟩ := tm_wl_iff.mp hk
  exact sX9_allMarks_S0 G sz hC this a1 ga1 k ((x2, x3, h)) out hk H locs ls gx2 gx3 hR hL hl
set_option maxRecDepth 100000 in
set_option maxHeartbeats 4000000 in
theorem cX9_allMarks_ok (l : Launch) (G : tw_G) (sz : Nat) (this : Nat) (a1 : Int) (ga1 : tm_rg a1) (h : tm_H) (out : Int × tm_H) (hk : fX9_allMarks this a1 h = some out) : Met l yX9_allMarks (tw_WS yX9_allMarks cX9_allMarks 4 (some .int)) rmX9_allMarks (va_Pc [.ref this, .int (tw_I a1)] (tw_Pre G sz h)) (tw_Qi G sz out.1 out.2) 0 0 (tw_F G) := by
  refine tw_met (by decide +kernel) (Nat.le_of_ble_eq_true rfl) ?_
  intro p e s m args below meth c H ls hC hnm hR hl
  unfold fX9_allMarks at hk
  obtain ⟨hob, hk⟩ := tm_th_is hk
  have hl : lv_has ls 4 [(0, .ref this), (1, .int (tw_I a1))] := hl
  have hL : tw_L G [] := fun q z => by cases z
  generalize hlc : ([] : List Loc) = locs at hL ⊢
  refine lv_iconst (v := tw_I 0) hC.1 hC.2.1 dX9_allMarks_0 rfl ?_
  refine lv_istore_n (lv' := [(2, .int (tw_I 0)), (0, .ref this), (1, .int (tw_I a1))]) hC.1 hC.2.1 dX9_allMarks_1 rfl hl (by decide) rfl (fun ls hl => ?_)
  refine lv_iconst (v := tw_I 0) hC.1 hC.2.1 dX9_allMarks_2 rfl ?_
  refine lv_istore_n (lv' := [(3, .int (tw_I 0)), (2, .int (tw_I 0)), (0, .ref this), (1, .int (tw_I a1))]) hC.1 hC.2.1 dX9_allMarks_3 rfl hl (by decide) rfl (fun ls hl => ?_)
  exact sX9_allMarks_L4 G sz hC this a1 ga1 0 0 h ((tw_rgL rfl)) ((tw_rgL rfl)) out hk H locs _ hR hL (lv_sub hl [2, 3, 1, 0] rfl)
set_option maxRecDepth 100000 in
theorem kX9_allMarks {l : Launch} {p : Program} {e : Env} {R : Room} {s : State} {m : MethodId} {args : Array Value} {below : List Frame} {meth : Method} {c : Code} {H : Heap} {locs : List Loc} {cells slots : Nat} {Q : State → Prop} {cc : ByteArray} {pc nL idx : Nat} {ls : Array Slot} {rest : List Value} {G : tw_G} {h : tm_H} {own : String} {ret : Option FieldType} {α : Type} {x : α} {sz : Nat} {this : Nat} {a1 : Int} (hC : tw_C G p s m args meth c own cc nL ret) (hR : tw_Rel G sz h H) (hL : tw_L G locs) {F : Int × tm_H → Option α} (hk : (fX9_allMarks this a1 h).bind F = some x) (ga1 : tm_rg a1) (hl : tw_mL own idx yX9_allMarks) (hRm : rmX9_allMarks.frames + 1 ≤ R.frames ∧ 8 + (4 + 11) + rmX9_allMarks.locals ≤ R.locals) (hsz : ls.size = nL) (hW : (rest.map fun v => v.category).sum ≤ 8) (hf : cells + 0 ≤ R.cells ∧ slots + 0 ≤ R.slots) (hdg : decode cc pc = .ok (.invokevirtual idx, 3)) (kk : ∀ (r : Int) (h1 : tm_H) (H1 : Heap) (locs1 : List Loc), tw_Rel G sz h1 H1 → tw_L G locs1 → tm_rg r → F (r, h1) = some x → W p l e R s m args below meth c H1 locs1 (cells + 0) (slots + 0) Q (F0 m (pc + 3) ls (.int (tw_I r) :: rest))) : W p l e R s m args below meth c H locs cells slots Q (F0 m pc ls (.int (tw_I a1) :: .ref this :: rest)) := by
  obtain ⟨r, hr, hF⟩ := Option.bind_eq_some_iff.mp hk
  have ob : ∀ r, fX9_allMarks this a1 h = some r → tm_is h 9 this := fun r hr => by
    unfold fX9_allMarks at hr
    exact (tm_th_is hr).1
  exact tw_backi (tw_runV hC hR (cX9_allMarks_ok l G sz this a1 ga1 h r hr) (n := 1) (As := [.int (tw_I a1)]) ⟨tw_in_TB 883 (by decide +kernel) rfl, tw_in_TB 62 (by decide +kernel) rfl, by decide +kernel⟩ (tw_in_TB 882 (by decide +kernel) rfl) (tw_in_TB 19 (by decide +kernel) rfl) hl ⟨rfl, rfl⟩ hRm (ob r hr) (T := TX9) (N := 15) rfl rfl hsz rfl hW hdg hf) hL (fun H1 locs1 a b g => kk r.1 r.2 H1 locs1 a b g hF)
def rmX9_swap : Room := { frames := 6, cells := 0, slots := 0, locals := 147 }
set_option maxRecDepth 100000 in
set_option maxHeartbeats 4000000 in
theorem sX9_swap_S0 {l : Launch} {p : Program} {e : Env} {s : State} {m : MethodId} {args : Array Value} {below : List Frame} {meth : Method} {c : Code} (G : tw_G) (sz : Nat) (hC : tw_C G p s m args meth c RX9 cX9_swap 5 (some .int)) (this : Nat) (a1 : Int) (a2 : Int) (ga1 : tm_rg a1) (ga2 : tm_rg a2) : ∀ (k : Nat) (st : (Int × tm_H)) (out : Int × tm_H), tm_wit (fX9_swap_S0 this a1 a2) k st = some out → match st with
    | (x3, h) => ∀ (H : Heap) (locs : List Loc) (ls : Array Slot), tm_rg x3 → tw_Rel G sz h H → tw_L G locs → lv_has ls 5 [(0, .ref this), (1, .int (tw_I a1)), (2, .int (tw_I a2)), (3, .int (tw_I x3))] → W p l e rmX9_swap s m args below meth c H locs 0 0 (MQ below (tw_Qi G sz out.1 out.2) args s 0 0 (tw_F G)) (F0 m 26 ls []) := by
  intro k
  induction k with
  | zero =>
    intro st out hk
    exact absurd hk (by unfold tm_wit; exact fun z => by cases z)
  | succ k ih =>
    intro st out hk
    obtain ⟨X, hk, hf⟩ := tm_wit_succ hk
    obtain ⟨x3, h⟩ := st
    intro H locs ls gx3 hR hL hl
    dsimp only [fX9_swap_S0] at hk
    refine lv_iload_n hC.1 hC.2.1 dX9_swap_26 rfl (lv_at hl 3 rfl) ?_
    refine lv_bipush (v := tw_I 41) hC.1 hC.2.1 dX9_swap_27 (by decide) ?_
    refine tw_cge (tgt := 98) hC hk gx3 ((tw_rgL rfl)) dX9_swap_29 (by decide) (fun _ hk => ?_) (fun _ hk => ?_)
    · refine lv_aload_n hC.1 hC.2.1 dX9_swap_32 rfl (lv_at hl 0 rfl) ?_
      refine tw_getR hC hR hk flX9_7 dX9_swap_33 (fun r5 hk => ?_)
      refine lv_bipush (v := tw_I 61) hC.1 hC.2.1 dX9_swap_36 (by decide) ?_
      refine lv_bipush (v := tw_I 41) hC.1 hC.2.1 dX9_swap_38 (by decide) ?_
      refine lv_iload_n hC.1 hC.2.1 dX9_swap_40 rfl (lv_at hl 1 rfl) ?_
      refine tw_imul hC dX9_swap_41 ?_
      refine tw_iadd hC dX9_swap_42 ?_
      refine lv_iload_n hC.1 hC.2.1 dX9_swap_43 rfl (lv_at hl 3 rfl) ?_
      refine tw_iadd hC dX9_swap_44 ?_
      refine tw_iald hC hR hk dX9_swap_45 (fun v6 gv6 hk => ?_)
      refine lv_istore (lv' := [(4, .int (tw_I v6)), (0, .ref this), (1, .int (tw_I a1)), (2, .int (tw_I a2)), (3, .int (tw_I x3))]) hC.1 hC.2.1 dX9_swap_46 hl (by decide) rfl (fun ls hl => ?_)
      refine lv_aload_n hC.1 hC.2.1 dX9_swap_48 rfl (lv_at hl 1 rfl) ?_
      refine tw_getR hC hR hk flX9_7 dX9_swap_49 (fun r7 hk => ?_)
      refine lv_bipush (v := tw_I 61) hC.1 hC.2.1 dX9_swap_52 (by decide) ?_
      refine lv_bipush (v := tw_I 41) hC.1 hC.2.1 dX9_swap_54 (by decide) ?_
      refine lv_iload_n hC.1 hC.2.1 dX9_swap_56 rfl (lv_at hl 2 rfl) ?_
      refine tw_imul hC dX9_swap_57 ?_
      refine tw_iadd hC dX9_swap_58 ?_
      refine lv_iload_n hC.1 hC.2.1 dX9_swap_59 rfl (lv_at hl 4 rfl) ?_
      refine tw_iadd hC dX9_swap_60 ?_
      refine lv_aload_n hC.1 hC.2.1 dX9_swap_61 rfl (lv_at hl 1 rfl) ?_
      refine tw_getR hC hR hk flX9_7 dX9_swap_62 (fun r8 hk => ?_)
      refine lv_bipush (v := tw_I 61) hC.1 hC.2.1 dX9_swap_65 (by decide) ?_
      refine lv_bipush (v := tw_I 41) hC.1 hC.2.1 dX9_swap_67 (by decide) ?_
      refine lv_iload_n hC.1 hC.2.1 dX9_swap_69 rfl (lv_at hl 3 rfl) ?_
      refine tw_imul hC dX9_swap_70 ?_
      refine tw_iadd hC dX9_swap_71 ?_
      refine lv_iload_n hC.1 hC.2.1 dX9_swap_72 rfl (lv_at hl 4 rfl) ?_
      refine tw_iadd hC dX9_swap_73 ?_
      refine tw_iald hC hR hk dX9_swap_74 (fun v9 gv9 hk => ?_)
      refine tw_iast hC hR hL gv9 hk dX9_swap_75 (fun h10 H locs hR hL hk => ?_)
      refine lv_aload_n hC.1 hC.2.1 dX9_swap_76 rfl (lv_at hl 1 rfl) ?_
      refine tw_getR hC hR hk flX9_7 dX9_swap_77 (fun r11 hk => ?_)
      refine lv_bipush (v := tw_I 61) hC.1 hC.2.1 dX9_swap_80 (by decide) ?_
      refine lv_bipush (v := tw_I 41) hC.1 hC.2.1 dX9_swap_82 (by decide) ?_
      refine lv_iload_n hC.1 hC.2.1 dX9_swap_84 rfl (lv_at hl 3 rfl) ?_
      refine tw_imul hC dX9_swap_85 ?_
      refine tw_iadd hC dX9_swap_86 ?_
      refine lv_iload_n hC.1 hC.2.1 dX9_swap_87 rfl (lv_at hl 4 rfl) ?_
      refine tw_iadd hC dX9_swap_88 ?_
      refine lv_iload hC.1 hC.2.1 dX9_swap_89 (lv_at hl 0 rfl) ?_
      refine tw_iast hC hR hL gv6 hk dX9_swap_91 (fun h12 H locs hR hL hk => ?_)
      refine tw_iinc (lv' := [(3, .int (tw_I (tm_wr (x3 + 1)))), (4, .int (tw_I v6)), (0, .ref this), (1, .int (tw_I a1)), (2, .int (tw_I a2))]) hC dX9_swap_92 hl (k := 4) rfl (by decide) rfl (fun ls hl => ?_)
      refine lv_goto (tgt := 26) hC.1 hC.2.1 dX9_swap_95 (by decide) ?_
      cases hk
      exact ih _ out hf H locs _ ((tm_wr_rg _)) hR hL (lv_sub hl [2, 3, 4, 0] rfl)
    · refine lv_aload_n hC.1 hC.2.1 dX9_swap_98 rfl (lv_at hl 0 rfl) ?_
      refine lv_iconst (v := tw_I (-1)) hC.1 hC.2.1 dX9_swap_99 rfl ?_
      refine kX9_allMarks hC hR hL hk ((tw_rgL rfl)) mlX9_68 ⟨by decide, by decide⟩ hl.1 (Nat.le_of_ble_eq_true rfl) ⟨Nat.zero_le _, Nat.zero_le _⟩ dX9_swap_100 (fun v13 h13 H locs hR hL gv13 hk => ?_)
      cases hk
      cases hf
      exact tw_iret hC hR hL gv13 rfl rfl dX9_swap_103
theorem sX9_swap_L26 {l : Launch} {p : Program} {e : Env} {s : State} {m : MethodId} {args : Array Value} {below : List Frame} {meth : Method} {c : Code} (G : tw_G) (sz : Nat) (hC : tw_C G p s m args meth c RX9 cX9_swap 5 (some .int)) (this : Nat) (a1 : Int) (a2 : Int) (ga1 : tm_rg a1) (ga2 : tm_rg a2) (x3 : Int) (h : tm_H) (gx3 : tm_rg x3) (out : Int × tm_H) (hk : fX9_swap_L26 this a1 a2 x3 h = some out) (H : Heap) (locs : List Loc) (ls : Array Slot) (hR : tw_Rel G sz h H) (hL : tw_L G locs) (hl : lv_has ls 5 [(0, .ref this), (1, .int (tw_I a1)), (2, .int (tw_I a2)), (3, .int (tw_I x3))]) : W p l e rmX9_swap s m args below meth c H locs 0 0 (MQ below (tw_Qi G sz out.1 out.2) args s 0 0 (tw_F G)) (F0 m 26 ls []) := by
  obtain ⟨k, hk⟩ := tm_wl_iff.mp hk
  exact sX9_swap_S0 G sz hC this a1 a2 ga1 ga2 k ((x3, h)) out hk H locs ls gx3 hR hL hl
set_option maxRecDepth 100000 in
set_option maxHeartbeats 4000000 in
theorem cX9_swap_ok (l : Launch) (G : tw_G) (sz : Nat) (this : Nat) (a1 : Int) (a2 : Int) (ga1 : tm_rg a1) (ga2 : tm_rg a2) (h : tm_H) (out : Int × tm_H) (hk : fX9_swap this a1 a2 h = some out) : Met l yX9_swap (tw_WS yX9_swap cX9_swap 5 (some .int)) rmX9_swap (va_Pc [.ref this, .int (tw_I a1), .int (tw_I a2)] (tw_Pre G sz h)) (tw_Qi G sz out.1 out.2) 0 0 (tw_F G) := by
  refine tw_met (by decide +kernel) (Nat.le_of_ble_eq_true rfl) ?_
  intro p e s m args below meth c H ls hC hnm hR hl
  unfold fX9_swap at hk
  obtain ⟨hob, hk⟩ := tm_th_is hk
  have hl : lv_has ls 5 [(0, .ref this), (1, .int (tw_I a1)), (2, .int (tw_I a2))] := hl
  have hL : tw_L G [] := fun q z => by cases z
  generalize hlc : ([] : List Loc) = locs at hL ⊢
  refine lv_iload_n hC.1 hC.2.1 dX9_swap_0 rfl (lv_at hl 1 rfl) ?_
  refine kX9_isChapter hC hR hL hk ga1 mlX9_53 ⟨by decide, by decide⟩ hl.1 (Nat.le_of_ble_eq_true rfl) ⟨Nat.zero_le _, Nat.zero_le _⟩ dX9_swap_1 (fun v1 H locs hR hL gv1 hk => ?_)
  refine tw_zeq (tgt := 14) hC hk gv1 dX9_swap_4 (by decide) (fun _ hk => ?_) (fun _ hk => ?_)
  · refine lv_iconst (v := tw_I (-1)) hC.1 hC.2.1 dX9_swap_14 rfl ?_
    cases hk
    exact tw_iret hC hR hL ((tw_rgL rfl)) rfl rfl dX9_swap_15
  · refine lv_iload_n hC.1 hC.2.1 dX9_swap_7 rfl (lv_at hl 2 rfl) ?_
    refine kX9_isChapter hC hR hL hk ga2 mlX9_53 ⟨by decide, by decide⟩ hl.1 (Nat.le_of_ble_eq_true rfl) ⟨Nat.zero_le _, Nat.zero_le _⟩ dX9_swap_8 (fun v2 H locs hR hL gv2 hk => ?_)
    refine tw_zne (tgt := 16) hC hk gv2 dX9_swap_11 (by decide) (fun _ hk => ?_) (fun _ hk => ?_)
    · refine lv_iconst (v := tw_I (-1)) hC.1 hC.2.1 dX9_swap_14 rfl ?_
      cases hk
      exact tw_iret hC hR hL ((tw_rgL rfl)) rfl rfl dX9_swap_15
    · refine lv_aload_n hC.1 hC.2.1 dX9_swap_16 rfl (lv_at hl 0 rfl) ?_
      refine lv_aload_n hC.1 hC.2.1 dX9_swap_17 rfl (lv_at hl 0 rfl) ?_
      refine tw_getR hC hR hk flX9_7 dX9_swap_18 (fun r3 hk => ?_)
      refine kX9_saves hC hR hL hk mlX9_64 ⟨by decide, by decide⟩ hl.1 (Nat.le_of_ble_eq_true rfl) ⟨Nat.zero_le _, Nat.zero_le _⟩ dX9_swap_21 (fun h4 H locs hR hL hk => ?_)
      refine lv_iconst (v := tw_I 0) hC.1 hC.2.1 dX9_swap_24 rfl ?_
      refine lv_istore_n (lv' := [(3, .int (tw_I 0)), (0, .ref this), (1, .int (tw_I a1)), (2, .int (tw_I a2))]) hC.1 hC.2.1 dX9_swap_25 rfl hl (by decide) rfl (fun ls hl => ?_)
      exact sX9_swap_L26 G sz hC this a1 a2 ga1 ga2 0 h4 ((tw_rgL rfl)) out hk H locs _ hR hL (lv_sub hl [1, 2, 3, 0] rfl)
set_option maxRecDepth 100000 in
theorem kX9_swap {l : Launch} {p : Program} {e : Env} {R : Room} {s : State} {m : MethodId} {args : Array Value} {below : List Frame} {meth : Method} {c : Code} {H : Heap} {locs : List Loc} {cells slots : Nat} {Q : State → Prop} {cc : ByteArray} {pc nL idx : Nat} {ls : Array Slot} {rest : List Value} {G : tw_G} {h : tm_H} {own : String} {ret : Option FieldType} {α : Type} {x : α} {sz : Nat} {this : Nat} {a1 : Int} {a2 : Int} (hC : tw_C G p s m args meth c own cc nL ret) (hR : tw_Rel G sz h H) (hL : tw_L G locs) {F : Int × tm_H → Option α} (hk : (fX9_swap this a1 a2 h).bind F = some x) (ga1 : tm_rg a1) (ga2 : tm_rg a2) (hl : tw_mL own idx yX9_swap) (hRm : rmX9_swap.frames + 1 ≤ R.frames ∧ 8 + (5 + 11) + rmX9_swap.locals ≤ R.locals) (hsz : ls.size = nL) (hW : (rest.map fun v => v.category).sum ≤ 8) (hf : cells + 0 ≤ R.cells ∧ slots + 0 ≤ R.slots) (hdg : decode cc pc = .ok (.invokevirtual idx, 3)) (kk : ∀ (r : Int) (h1 : tm_H) (H1 : Heap) (locs1 : List Loc), tw_Rel G sz h1 H1 → tw_L G locs1 → tm_rg r → F (r, h1) = some x → W p l e R s m args below meth c H1 locs1 (cells + 0) (slots + 0) Q (F0 m (pc + 3) ls (.int (tw_I r) :: rest))) : W p l e R s m args below meth c H locs cells slots Q (F0 m pc ls (.int (tw_I a2) :: .int (tw_I a1) :: .ref this :: rest)) := by
  obtain ⟨r, hr, hF⟩ := Option.bind_eq_some_iff.mp hk
  have ob : ∀ r, fX9_swap this a1 a2 h = some r → tm_is h 9 this := fun r hr => by
    unfold fX9_swap at hr
    exact (tm_th_is hr).1
  exact tw_backi (tw_runV hC hR (cX9_swap_ok l G sz this a1 a2 ga1 ga2 h r hr) (n := 2) (As := [.int (tw_I a1), .int (tw_I a2)]) ⟨tw_in_TB 879 (by decide +kernel) rfl, tw_in_TB 62 (by decide +kernel) rfl, by decide +kernel⟩ (tw_in_TB 877 (by decide +kernel) rfl) (tw_in_TB 878 (by decide +kernel) rfl) hl ⟨rfl, rfl⟩ hRm (ob r hr) (T := TX9) (N := 15) rfl rfl hsz rfl hW hdg hf) hL (fun H1 locs1 a b g => kk r.1 r.2 H1 locs1 a b g hF)
def rmX9_isTerm : Room := { frames := 1, cells := 0, slots := 0, locals := 22 }
set_option maxRecDepth 100000 in
set_option maxHeartbeats 4000000 in
theorem cX9_isTerm_ok (l : Launch) (G : tw_G) (sz : Nat) (this : Nat) (a1 : Int) (ga1 : tm_rg a1) (h : tm_H) (out : Int) (hk : fX9_isTerm this a1 h = some out) : Met l yX9_isTerm (tw_WS yX9_isTerm cX9_isTerm 2 (some .boolean)) rmX9_isTerm (va_Pc [.ref this, .int (tw_I a1)] (tw_Pre G sz h)) (tw_Qi G sz out h) 0 0 (tw_F G) := by
  refine tw_met (by decide +kernel) (Nat.le_of_ble_eq_true rfl) ?_
  intro p e s m args below meth c H ls hC hnm hR hl
  unfold fX9_isTerm at hk
  obtain ⟨hob, hk⟩ := tm_th_is hk
  have hl : lv_has ls 2 [(0, .ref this), (1, .int (tw_I a1))] := hl
  have hL : tw_L G [] := fun q z => by cases z
  generalize hlc : ([] : List Loc) = locs at hL ⊢
  refine lv_iload_n hC.1 hC.2.1 dX9_isTerm_0 rfl (lv_at hl 1 rfl) ?_
  refine lv_iconst (v := tw_I 0) hC.1 hC.2.1 dX9_isTerm_1 rfl ?_
  refine lv_aload_n hC.1 hC.2.1 dX9_isTerm_2 rfl (lv_at hl 0 rfl) ?_
  refine tw_getR hC hR hk flX9_7 dX9_isTerm_3 (fun r1 hk => ?_)
  refine lv_sipush (v := tw_I 307) hC.1 hC.2.1 dX9_isTerm_6 (by decide) ?_
  refine tw_iald hC hR hk dX9_isTerm_9 (fun v2 gv2 hk => ?_)
  refine lv_iconst (v := tw_I 1) hC.1 hC.2.1 dX9_isTerm_10 rfl ?_
  refine tw_isub hC dX9_isTerm_11 ?_
  refine kX9_in hC hR hL hk ga1 ((tw_rgL rfl)) ((tm_wr_rg _)) mlX9_45 ⟨by decide, by decide⟩ hl.1 (Nat.le_of_ble_eq_true rfl) ⟨Nat.zero_le _, Nat.zero_le _⟩ dX9_isTerm_12 (fun v3 H locs hR hL gv3 hk => ?_)
  obtain ⟨z, hz, hk⟩ := Option.bind_eq_some_iff.mp hk
  cases hk
  exact tw_zret hC hR hL hz rfl dX9_isTerm_15
set_option maxRecDepth 100000 in
theorem kX9_isTerm {l : Launch} {p : Program} {e : Env} {R : Room} {s : State} {m : MethodId} {args : Array Value} {below : List Frame} {meth : Method} {c : Code} {H : Heap} {locs : List Loc} {cells slots : Nat} {Q : State → Prop} {cc : ByteArray} {pc nL idx : Nat} {ls : Array Slot} {rest : List Value} {G : tw_G} {h : tm_H} {own : String} {ret : Option FieldType} {α : Type} {x : α} {sz : Nat} {this : Nat} {a1 : Int} (hC : tw_C G p s m args meth c own cc nL ret) (hR : tw_Rel G sz h H) (hL : tw_L G locs) {F : Int → Option α} (hk : (fX9_isTerm this a1 h).bind F = some x) (ga1 : tm_rg a1) (hl : tw_mL own idx yX9_isTerm) (hRm : rmX9_isTerm.frames + 1 ≤ R.frames ∧ 8 + (2 + 11) + rmX9_isTerm.locals ≤ R.locals) (hsz : ls.size = nL) (hW : (rest.map fun v => v.category).sum ≤ 8) (hf : cells + 0 ≤ R.cells ∧ slots + 0 ≤ R.slots) (hdg : decode cc pc = .ok (.invokevirtual idx, 3)) (kk : ∀ (r : Int) (H1 : Heap) (locs1 : List Loc), tw_Rel G sz h H1 → tw_L G locs1 → tm_rg r → F r = some x → W p l e R s m args below meth c H1 locs1 (cells + 0) (slots + 0) Q (F0 m (pc + 3) ls (.int (tw_I r) :: rest))) : W p l e R s m args below meth c H locs cells slots Q (F0 m pc ls (.int (tw_I a1) :: .ref this :: rest)) := by
  obtain ⟨r, hr, hF⟩ := Option.bind_eq_some_iff.mp hk
  have ob : ∀ r, fX9_isTerm this a1 h = some r → tm_is h 9 this := fun r hr => by
    unfold fX9_isTerm at hr
    exact (tm_th_is hr).1
  exact tw_backi (tw_runV hC hR (cX9_isTerm_ok l G sz this a1 ga1 h r hr) (n := 1) (As := [.int (tw_I a1)]) ⟨tw_in_TB 935 (by decide +kernel) rfl, tw_in_TB 62 (by decide +kernel) rfl, by decide +kernel⟩ (tw_in_TB 934 (by decide +kernel) rfl) (tw_in_TB 30 (by decide +kernel) rfl) hl ⟨rfl, rfl⟩ hRm (ob r hr) (T := TX9) (N := 15) rfl rfl hsz rfl hW hdg hf) hL (fun H1 locs1 a b g => kk r H1 locs1 a b g hF)
def rmX9_areAlike : Room := { frames := 1, cells := 0, slots := 0, locals := 22 }
set_option maxRecDepth 100000 in
set_option maxHeartbeats 4000000 in
theorem sX9_areAlike_S0 {l : Launch} {p : Program} {e : Env} {s : State} {m : MethodId} {args : Array Value} {below : List Frame} {meth : Method} {c : Code} (G : tw_G) (sz : Nat) (hC : tw_C G p s m args meth c RX9 cX9_areAlike 5 (some .boolean)) (this : Nat) (a1 : Int) (a2 : Int) (ga1 : tm_rg a1) (ga2 : tm_rg a2) (h : tm_H) : ∀ (k : Nat) (st : (Int × Int) ⊕ (Int × Int)) (out : Int), tm_wit (fX9_areAlike_S0 this a1 a2 h) k st = some out → match st with
    | .inl ((x3, x4)) => ∀ (H : Heap) (locs : List Loc) (ls : Array Slot), tm_rg x3 → tm_rg x4 → tw_Rel G sz h H → tw_L G locs → lv_has ls 5 [(0, .ref this), (1, .int (tw_I a1)), (2, .int (tw_I a2)), (3, .int (tw_I x3)), (4, .int (tw_I x4))] → W p l e rmX9_areAlike s m args below meth c H locs 0 0 (MQ below (tw_Qi G sz out h) args s 0 0 (tw_F G)) (F0 m 24 ls [])
    | .inr ((x4, s0)) => ∀ (H : Heap) (locs : List Loc) (ls : Array Slot), tm_rg x4 → tm_rg s0 → tw_Rel G sz h H → tw_L G locs → lv_has ls 5 [(0, .ref this), (1, .int (tw_I a1)), (2, .int (tw_I a2)), (4, .int (tw_I x4))] → W p l e rmX9_areAlike s m args below meth c H locs 0 0 (MQ below (tw_Qi G sz out h) args s 0 0 (tw_F G)) (F0 m 75 ls [.int (tw_I s0)]) := by
  intro k
  induction k with
  | zero =>
    intro st out hk
    exact absurd hk (by unfold tm_wit; exact fun z => by cases z)
  | succ k ih =>
    intro st out hk
    obtain ⟨X, hk, hf⟩ := tm_wit_succ hk
    obtain ⟨x3, x4⟩ | ⟨x4, s0⟩ := st
    · intro H locs ls gx3 gx4 hR hL hl
      dsimp only [fX9_areAlike_S0] at hk
      refine lv_iload hC.1 hC.2.1 dX9_areAlike_24 (lv_at hl 4 rfl) ?_
      refine lv_aload_n hC.1 hC.2.1 dX9_areAlike_26 rfl (lv_at hl 0 rfl) ?_
      refine lv_iload_n hC.1 hC.2.1 dX9_areAlike_27 rfl (lv_at hl 1 rfl) ?_
      refine lv_iconst (v := tw_I 0) hC.1 hC.2.1 dX9_areAlike_28 rfl ?_
      refine kX9_ofTerm hC hR hL hk ga1 ((tw_rgL rfl)) mlX9_71 ⟨by decide, by decide⟩ hl.1 (Nat.le_of_ble_eq_true rfl) ⟨Nat.zero_le _, Nat.zero_le _⟩ dX9_areAlike_29 (fun v3 H locs hR hL gv3 hk => ?_)
      refine tw_cgt (tgt := 82) hC hk gx4 gv3 dX9_areAlike_32 (by decide) (fun _ hk => ?_) (fun _ hk => ?_)
      · refine lv_iload_n hC.1 hC.2.1 dX9_areAlike_82 rfl (lv_at hl 3 rfl) ?_
        obtain ⟨z, hz, hk⟩ := Option.bind_eq_some_iff.mp hk
        cases hk
        cases hf
        exact tw_zret hC hR hL hz rfl dX9_areAlike_83
      · refine lv_iload_n hC.1 hC.2.1 dX9_areAlike_35 rfl (lv_at hl 3 rfl) ?_
        refine tw_zeq (tgt := 82) hC hk gx3 dX9_areAlike_36 (by decide) (fun _ hk => ?_) (fun _ hk => ?_)
        · refine lv_iload_n hC.1 hC.2.1 dX9_areAlike_82 rfl (lv_at hl 3 rfl) ?_
          obtain ⟨z, hz, hk⟩ := Option.bind_eq_some_iff.mp hk
          cases hk
          cases hf
          exact tw_zret hC hR hL hz rfl dX9_areAlike_83
        · refine lv_aload_n hC.1 hC.2.1 dX9_areAlike_39 rfl (lv_at hl 0 rfl) ?_
          refine tw_getR hC hR hk flX9_7 dX9_areAlike_40 (fun r4 hk => ?_)
          refine lv_iconst (v := tw_I 1) hC.1 hC.2.1 dX9_areAlike_43 rfl ?_
          refine lv_aload_n hC.1 hC.2.1 dX9_areAlike_44 rfl (lv_at hl 0 rfl) ?_
          refine lv_iload_n hC.1 hC.2.1 dX9_areAlike_45 rfl (lv_at hl 1 rfl) ?_
          refine lv_iload hC.1 hC.2.1 dX9_areAlike_46 (lv_at hl 4 rfl) ?_
          refine kX9_ofTerm hC hR hL hk ga1 gx4 mlX9_71 ⟨by decide, by decide⟩ hl.1 (Nat.le_of_ble_eq_true rfl) ⟨Nat.zero_le _, Nat.zero_le _⟩ dX9_areAlike_48 (fun v5 H locs hR hL gv5 hk => ?_)
          refine tw_iadd hC dX9_areAlike_51 ?_
          refine tw_iald hC hR hk dX9_areAlike_52 (fun v6 gv6 hk => ?_)
          refine lv_aload_n hC.1 hC.2.1 dX9_areAlike_53 rfl (lv_at hl 0 rfl) ?_
          refine tw_getR hC hR hk flX9_7 dX9_areAlike_54 (fun r7 hk => ?_)
          refine lv_iconst (v := tw_I 1) hC.1 hC.2.1 dX9_areAlike_57 rfl ?_
          refine lv_aload_n hC.1 hC.2.1 dX9_areAlike_58 rfl (lv_at hl 0 rfl) ?_
          refine lv_iload_n hC.1 hC.2.1 dX9_areAlike_59 rfl (lv_at hl 2 rfl) ?_
          refine lv_iload hC.1 hC.2.1 dX9_areAlike_60 (lv_at hl 4 rfl) ?_
          refine kX9_ofTerm hC hR hL hk ga2 gx4 mlX9_71 ⟨by decide, by decide⟩ hl.1 (Nat.le_of_ble_eq_true rfl) ⟨Nat.zero_le _, Nat.zero_le _⟩ dX9_areAlike_62 (fun v8 H locs hR hL gv8 hk => ?_)
          refine tw_iadd hC dX9_areAlike_65 ?_
          refine tw_iald hC hR hk dX9_areAlike_66 (fun v9 gv9 hk => ?_)
          refine tw_cne (tgt := 74) hC hk gv6 gv9 dX9_areAlike_67 (by decide) (fun _ hk => ?_) (fun _ hk => ?_)
          · refine lv_iconst (v := tw_I 1) hC.1 hC.2.1 dX9_areAlike_70 rfl ?_
            refine lv_goto (tgt := 75) hC.1 hC.2.1 dX9_areAlike_71 (by decide) ?_
            cases hk
            exact ih _ out hf H locs _ gx4 ((tw_rgL rfl)) hR hL (lv_sub hl [0, 1, 2, 4] rfl)
          · refine lv_iconst (v := tw_I 0) hC.1 hC.2.1 dX9_areAlike_74 rfl ?_
            cases hk
            exact ih _ out hf H locs _ gx4 ((tw_rgL rfl)) hR hL (lv_sub hl [0, 1, 2, 4] rfl)
    · intro H locs ls gx4 gs0 hR hL hl
      dsimp only [fX9_areAlike_S0] at hk
      refine lv_istore_n (lv' := [(3, .int (tw_I s0)), (0, .ref this), (1, .int (tw_I a1)), (2, .int (tw_I a2)), (4, .int (tw_I x4))]) hC.1 hC.2.1 dX9_areAlike_75 rfl hl (by decide) rfl (fun ls hl => ?_)
      refine tw_iinc (lv' := [(4, .int (tw_I (tm_wr (x4 + 1)))), (3, .int (tw_I s0)), (0, .ref this), (1, .int (tw_I a1)), (2, .int (tw_I a2))]) hC dX9_areAlike_76 hl (k := 4) rfl (by decide) rfl (fun ls hl => ?_)
      refine lv_goto (tgt := 24) hC.1 hC.2.1 dX9_areAlike_79 (by decide) ?_
      cases hk
      exact ih _ out hf H locs _ gs0 ((tm_wr_rg _)) hR hL (lv_sub hl [2, 3, 4, 1, 0] rfl)
theorem sX9_areAlike_L24 {l : Launch} {p : Program} {e : Env} {s : State} {m : MethodId} {args : Array Value} {below : List Frame} {meth : Method} {c : Code} (G : tw_G) (sz : Nat) (hC : tw_C G p s m args meth c RX9 cX9_areAlike 5 (some .boolean)) (this : Nat) (a1 : Int) (a2 : Int) (ga1 : tm_rg a1) (ga2 : tm_rg a2) (h : tm_H) (x3 : Int) (x4 : Int) (gx3 : tm_rg x3) (gx4 : tm_rg x4) (out : Int) (hk : fX9_areAlike_L24 this a1 a2 h x3 x4 = some out) (H : Heap) (locs : List Loc) (ls : Array Slot) (hR : tw_Rel G sz h H) (hL : tw_L G locs) (hl : lv_has ls 5 [(0, .ref this), (1, .int (tw_I a1)), (2, .int (tw_I a2)), (3, .int (tw_I x3)), (4, .int (tw_I x4))]) : W p l e rmX9_areAlike s m args below meth c H locs 0 0 (MQ below (tw_Qi G sz out h) args s 0 0 (tw_F G)) (F0 m 24 ls []) := by
  obtain ⟨k, hk⟩ := tm_wl_iff.mp hk
  exact sX9_areAlike_S0 G sz hC this a1 a2 ga1 ga2 h k (.inl ((x3, x4))) out hk H locs ls gx3 gx4 hR hL hl
theorem sX9_areAlike_L75 {l : Launch} {p : Program} {e : Env} {s : State} {m : MethodId} {args : Array Value} {below : List Frame} {meth : Method} {c : Code} (G : tw_G) (sz : Nat) (hC : tw_C G p s m args meth c RX9 cX9_areAlike 5 (some .boolean)) (this : Nat) (a1 : Int) (a2 : Int) (ga1 : tm_rg a1) (ga2 : tm_rg a2) (h : tm_H) (x4 : Int) (s0 : Int) (gx4 : tm_rg x4) (gs0 : tm_rg s0) (out : Int) (hk : fX9_areAlike_L75 this a1 a2 h x4 s0 = some out) (H : Heap) (locs : List Loc) (ls : Array Slot) (hR : tw_Rel G sz h H) (hL : tw_L G locs) (hl : lv_has ls 5 [(0, .ref this), (1, .int (tw_I a1)), (2, .int (tw_I a2)), (4, .int (tw_I x4))]) : W p l e rmX9_areAlike s m args below meth c H locs 0 0 (MQ below (tw_Qi G sz out h) args s 0 0 (tw_F G)) (F0 m 75 ls [.int (tw_I s0)]) := by
  obtain ⟨k, hk⟩ := tm_wl_iff.mp hk
  exact sX9_areAlike_S0 G sz hC this a1 a2 ga1 ga2 h k (.inr ((x4, s0))) out hk H locs ls gx4 gs0 hR hL hl
set_option maxRecDepth 100000 in
set_option maxHeartbeats 4000000 in
theorem sX9_areAlike_L20 {l : Launch} {p : Program} {e : Env} {s : State} {m : MethodId} {args : Array Value} {below : List Frame} {meth : Method} {c : Code} (G : tw_G) (sz : Nat) (hC : tw_C G p s m args meth c RX9 cX9_areAlike 5 (some .boolean)) (this : Nat) (a1 : Int) (a2 : Int) (ga1 : tm_rg a1) (ga2 : tm_rg a2) (h : tm_H) (s0 : Int) (gs0 : tm_rg s0) (out : Int) (hk : fX9_areAlike_L20 this a1 a2 h s0 = some out) (H : Heap) (locs : List Loc) (ls : Array Slot) (hR : tw_Rel G sz h H) (hL : tw_L G locs) (hl : lv_has ls 5 [(0, .ref this), (1, .int (tw_I a1)), (2, .int (tw_I a2))]) : W p l e rmX9_areAlike s m args below meth c H locs 0 0 (MQ below (tw_Qi G sz out h) args s 0 0 (tw_F G)) (F0 m 20 ls [.int (tw_I s0)]) := by
  unfold fX9_areAlike_L20 at hk
  refine lv_istore_n (lv' := [(3, .int (tw_I s0)), (0, .ref this), (1, .int (tw_I a1)), (2, .int (tw_I a2))]) hC.1 hC.2.1 dX9_areAlike_20 rfl hl (by decide) rfl (fun ls hl => ?_)
  refine lv_iconst (v := tw_I 1) hC.1 hC.2.1 dX9_areAlike_21 rfl ?_
  refine lv_istore (lv' := [(4, .int (tw_I 1)), (3, .int (tw_I s0)), (0, .ref this), (1, .int (tw_I a1)), (2, .int (tw_I a2))]) hC.1 hC.2.1 dX9_areAlike_22 hl (by decide) rfl (fun ls hl => ?_)
  exact sX9_areAlike_L24 G sz hC this a1 a2 ga1 ga2 h s0 1 gs0 ((tw_rgL rfl)) out hk H locs _ hR hL (lv_sub hl [2, 3, 4, 1, 0] rfl)
set_option maxRecDepth 100000 in
set_option maxHeartbeats 4000000 in
theorem cX9_areAlike_ok (l : Launch) (G : tw_G) (sz : Nat) (this : Nat) (a1 : Int) (a2 : Int) (ga1 : tm_rg a1) (ga2 : tm_rg a2) (h : tm_H) (out : Int) (hk : fX9_areAlike this a1 a2 h = some out) : Met l yX9_areAlike (tw_WS yX9_areAlike cX9_areAlike 5 (some .boolean)) rmX9_areAlike (va_Pc [.ref this, .int (tw_I a1), .int (tw_I a2)] (tw_Pre G sz h)) (tw_Qi G sz out h) 0 0 (tw_F G) := by
  refine tw_met (by decide +kernel) (Nat.le_of_ble_eq_true rfl) ?_
  intro p e s m args below meth c H ls hC hnm hR hl
  unfold fX9_areAlike at hk
  obtain ⟨hob, hk⟩ := tm_th_is hk
  have hl : lv_has ls 5 [(0, .ref this), (1, .int (tw_I a1)), (2, .int (tw_I a2))] := hl
  have hL : tw_L G [] := fun q z => by cases z
  generalize hlc : ([] : List Loc) = locs at hL ⊢
  refine lv_aload_n hC.1 hC.2.1 dX9_areAlike_0 rfl (lv_at hl 0 rfl) ?_
  refine lv_iload_n hC.1 hC.2.1 dX9_areAlike_1 rfl (lv_at hl 1 rfl) ?_
  refine lv_iconst (v := tw_I 0) hC.1 hC.2.1 dX9_areAlike_2 rfl ?_
  refine kX9_ofTerm hC hR hL hk ga1 ((tw_rgL rfl)) mlX9_71 ⟨by decide, by decide⟩ hl.1 (Nat.le_of_ble_eq_true rfl) ⟨Nat.zero_le _, Nat.zero_le _⟩ dX9_areAlike_3 (fun v1 H locs hR hL gv1 hk => ?_)
  refine lv_aload_n hC.1 hC.2.1 dX9_areAlike_6 rfl (lv_at hl 0 rfl) ?_
  refine lv_iload_n hC.1 hC.2.1 dX9_areAlike_7 rfl (lv_at hl 2 rfl) ?_
  refine lv_iconst (v := tw_I 0) hC.1 hC.2.1 dX9_areAlike_8 rfl ?_
  refine kX9_ofTerm hC hR hL hk ga2 ((tw_rgL rfl)) mlX9_71 ⟨by decide, by decide⟩ hl.1 (Nat.le_of_ble_eq_true rfl) ⟨Nat.zero_le _, Nat.zero_le _⟩ dX9_areAlike_9 (fun v2 H locs hR hL gv2 hk => ?_)
  refine tw_cne (tgt := 19) hC hk gv1 gv2 dX9_areAlike_12 (by decide) (fun _ hk => ?_) (fun _ hk => ?_)
  · refine lv_iconst (v := tw_I 1) hC.1 hC.2.1 dX9_areAlike_15 rfl ?_
    refine lv_goto (tgt := 20) hC.1 hC.2.1 dX9_areAlike_16 (by decide) ?_
    exact sX9_areAlike_L20 G sz hC this a1 a2 ga1 ga2 h 1 ((tw_rgL rfl)) out hk H locs _ hR hL (lv_sub hl [0, 1, 2] rfl)
  · refine lv_iconst (v := tw_I 0) hC.1 hC.2.1 dX9_areAlike_19 rfl ?_
    exact sX9_areAlike_L20 G sz hC this a1 a2 ga1 ga2 h 0 ((tw_rgL rfl)) out hk H locs _ hR hL (lv_sub hl [0, 1, 2] rfl)
set_option maxRecDepth 100000 in
theorem kX9_areAlike {l : Launch} {p : Program} {e : Env} {R : Room} {s : State} {m : MethodId} {args : Array Value} {below : List Frame} {meth : Method} {c : Code} {H : Heap} {locs : List Loc} {cells slots : Nat} {Q : State → Prop} {cc : ByteArray} {pc nL idx : Nat} {ls : Array Slot} {rest : List Value} {G : tw_G} {h : tm_H} {own : String} {ret : Option FieldType} {α : Type} {x : α} {sz : Nat} {this : Nat} {a1 : Int} {a2 : Int} (hC : tw_C G p s m args meth c own cc nL ret) (hR : tw_Rel G sz h H) (hL : tw_L G locs) {F : Int → Option α} (hk : (fX9_areAlike this a1 a2 h).bind F = some x) (ga1 : tm_rg a1) (ga2 : tm_rg a2) (hl : tw_mL own idx yX9_areAlike) (hRm : rmX9_areAlike.frames + 1 ≤ R.frames ∧ 8 + (5 + 11) + rmX9_areAlike.locals ≤ R.locals) (hsz : ls.size = nL) (hW : (rest.map fun v => v.category).sum ≤ 8) (hf : cells + 0 ≤ R.cells ∧ slots + 0 ≤ R.slots) (hdg : decode cc pc = .ok (.invokevirtual idx, 3)) (kk : ∀ (r : Int) (H1 : Heap) (locs1 : List Loc), tw_Rel G sz h H1 → tw_L G locs1 → tm_rg r → F r = some x → W p l e R s m args below meth c H1 locs1 (cells + 0) (slots + 0) Q (F0 m (pc + 3) ls (.int (tw_I r) :: rest))) : W p l e R s m args below meth c H locs cells slots Q (F0 m pc ls (.int (tw_I a2) :: .int (tw_I a1) :: .ref this :: rest)) := by
  obtain ⟨r, hr, hF⟩ := Option.bind_eq_some_iff.mp hk
  have ob : ∀ r, fX9_areAlike this a1 a2 h = some r → tm_is h 9 this := fun r hr => by
    unfold fX9_areAlike at hr
    exact (tm_th_is hr).1
  exact tw_backi (tw_runV hC hR (cX9_areAlike_ok l G sz this a1 a2 ga1 ga2 h r hr) (n := 2) (As := [.int (tw_I a1), .int (tw_I a2)]) ⟨tw_in_TB 923 (by decide +kernel) rfl, tw_in_TB 62 (by decide +kernel) rfl, by decide +kernel⟩ (tw_in_TB 922 (by decide +kernel) rfl) (tw_in_TB 28 (by decide +kernel) rfl) hl ⟨rfl, rfl⟩ hRm (ob r hr) (T := TX9) (N := 15) rfl rfl hsz rfl hW hdg hf) hL (fun H1 locs1 a b g => kk r H1 locs1 a b g hF)
def rmX9_isThere : Room := { frames := 2, cells := 0, slots := 0, locals := 46 }
set_option maxRecDepth 100000 in
set_option maxHeartbeats 4000000 in
theorem sX9_isThere_S0 {l : Launch} {p : Program} {e : Env} {s : State} {m : MethodId} {args : Array Value} {below : List Frame} {meth : Method} {c : Code} (G : tw_G) (sz : Nat) (hC : tw_C G p s m args meth c RX9 cX9_isThere 3 (some .boolean)) (this : Nat)  (h : tm_H) : ∀ (k : Nat) (st : (Int × Int) ⊕ (Int) ⊕ (Int × Int)) (out : Int), tm_wit (fX9_isThere_S0 this h) k st = some out → match st with
    | .inl ((x1, x2)) => ∀ (H : Heap) (locs : List Loc) (ls : Array Slot), tm_rg x1 → tm_rg x2 → tw_Rel G sz h H → tw_L G locs → lv_has ls 3 [(0, .ref this), (1, .int (tw_I x1)), (2, .int (tw_I x2))] → W p l e rmX9_isThere s m args below meth c H locs 0 0 (MQ below (tw_Qi G sz out h) args s 0 0 (tw_F G)) (F0 m 4 ls [])
    | .inr (.inl ((x2))) => ∀ (H : Heap) (locs : List Loc) (ls : Array Slot), tm_rg x2 → tw_Rel G sz h H → tw_L G locs → lv_has ls 3 [(0, .ref this), (2, .int (tw_I x2))] → W p l e rmX9_isThere s m args below meth c H locs 0 0 (MQ below (tw_Qi G sz out h) args s 0 0 (tw_F G)) (F0 m 30 ls [])
    | .inr (.inr ((x2, s0))) => ∀ (H : Heap) (locs : List Loc) (ls : Array Slot), tm_rg x2 → tm_rg s0 → tw_Rel G sz h H → tw_L G locs → lv_has ls 3 [(0, .ref this), (2, .int (tw_I x2))] → W p l e rmX9_isThere s m args below meth c H locs 0 0 (MQ below (tw_Qi G sz out h) args s 0 0 (tw_F G)) (F0 m 35 ls [.int (tw_I s0)]) := by
  intro k
  induction k with
  | zero =>
    intro st out hk
    exact absurd hk (by unfold tm_wit; exact fun z => by cases z)
  | succ k ih =>
    intro st out hk
    obtain ⟨X, hk, hf⟩ := tm_wit_succ hk
    obtain ⟨x1, x2⟩ | x2 | ⟨x2, s0⟩ := st
    · intro H locs ls gx1 gx2 hR hL hl
      dsimp only [fX9_isThere_S0] at hk
      refine lv_iload_n hC.1 hC.2.1 dX9_isThere_4 rfl (lv_at hl 2 rfl) ?_
      refine lv_aload_n hC.1 hC.2.1 dX9_isThere_5 rfl (lv_at hl 0 rfl) ?_
      refine tw_getR hC hR hk flX9_7 dX9_isThere_6 (fun r1 hk => ?_)
      refine lv_sipush (v := tw_I 307) hC.1 hC.2.1 dX9_isThere_9 (by decide) ?_
      refine tw_iald hC hR hk dX9_isThere_12 (fun v2 gv2 hk => ?_)
      refine tw_cge (tgt := 42) hC hk gx2 gv2 dX9_isThere_13 (by decide) (fun _ hk => ?_) (fun _ hk => ?_)
      · refine lv_iload_n hC.1 hC.2.1 dX9_isThere_16 rfl (lv_at hl 1 rfl) ?_
        refine tw_zne (tgt := 30) hC hk gx1 dX9_isThere_17 (by decide) (fun _ hk => ?_) (fun _ hk => ?_)
        · refine lv_aload_n hC.1 hC.2.1 dX9_isThere_20 rfl (lv_at hl 0 rfl) ?_
          refine lv_iload_n hC.1 hC.2.1 dX9_isThere_21 rfl (lv_at hl 2 rfl) ?_
          refine lv_bipush (v := tw_I 12) hC.1 hC.2.1 dX9_isThere_22 (by decide) ?_
          refine kX9_areAlike hC hR hL hk gx2 ((tw_rgL rfl)) mlX9_74 ⟨by decide, by decide⟩ hl.1 (Nat.le_of_ble_eq_true rfl) ⟨Nat.zero_le _, Nat.zero_le _⟩ dX9_isThere_24 (fun v3 H locs hR hL gv3 hk => ?_)
          refine tw_zeq (tgt := 34) hC hk gv3 dX9_isThere_27 (by decide) (fun _ hk => ?_) (fun _ hk => ?_)
          · refine lv_iconst (v := tw_I 0) hC.1 hC.2.1 dX9_isThere_34 rfl ?_
            cases hk
            exact ih _ out hf H locs _ gx2 ((tw_rgL rfl)) hR hL (lv_sub hl [0, 2] rfl)
          · cases hk
            exact ih _ out hf H locs _ gx2 hR hL (lv_sub hl [0, 2] rfl)
        · cases hk
          exact ih _ out hf H locs _ gx2 hR hL (lv_sub hl [0, 2] rfl)
      · refine lv_iload_n hC.1 hC.2.1 dX9_isThere_42 rfl (lv_at hl 1 rfl) ?_
        obtain ⟨z, hz, hk⟩ := Option.bind_eq_some_iff.mp hk
        cases hk
        cases hf
        exact tw_zret hC hR hL hz rfl dX9_isThere_43
    · intro H locs ls gx2 hR hL hl
      dsimp only [fX9_isThere_S0] at hk
      refine lv_iconst (v := tw_I 1) hC.1 hC.2.1 dX9_isThere_30 rfl ?_
      refine lv_goto (tgt := 35) hC.1 hC.2.1 dX9_isThere_31 (by decide) ?_
      cases hk
      exact ih _ out hf H locs _ gx2 ((tw_rgL rfl)) hR hL (lv_sub hl [0, 1] rfl)
    · intro H locs ls gx2 gs0 hR hL hl
      dsimp only [fX9_isThere_S0] at hk
      refine lv_istore_n (lv' := [(1, .int (tw_I s0)), (0, .ref this), (2, .int (tw_I x2))]) hC.1 hC.2.1 dX9_isThere_35 rfl hl (by decide) rfl (fun ls hl => ?_)
      refine tw_iinc (lv' := [(2, .int (tw_I (tm_wr (x2 + 1)))), (1, .int (tw_I s0)), (0, .ref this)]) hC dX9_isThere_36 hl (k := 2) rfl (by decide) rfl (fun ls hl => ?_)
      refine lv_goto (tgt := 4) hC.1 hC.2.1 dX9_isThere_39 (by decide) ?_
      cases hk
      exact ih _ out hf H locs _ gs0 ((tm_wr_rg _)) hR hL (lv_sub hl [2, 1, 0] rfl)
theorem sX9_isThere_L4 {l : Launch} {p : Program} {e : Env} {s : State} {m : MethodId} {args : Array Value} {below : List Frame} {meth : Method} {c : Code} (G : tw_G) (sz : Nat) (hC : tw_C G p s m args meth c RX9 cX9_isThere 3 (some .boolean)) (this : Nat)  (h : tm_H) (x1 : Int) (x2 : Int) (gx1 : tm_rg x1) (gx2 : tm_rg x2) (out : Int) (hk : fX9_isThere_L4 this h x1 x2 = some out) (H : Heap) (locs : List Loc) (ls : Array Slot) (hR : tw_Rel G sz h H) (hL : tw_L G locs) (hl : lv_has ls 3 [(0, .ref this), (1, .int (tw_I x1)), (2, .int (tw_I x2))]) : W p l e rmX9_isThere s m args below meth c H locs 0 0 (MQ below (tw_Qi G sz out h) args s 0 0 (tw_F G)) (F0 m 4 ls []) := by
  obtain ⟨k, hk⟩ := tm_wl_iff.mp hk
  exact sX9_isThere_S0 G sz hC this  h k (.inl ((x1, x2))) out hk H locs ls gx1 gx2 hR hL hl
theorem sX9_isThere_L30 {l : Launch} {p : Program} {e : Env} {s : State} {m : MethodId} {args : Array Value} {below : List Frame} {meth : Method} {c : Code} (G : tw_G) (sz : Nat) (hC : tw_C G p s m args meth c RX9 cX9_isThere 3 (some .boolean)) (this : Nat)  (h : tm_H) (x2 : Int) (gx2 : tm_rg x2) (out : Int) (hk : fX9_isThere_L30 this h x2 = some out) (H : Heap) (locs : List Loc) (ls : Array Slot) (hR : tw_Rel G sz h H) (hL : tw_L G locs) (hl : lv_has ls 3 [(0, .ref this), (2, .int (tw_I x2))]) : W p l e rmX9_isThere s m args below meth c H locs 0 0 (MQ below (tw_Qi G sz out h) args s 0 0 (tw_F G)) (F0 m 30 ls []) := by
  obtain ⟨k, hk⟩ := tm_wl_iff.mp hk
  exact sX9_isThere_S0 G sz hC this  h k (.inr (.inl ((x2)))) out hk H locs ls gx2 hR hL hl
theorem sX9_isThere_L35 {l : Launch} {p : Program} {e : Env} {s : State} {m : MethodId} {args : Array Value} {below : List Frame} {meth : Method} {c : Code} (G : tw_G) (sz : Nat) (hC : tw_C G p s m args meth c RX9 cX9_isThere 3 (some .boolean)) (this : Nat)  (h : tm_H) (x2 : Int) (s0 : Int) (gx2 : tm_rg x2) (gs0 : tm_rg s0) (out : Int) (hk : fX9_isThere_L35 this h x2 s0 = some out) (H : Heap) (locs : List Loc) (ls : Array Slot) (hR : tw_Rel G sz h H) (hL : tw_L G locs) (hl : lv_has ls 3 [(0, .ref this), (2, .int (tw_I x2))]) : W p l e rmX9_isThere s m args below meth c H locs 0 0 (MQ below (tw_Qi G sz out h) args s 0 0 (tw_F G)) (F0 m 35 ls [.int (tw_I s0)]) := by
  obtain ⟨k, hk⟩ := tm_wl_iff.mp hk
  exact sX9_isThere_S0 G sz hC this  h k (.inr (.inr ((x2, s0)))) out hk H locs ls gx2 gs0 hR hL hl
set_option maxRecDepth 100000 in
set_option maxHeartbeats 4000000 in
theorem cX9_isThere_ok (l : Launch) (G : tw_G) (sz : Nat) (this : Nat)  (h : tm_H) (out : Int) (hk : fX9_isThere this h = some out) : Met l yX9_isThere (tw_WS yX9_isThere cX9_isThere 3 (some .boolean)) rmX9_isThere (va_Pc [.ref this] (tw_Pre G sz h)) (tw_Qi G sz out h) 0 0 (tw_F G) := by
  refine tw_met (by decide +kernel) (Nat.le_of_ble_eq_true rfl) ?_
  intro p e s m args below meth c H ls hC hnm hR hl
  unfold fX9_isThere at hk
  obtain ⟨hob, hk⟩ := tm_th_is hk
  have hl : lv_has ls 3 [(0, .ref this)] := hl
  have hL : tw_L G [] := fun q z => by cases z
  generalize hlc : ([] : List Loc) = locs at hL ⊢
  refine lv_iconst (v := tw_I 0) hC.1 hC.2.1 dX9_isThere_0 rfl ?_
  refine lv_istore_n (lv' := [(1, .int (tw_I 0)), (0, .ref this)]) hC.1 hC.2.1 dX9_isThere_1 rfl hl (by decide) rfl (fun ls hl => ?_)
  refine lv_iconst (v := tw_I 0) hC.1 hC.2.1 dX9_isThere_2 rfl ?_
  refine lv_istore_n (lv' := [(2, .int (tw_I 0)), (1, .int (tw_I 0)), (0, .ref this)]) hC.1 hC.2.1 dX9_isThere_3 rfl hl (by decide) rfl (fun ls hl => ?_)
  exact sX9_isThere_L4 G sz hC this h 0 0 ((tw_rgL rfl)) ((tw_rgL rfl)) out hk H locs _ hR hL (lv_sub hl [2, 1, 0] rfl)
set_option maxRecDepth 100000 in
theorem kX9_isThere {l : Launch} {p : Program} {e : Env} {R : Room} {s : State} {m : MethodId} {args : Array Value} {below : List Frame} {meth : Method} {c : Code} {H : Heap} {locs : List Loc} {cells slots : Nat} {Q : State → Prop} {cc : ByteArray} {pc nL idx : Nat} {ls : Array Slot} {rest : List Value} {G : tw_G} {h : tm_H} {own : String} {ret : Option FieldType} {α : Type} {x : α} {sz : Nat} {this : Nat} (hC : tw_C G p s m args meth c own cc nL ret) (hR : tw_Rel G sz h H) (hL : tw_L G locs) {F : Int → Option α} (hk : (fX9_isThere this h).bind F = some x)  (hl : tw_mL own idx yX9_isThere) (hRm : rmX9_isThere.frames + 1 ≤ R.frames ∧ 8 + (3 + 11) + rmX9_isThere.locals ≤ R.locals) (hsz : ls.size = nL) (hW : (rest.map fun v => v.category).sum ≤ 8) (hf : cells + 0 ≤ R.cells ∧ slots + 0 ≤ R.slots) (hdg : decode cc pc = .ok (.invokevirtual idx, 3)) (kk : ∀ (r : Int) (H1 : Heap) (locs1 : List Loc), tw_Rel G sz h H1 → tw_L G locs1 → tm_rg r → F r = some x → W p l e R s m args below meth c H1 locs1 (cells + 0) (slots + 0) Q (F0 m (pc + 3) ls (.int (tw_I r) :: rest))) : W p l e R s m args below meth c H locs cells slots Q (F0 m pc ls (.ref this :: rest)) := by
  obtain ⟨r, hr, hF⟩ := Option.bind_eq_some_iff.mp hk
  have ob : ∀ r, fX9_isThere this h = some r → tm_is h 9 this := fun r hr => by
    unfold fX9_isThere at hr
    exact (tm_th_is hr).1
  exact tw_backi (tw_runV hC hR (cX9_isThere_ok l G sz this  h r hr) (n := 0) (As := []) ⟨tw_in_TB 919 (by decide +kernel) rfl, tw_in_TB 62 (by decide +kernel) rfl, by decide +kernel⟩ (tw_in_TB 918 (by decide +kernel) rfl) (tw_in_TB 27 (by decide +kernel) rfl) hl ⟨rfl, rfl⟩ hRm (ob r hr) (T := TX9) (N := 15) rfl rfl hsz rfl hW hdg hf) hL (fun H1 locs1 a b g => kk r H1 locs1 a b g hF)
def rmX9_tries : Room := { frames := 2, cells := 0, slots := 0, locals := 43 }
set_option maxRecDepth 100000 in
set_option maxHeartbeats 4000000 in
theorem sX9_tries_S0 {l : Launch} {p : Program} {e : Env} {s : State} {m : MethodId} {args : Array Value} {below : List Frame} {meth : Method} {c : Code} (G : tw_G) (sz : Nat) (hC : tw_C G p s m args meth c RX9 cX9_tries 7 (some .boolean)) (this : Nat) (a1 : Int) (a2 : Int) (a3 : Int) (a4 : Int) (ga1 : tm_rg a1) (ga2 : tm_rg a2) (ga3 : tm_rg a3) (ga4 : tm_rg a4) : ∀ (k : Nat) (st : (Int × Int × tm_H) ⊕ (Int × tm_H) ⊕ (Int × tm_H) ⊕ (Int × Int × tm_H)) (out : Int × tm_H), tm_wit (fX9_tries_S0 this a1 a2 a3 a4) k st = some out → match st with
    | .inl ((x5, x6, h)) => ∀ (H : Heap) (locs : List Loc) (ls : Array Slot), tm_rg x5 → tm_rg x6 → tw_Rel G sz h H → tw_L G locs → lv_has ls 7 [(0, .ref this), (1, .int (tw_I a1)), (2, .int (tw_I a2)), (3, .int (tw_I a3)), (4, .int (tw_I a4)), (5, .int (tw_I x5)), (6, .int (tw_I x6))] → W p l e rmX9_tries s m args below meth c H locs 0 0 (MQ below (tw_Qi G sz out.1 out.2) args s 0 0 (tw_F G)) (F0 m 70 ls [])
    | .inr (.inl ((x6, h))) => ∀ (H : Heap) (locs : List Loc) (ls : Array Slot), tm_rg x6 → tw_Rel G sz h H → tw_L G locs → lv_has ls 7 [(0, .ref this), (1, .int (tw_I a1)), (2, .int (tw_I a2)), (3, .int (tw_I a3)), (4, .int (tw_I a4)), (6, .int (tw_I x6))] → W p l e rmX9_tries s m args below meth c H locs 0 0 (MQ below (tw_Qi G sz out.1 out.2) args s 0 0 (tw_F G)) (F0 m 120 ls [])
    | .inr (.inr (.inl ((x6, h)))) => ∀ (H : Heap) (locs : List Loc) (ls : Array Slot), tm_rg x6 → tw_Rel G sz h H → tw_L G locs → lv_has ls 7 [(0, .ref this), (1, .int (tw_I a1)), (2, .int (tw_I a2)), (3, .int (tw_I a3)), (4, .int (tw_I a4)), (6, .int (tw_I x6))] → W p l e rmX9_tries s m args below meth c H locs 0 0 (MQ below (tw_Qi G sz out.1 out.2) args s 0 0 (tw_F G)) (F0 m 124 ls [])
    | .inr (.inr (.inr ((x6, s0, h)))) => ∀ (H : Heap) (locs : List Loc) (ls : Array Slot), tm_rg x6 → tm_rg s0 → tw_Rel G sz h H → tw_L G locs → lv_has ls 7 [(0, .ref this), (1, .int (tw_I a1)), (2, .int (tw_I a2)), (3, .int (tw_I a3)), (4, .int (tw_I a4)), (6, .int (tw_I x6))] → W p l e rmX9_tries s m args below meth c H locs 0 0 (MQ below (tw_Qi G sz out.1 out.2) args s 0 0 (tw_F G)) (F0 m 125 ls [.int (tw_I s0)]) := by
  intro k
  induction k with
  | zero =>
    intro st out hk
    exact absurd hk (by unfold tm_wit; exact fun z => by cases z)
  | succ k ih =>
    intro st out hk
    obtain ⟨X, hk, hf⟩ := tm_wit_succ hk
    obtain ⟨x5, x6, h⟩ | ⟨x6, h⟩ | ⟨x6, h⟩ | ⟨x6, s0, h⟩ := st
    · intro H locs ls gx5 gx6 hR hL hl
      dsimp only [fX9_tries_S0] at hk
      refine lv_iload hC.1 hC.2.1 dX9_tries_70 (lv_at hl 6 rfl) ?_
      refine lv_iconst (v := tw_I 4) hC.1 hC.2.1 dX9_tries_72 rfl ?_
      refine tw_cgt (tgt := 133) hC hk gx6 ((tw_rgL rfl)) dX9_tries_73 (by decide) (fun _ hk => ?_) (fun _ hk => ?_)
      · refine lv_iload hC.1 hC.2.1 dX9_tries_133 (lv_at hl 5 rfl) ?_
        obtain ⟨z, hz, hk⟩ := Option.bind_eq_some_iff.mp hk
        cases hk
        cases hf
        exact tw_zret hC hR hL hz rfl dX9_tries_135
      · refine lv_iload hC.1 hC.2.1 dX9_tries_76 (lv_at hl 5 rfl) ?_
        refine tw_zeq (tgt := 124) hC hk gx5 dX9_tries_78 (by decide) (fun _ hk => ?_) (fun _ hk => ?_)
        · cases hk
          exact ih _ out hf H locs _ gx6 hR hL (lv_sub hl [0, 1, 2, 3, 4, 6] rfl)
        · refine lv_iload hC.1 hC.2.1 dX9_tries_81 (lv_at hl 6 rfl) ?_
          refine lv_aload_n hC.1 hC.2.1 dX9_tries_83 rfl (lv_at hl 0 rfl) ?_
          refine tw_getR hC hR hk flX9_25 dX9_tries_84 (fun r11 hk => ?_)
          refine lv_iconst (v := tw_I 0) hC.1 hC.2.1 dX9_tries_87 rfl ?_
          refine tw_iald hC hR hk dX9_tries_88 (fun v12 gv12 hk => ?_)
          refine tw_cgt (tgt := 109) hC hk gx6 gv12 dX9_tries_89 (by decide) (fun _ hk => ?_) (fun _ hk => ?_)
          · refine lv_aload_n hC.1 hC.2.1 dX9_tries_109 rfl (lv_at hl 0 rfl) ?_
            refine tw_getR hC hR hk flX9_25 dX9_tries_110 (fun r13 hk => ?_)
            refine lv_iload hC.1 hC.2.1 dX9_tries_113 (lv_at hl 6 rfl) ?_
            refine tw_iald hC hR hk dX9_tries_115 (fun v14 gv14 hk => ?_)
            refine lv_iconst (v := tw_I (-1)) hC.1 hC.2.1 dX9_tries_116 rfl ?_
            refine tw_cne (tgt := 124) hC hk gv14 ((tw_rgL rfl)) dX9_tries_117 (by decide) (fun _ hk => ?_) (fun _ hk => ?_)
            · cases hk
              exact ih _ out hf H locs _ gx6 hR hL (lv_sub hl [0, 1, 2, 3, 4, 6] rfl)
            · cases hk
              exact ih _ out hf H locs _ gx6 hR hL (lv_sub hl [0, 1, 2, 3, 4, 6] rfl)
          · refine lv_aload_n hC.1 hC.2.1 dX9_tries_92 rfl (lv_at hl 0 rfl) ?_
            refine lv_aload_n hC.1 hC.2.1 dX9_tries_93 rfl (lv_at hl 0 rfl) ?_
            refine tw_getR hC hR hk flX9_25 dX9_tries_94 (fun r15 hk => ?_)
            refine lv_iload hC.1 hC.2.1 dX9_tries_97 (lv_at hl 6 rfl) ?_
            refine tw_iald hC hR hk dX9_tries_99 (fun v16 gv16 hk => ?_)
            refine kX9_isWord hC hR hL hk gv16 mlX9_61 ⟨by decide, by decide⟩ hl.1 (Nat.le_of_ble_eq_true rfl) ⟨Nat.zero_le _, Nat.zero_le _⟩ dX9_tries_100 (fun v17 H locs hR hL gv17 hk => ?_)
            refine tw_zeq (tgt := 124) hC hk gv17 dX9_tries_103 (by decide) (fun _ hk => ?_) (fun _ hk => ?_)
            · cases hk
              exact ih _ out hf H locs _ gx6 hR hL (lv_sub hl [0, 1, 2, 3, 4, 6] rfl)
            · refine lv_goto (tgt := 120) hC.1 hC.2.1 dX9_tries_106 (by decide) ?_
              cases hk
              exact ih _ out hf H locs _ gx6 hR hL (lv_sub hl [0, 1, 2, 3, 4, 6] rfl)
    · intro H locs ls gx6 hR hL hl
      dsimp only [fX9_tries_S0] at hk
      refine lv_iconst (v := tw_I 1) hC.1 hC.2.1 dX9_tries_120 rfl ?_
      refine lv_goto (tgt := 125) hC.1 hC.2.1 dX9_tries_121 (by decide) ?_
      cases hk
      exact ih _ out hf H locs _ gx6 ((tw_rgL rfl)) hR hL (lv_sub hl [0, 1, 2, 3, 4, 5] rfl)
    · intro H locs ls gx6 hR hL hl
      dsimp only [fX9_tries_S0] at hk
      refine lv_iconst (v := tw_I 0) hC.1 hC.2.1 dX9_tries_124 rfl ?_
      cases hk
      exact ih _ out hf H locs _ gx6 ((tw_rgL rfl)) hR hL (lv_sub hl [0, 1, 2, 3, 4, 5] rfl)
    · intro H locs ls gx6 gs0 hR hL hl
      dsimp only [fX9_tries_S0] at hk
      refine lv_istore (lv' := [(5, .int (tw_I s0)), (0, .ref this), (1, .int (tw_I a1)), (2, .int (tw_I a2)), (3, .int (tw_I a3)), (4, .int (tw_I a4)), (6, .int (tw_I x6))]) hC.1 hC.2.1 dX9_tries_125 hl (by decide) rfl (fun ls hl => ?_)
      refine tw_iinc (lv' := [(6, .int (tw_I (tm_wr (x6 + 1)))), (5, .int (tw_I s0)), (0, .ref this), (1, .int (tw_I a1)), (2, .int (tw_I a2)), (3, .int (tw_I a3)), (4, .int (tw_I a4))]) hC dX9_tries_127 hl (k := 6) rfl (by decide) rfl (fun ls hl => ?_)
      refine lv_goto (tgt := 70) hC.1 hC.2.1 dX9_tries_130 (by decide) ?_
      cases hk
      exact ih _ out hf H locs _ gs0 ((tm_wr_rg _)) hR hL (lv_sub hl [2, 3, 4, 5, 6, 1, 0] rfl)
theorem sX9_tries_L70 {l : Launch} {p : Program} {e : Env} {s : State} {m : MethodId} {args : Array Value} {below : List Frame} {meth : Method} {c : Code} (G : tw_G) (sz : Nat) (hC : tw_C G p s m args meth c RX9 cX9_tries 7 (some .boolean)) (this : Nat) (a1 : Int) (a2 : Int) (a3 : Int) (a4 : Int) (ga1 : tm_rg a1) (ga2 : tm_rg a2) (ga3 : tm_rg a3) (ga4 : tm_rg a4) (x5 : Int) (x6 : Int) (h : tm_H) (gx5 : tm_rg x5) (gx6 : tm_rg x6) (out : Int × tm_H) (hk : fX9_tries_L70 this a1 a2 a3 a4 x5 x6 h = some out) (H : Heap) (locs : List Loc) (ls : Array Slot) (hR : tw_Rel G sz h H) (hL : tw_L G locs) (hl : lv_has ls 7 [(0, .ref this), (1, .int (tw_I a1)), (2, .int (tw_I a2)), (3, .int (tw_I a3)), (4, .int (tw_I a4)), (5, .int (tw_I x5)), (6, .int (tw_I x6))]) : W p l e rmX9_tries s m args below meth c H locs 0 0 (MQ below (tw_Qi G sz out.1 out.2) args s 0 0 (tw_F G)) (F0 m 70 ls []) := by
  obtain ⟨k, hk⟩ := tm_wl_iff.mp hk
  exact sX9_tries_S0 G sz hC this a1 a2 a3 a4 ga1 ga2 ga3 ga4 k (.inl ((x5, x6, h))) out hk H locs ls gx5 gx6 hR hL hl
theorem sX9_tries_L120 {l : Launch} {p : Program} {e : Env} {s : State} {m : MethodId} {args : Array Value} {below : List Frame} {meth : Method} {c : Code} (G : tw_G) (sz : Nat) (hC : tw_C G p s m args meth c RX9 cX9_tries 7 (some .boolean)) (this : Nat) (a1 : Int) (a2 : Int) (a3 : Int) (a4 : Int) (ga1 : tm_rg a1) (ga2 : tm_rg a2) (ga3 : tm_rg a3) (ga4 : tm_rg a4) (x6 : Int) (h : tm_H) (gx6 : tm_rg x6) (out : Int × tm_H) (hk : fX9_tries_L120 this a1 a2 a3 a4 x6 h = some out) (H : Heap) (locs : List Loc) (ls : Array Slot) (hR : tw_Rel G sz h H) (hL : tw_L G locs) (hl : lv_has ls 7 [(0, .ref this), (1, .int (tw_I a1)), (2, .int (tw_I a2)), (3, .int (tw_I a3)), (4, .int (tw_I a4)), (6, .int (tw_I x6))]) : W p l e rmX9_tries s m args below meth c H locs 0 0 (MQ below (tw_Qi G sz out.1 out.2) args s 0 0 (tw_F G)) (F0 m 120 ls []) := by
  obtain ⟨k, hk⟩ := tm_wl_iff.mp hk
  exact sX9_tries_S0 G sz hC this a1 a2 a3 a4 ga1 ga2 ga3 ga4 k (.inr (.inl ((x6, h)))) out hk H locs ls gx6 hR hL hl
theorem sX9_tries_L124 {l : Launch} {p : Program} {e : Env} {s : State} {m : MethodId} {args : Array Value} {below : List Frame} {meth : Method} {c : Code} (G : tw_G) (sz : Nat) (hC : tw_C G p s m args meth c RX9 cX9_tries 7 (some .boolean)) (this : Nat) (a1 : Int) (a2 : Int) (a3 : Int) (a4 : Int) (ga1 : tm_rg a1) (ga2 : tm_rg a2) (ga3 : tm_rg a3) (ga4 : tm_rg a4) (x6 : Int) (h : tm_H) (gx6 : tm_rg x6) (out : Int × tm_H) (hk : fX9_tries_L124 this a1 a2 a3 a4 x6 h = some out) (H : Heap) (locs : List Loc) (ls : Array Slot) (hR : tw_Rel G sz h H) (hL : tw_L G locs) (hl : lv_has ls 7 [(0, .ref this), (1, .int (tw_I a1)), (2, .int (tw_I a2)), (3, .int (tw_I a3)), (4, .int (tw_I a4)), (6, .int (tw_I x6))]) : W p l e rmX9_tries s m args below meth c H locs 0 0 (MQ below (tw_Qi G sz out.1 out.2) args s 0 0 (tw_F G)) (F0 m 124 ls []) := by
  obtain ⟨k, hk⟩ := tm_wl_iff.mp hk
  exact sX9_tries_S0 G sz hC this a1 a2 a3 a4 ga1 ga2 ga3 ga4 k (.inr (.inr (.inl ((x6, h))))) out hk H locs ls gx6 hR hL hl
theorem sX9_tries_L125 {l : Launch} {p : Program} {e : Env} {s : State} {m : MethodId} {args : Array Value} {below : List Frame} {meth : Method} {c : Code} (G : tw_G) (sz : Nat) (hC : tw_C G p s m args meth c RX9 cX9_tries 7 (some .boolean)) (this : Nat) (a1 : Int) (a2 : Int) (a3 : Int) (a4 : Int) (ga1 : tm_rg a1) (ga2 : tm_rg a2) (ga3 : tm_rg a3) (ga4 : tm_rg a4) (x6 : Int) (s0 : Int) (h : tm_H) (gx6 : tm_rg x6) (gs0 : tm_rg s0) (out : Int × tm_H) (hk : fX9_tries_L125 this a1 a2 a3 a4 x6 s0 h = some out) (H : Heap) (locs : List Loc) (ls : Array Slot) (hR : tw_Rel G sz h H) (hL : tw_L G locs) (hl : lv_has ls 7 [(0, .ref this), (1, .int (tw_I a1)), (2, .int (tw_I a2)), (3, .int (tw_I a3)), (4, .int (tw_I a4)), (6, .int (tw_I x6))]) : W p l e rmX9_tries s m args below meth c H locs 0 0 (MQ below (tw_Qi G sz out.1 out.2) args s 0 0 (tw_F G)) (F0 m 125 ls [.int (tw_I s0)]) := by
  obtain ⟨k, hk⟩ := tm_wl_iff.mp hk
  exact sX9_tries_S0 G sz hC this a1 a2 a3 a4 ga1 ga2 ga3 ga4 k (.inr (.inr (.inr ((x6, s0, h))))) out hk H locs ls gx6 gs0 hR hL hl
set_option maxRecDepth 100000 in
set_option maxHeartbeats 4000000 in
theorem sX9_tries_L63 {l : Launch} {p : Program} {e : Env} {s : State} {m : MethodId} {args : Array Value} {below : List Frame} {meth : Method} {c : Code} (G : tw_G) (sz : Nat) (hC : tw_C G p s m args meth c RX9 cX9_tries 7 (some .boolean)) (this : Nat) (a1 : Int) (a2 : Int) (a3 : Int) (a4 : Int) (ga1 : tm_rg a1) (ga2 : tm_rg a2) (ga3 : tm_rg a3) (ga4 : tm_rg a4) (s0 : Nat) (s1 : Int) (s2 : Int) (h : tm_H) (gs1 : tm_rg s1) (gs2 : tm_rg s2) (out : Int × tm_H) (hk : fX9_tries_L63 this a1 a2 a3 a4 s0 s1 s2 h = some out) (H : Heap) (locs : List Loc) (ls : Array Slot) (hR : tw_Rel G sz h H) (hL : tw_L G locs) (hl : lv_has ls 7 [(0, .ref this), (1, .int (tw_I a1)), (2, .int (tw_I a2)), (3, .int (tw_I a3)), (4, .int (tw_I a4))]) : W p l e rmX9_tries s m args below meth c H locs 0 0 (MQ below (tw_Qi G sz out.1 out.2) args s 0 0 (tw_F G)) (F0 m 63 ls [.int (tw_I s2), .int (tw_I s1), .ref s0]) := by
  unfold fX9_tries_L63 at hk
  refine tw_iast hC hR hL gs2 hk dX9_tries_63 (fun h10 H locs hR hL hk => ?_)
  refine lv_iconst (v := tw_I 1) hC.1 hC.2.1 dX9_tries_64 rfl ?_
  refine lv_istore (lv' := [(5, .int (tw_I 1)), (0, .ref this), (1, .int (tw_I a1)), (2, .int (tw_I a2)), (3, .int (tw_I a3)), (4, .int (tw_I a4))]) hC.1 hC.2.1 dX9_tries_65 hl (by decide) rfl (fun ls hl => ?_)
  refine lv_iconst (v := tw_I 1) hC.1 hC.2.1 dX9_tries_67 rfl ?_
  refine lv_istore (lv' := [(6, .int (tw_I 1)), (5, .int (tw_I 1)), (0, .ref this), (1, .int (tw_I a1)), (2, .int (tw_I a2)), (3, .int (tw_I a3)), (4, .int (tw_I a4))]) hC.1 hC.2.1 dX9_tries_68 hl (by decide) rfl (fun ls hl => ?_)
  exact sX9_tries_L70 G sz hC this a1 a2 a3 a4 ga1 ga2 ga3 ga4 1 1 h10 ((tw_rgL rfl)) ((tw_rgL rfl)) out hk H locs _ hR hL (lv_sub hl [2, 3, 4, 5, 6, 1, 0] rfl)
set_option maxRecDepth 100000 in
set_option maxHeartbeats 4000000 in
theorem cX9_tries_ok (l : Launch) (G : tw_G) (sz : Nat) (this : Nat) (a1 : Int) (a2 : Int) (a3 : Int) (a4 : Int) (ga1 : tm_rg a1) (ga2 : tm_rg a2) (ga3 : tm_rg a3) (ga4 : tm_rg a4) (h : tm_H) (out : Int × tm_H) (hk : fX9_tries this a1 a2 a3 a4 h = some out) : Met l yX9_tries (tw_WS yX9_tries cX9_tries 7 (some .boolean)) rmX9_tries (va_Pc [.ref this, .int (tw_I a1), .int (tw_I a2), .int (tw_I a3), .int (tw_I a4)] (tw_Pre G sz h)) (tw_Qi G sz out.1 out.2) 0 0 (tw_F G) := by
  refine tw_met (by decide +kernel) (Nat.le_of_ble_eq_true rfl) ?_
  intro p e s m args below meth c H ls hC hnm hR hl
  unfold fX9_tries at hk
  obtain ⟨hob, hk⟩ := tm_th_is hk
  have hl : lv_has ls 7 [(0, .ref this), (1, .int (tw_I a1)), (2, .int (tw_I a2)), (3, .int (tw_I a3)), (4, .int (tw_I a4))] := hl
  have hL : tw_L G [] := fun q z => by cases z
  generalize hlc : ([] : List Loc) = locs at hL ⊢
  refine lv_aload_n hC.1 hC.2.1 dX9_tries_0 rfl (lv_at hl 0 rfl) ?_
  refine tw_getR hC hR hk flX9_25 dX9_tries_1 (fun r1 hk => ?_)
  refine lv_iconst (v := tw_I 1) hC.1 hC.2.1 dX9_tries_4 rfl ?_
  refine lv_iload_n hC.1 hC.2.1 dX9_tries_5 rfl (lv_at hl 1 rfl) ?_
  refine tw_iast hC hR hL ga1 hk dX9_tries_6 (fun h2 H locs hR hL hk => ?_)
  refine lv_aload_n hC.1 hC.2.1 dX9_tries_7 rfl (lv_at hl 0 rfl) ?_
  refine tw_getR hC hR hk flX9_25 dX9_tries_8 (fun r3 hk => ?_)
  refine lv_iconst (v := tw_I 2) hC.1 hC.2.1 dX9_tries_11 rfl ?_
  refine lv_iload_n hC.1 hC.2.1 dX9_tries_12 rfl (lv_at hl 2 rfl) ?_
  refine tw_iast hC hR hL ga2 hk dX9_tries_13 (fun h4 H locs hR hL hk => ?_)
  refine lv_aload_n hC.1 hC.2.1 dX9_tries_14 rfl (lv_at hl 0 rfl) ?_
  refine tw_getR hC hR hk flX9_25 dX9_tries_15 (fun r5 hk => ?_)
  refine lv_iconst (v := tw_I 3) hC.1 hC.2.1 dX9_tries_18 rfl ?_
  refine lv_iload_n hC.1 hC.2.1 dX9_tries_19 rfl (lv_at hl 3 rfl) ?_
  refine tw_iast hC hR hL ga3 hk dX9_tries_20 (fun h6 H locs hR hL hk => ?_)
  refine lv_aload_n hC.1 hC.2.1 dX9_tries_21 rfl (lv_at hl 0 rfl) ?_
  refine tw_getR hC hR hk flX9_25 dX9_tries_22 (fun r7 hk => ?_)
  refine lv_iconst (v := tw_I 4) hC.1 hC.2.1 dX9_tries_25 rfl ?_
  refine lv_iload hC.1 hC.2.1 dX9_tries_26 (lv_at hl 4 rfl) ?_
  refine tw_iast hC hR hL ga4 hk dX9_tries_28 (fun h8 H locs hR hL hk => ?_)
  refine lv_aload_n hC.1 hC.2.1 dX9_tries_29 rfl (lv_at hl 0 rfl) ?_
  refine tw_getR hC hR hk flX9_25 dX9_tries_30 (fun r9 hk => ?_)
  refine lv_iconst (v := tw_I 0) hC.1 hC.2.1 dX9_tries_33 rfl ?_
  refine lv_iload_n hC.1 hC.2.1 dX9_tries_34 rfl (lv_at hl 2 rfl) ?_
  refine lv_iconst (v := tw_I (-1)) hC.1 hC.2.1 dX9_tries_35 rfl ?_
  refine tw_cne (tgt := 43) hC hk ga2 ((tw_rgL rfl)) dX9_tries_36 (by decide) (fun _ hk => ?_) (fun _ hk => ?_)
  · refine lv_iconst (v := tw_I 1) hC.1 hC.2.1 dX9_tries_39 rfl ?_
    refine lv_goto (tgt := 63) hC.1 hC.2.1 dX9_tries_40 (by decide) ?_
    exact sX9_tries_L63 G sz hC this a1 a2 a3 a4 ga1 ga2 ga3 ga4 r9 0 1 h8 ((tw_rgL rfl)) ((tw_rgL rfl)) out hk H locs _ hR hL (lv_sub hl [0, 1, 2, 3, 4] rfl)
  · refine lv_iload_n hC.1 hC.2.1 dX9_tries_43 rfl (lv_at hl 3 rfl) ?_
    refine lv_iconst (v := tw_I (-1)) hC.1 hC.2.1 dX9_tries_44 rfl ?_
    refine tw_cne (tgt := 52) hC hk ga3 ((tw_rgL rfl)) dX9_tries_45 (by decide) (fun _ hk => ?_) (fun _ hk => ?_)
    · refine lv_iconst (v := tw_I 2) hC.1 hC.2.1 dX9_tries_48 rfl ?_
      refine lv_goto (tgt := 63) hC.1 hC.2.1 dX9_tries_49 (by decide) ?_
      exact sX9_tries_L63 G sz hC this a1 a2 a3 a4 ga1 ga2 ga3 ga4 r9 0 2 h8 ((tw_rgL rfl)) ((tw_rgL rfl)) out hk H locs _ hR hL (lv_sub hl [0, 1, 2, 3, 4] rfl)
    · refine lv_iload hC.1 hC.2.1 dX9_tries_52 (lv_at hl 4 rfl) ?_
      refine lv_iconst (v := tw_I (-1)) hC.1 hC.2.1 dX9_tries_54 rfl ?_
      refine tw_cne (tgt := 62) hC hk ga4 ((tw_rgL rfl)) dX9_tries_55 (by decide) (fun _ hk => ?_) (fun _ hk => ?_)
      · refine lv_iconst (v := tw_I 3) hC.1 hC.2.1 dX9_tries_58 rfl ?_
        refine lv_goto (tgt := 63) hC.1 hC.2.1 dX9_tries_59 (by decide) ?_
        exact sX9_tries_L63 G sz hC this a1 a2 a3 a4 ga1 ga2 ga3 ga4 r9 0 3 h8 ((tw_rgL rfl)) ((tw_rgL rfl)) out hk H locs _ hR hL (lv_sub hl [0, 1, 2, 3, 4] rfl)
      · refine lv_iconst (v := tw_I 4) hC.1 hC.2.1 dX9_tries_62 rfl ?_
        exact sX9_tries_L63 G sz hC this a1 a2 a3 a4 ga1 ga2 ga3 ga4 r9 0 4 h8 ((tw_rgL rfl)) ((tw_rgL rfl)) out hk H locs _ hR hL (lv_sub hl [0, 1, 2, 3, 4] rfl)
set_option maxRecDepth 100000 in
theorem kX9_tries {l : Launch} {p : Program} {e : Env} {R : Room} {s : State} {m : MethodId} {args : Array Value} {below : List Frame} {meth : Method} {c : Code} {H : Heap} {locs : List Loc} {cells slots : Nat} {Q : State → Prop} {cc : ByteArray} {pc nL idx : Nat} {ls : Array Slot} {rest : List Value} {G : tw_G} {h : tm_H} {own : String} {ret : Option FieldType} {α : Type} {x : α} {sz : Nat} {this : Nat} {a1 : Int} {a2 : Int} {a3 : Int} {a4 : Int} (hC : tw_C G p s m args meth c own cc nL ret) (hR : tw_Rel G sz h H) (hL : tw_L G locs) {F : Int × tm_H → Option α} (hk : (fX9_tries this a1 a2 a3 a4 h).bind F = some x) (ga1 : tm_rg a1) (ga2 : tm_rg a2) (ga3 : tm_rg a3) (ga4 : tm_rg a4) (hl : tw_mL own idx yX9_tries) (hRm : rmX9_tries.frames + 1 ≤ R.frames ∧ 8 + (7 + 11) + rmX9_tries.locals ≤ R.locals) (hsz : ls.size = nL) (hW : (rest.map fun v => v.category).sum ≤ 8) (hf : cells + 0 ≤ R.cells ∧ slots + 0 ≤ R.slots) (hdg : decode cc pc = .ok (.invokevirtual idx, 3)) (kk : ∀ (r : Int) (h1 : tm_H) (H1 : Heap) (locs1 : List Loc), tw_Rel G sz h1 H1 → tw_L G locs1 → tm_rg r → F (r, h1) = some x → W p l e R s m args below meth c H1 locs1 (cells + 0) (slots + 0) Q (F0 m (pc + 3) ls (.int (tw_I r) :: rest))) : W p l e R s m args below meth c H locs cells slots Q (F0 m pc ls (.int (tw_I a4) :: .int (tw_I a3) :: .int (tw_I a2) :: .int (tw_I a1) :: .ref this :: rest)) := by
  obtain ⟨r, hr, hF⟩ := Option.bind_eq_some_iff.mp hk
  have ob : ∀ r, fX9_tries this a1 a2 a3 a4 h = some r → tm_is h 9 this := fun r hr => by
    unfold fX9_tries at hr
    exact (tm_th_is hr).1
  exact tw_backi (tw_runV hC hR (cX9_tries_ok l G sz this a1 a2 a3 a4 ga1 ga2 ga3 ga4 h r hr) (n := 4) (As := [.int (tw_I a1), .int (tw_I a2), .int (tw_I a3), .int (tw_I a4)]) ⟨tw_in_TB 915 (by decide +kernel) rfl, tw_in_TB 62 (by decide +kernel) rfl, by decide +kernel⟩ (tw_in_TB 914 (by decide +kernel) rfl) (tw_in_TB 26 (by decide +kernel) rfl) hl ⟨rfl, rfl⟩ hRm (ob r hr) (T := TX9) (N := 15) rfl rfl hsz rfl hW hdg hf) hL (fun H1 locs1 a b g => kk r.1 r.2 H1 locs1 a b g hF)
def rmX9_comes : Room := { frames := 0, cells := 0, slots := 0, locals := 0 }
set_option maxRecDepth 100000 in
set_option maxHeartbeats 4000000 in
theorem sX9_comes_S0 {l : Launch} {p : Program} {e : Env} {s : State} {m : MethodId} {args : Array Value} {below : List Frame} {meth : Method} {c : Code} (G : tw_G) (sz : Nat) (hC : tw_C G p s m args meth c RX9 cX9_comes 3 (some .int)) (this : Nat)  : ∀ (k : Nat) (st : (Int × Int × tm_H) ⊕ (Int × Int × Nat × Int × Int × tm_H)) (out : Int × tm_H), tm_wit (fX9_comes_S0 this) k st = some out → match st with
    | .inl ((x1, x2, h)) => ∀ (H : Heap) (locs : List Loc) (ls : Array Slot), tm_rg x1 → tm_rg x2 → tw_Rel G sz h H → tw_L G locs → lv_has ls 3 [(0, .ref this), (1, .int (tw_I x1)), (2, .int (tw_I x2))] → W p l e rmX9_comes s m args below meth c H locs 0 0 (MQ below (tw_Qi G sz out.1 out.2) args s 0 0 (tw_F G)) (F0 m 18 ls [])
    | .inr ((x1, x2, s0, s1, s2, h)) => ∀ (H : Heap) (locs : List Loc) (ls : Array Slot), tm_rg x1 → tm_rg x2 → tm_rg s1 → tm_rg s2 → tw_Rel G sz h H → tw_L G locs → lv_has ls 3 [(0, .ref this), (1, .int (tw_I x1)), (2, .int (tw_I x2))] → W p l e rmX9_comes s m args below meth c H locs 0 0 (MQ below (tw_Qi G sz out.1 out.2) args s 0 0 (tw_F G)) (F0 m 50 ls [.int (tw_I s2), .int (tw_I s1), .ref s0]) := by
  intro k
  induction k with
  | zero =>
    intro st out hk
    exact absurd hk (by unfold tm_wit; exact fun z => by cases z)
  | succ k ih =>
    intro st out hk
    obtain ⟨X, hk, hf⟩ := tm_wit_succ hk
    obtain ⟨x1, x2, h⟩ | ⟨x1, x2, s0, s1, s2, h⟩ := st
    · intro H locs ls gx1 gx2 hR hL hl
      dsimp only [fX9_comes_S0] at hk
      refine lv_iload_n hC.1 hC.2.1 dX9_comes_18 rfl (lv_at hl 2 rfl) ?_
      refine lv_iconst (v := tw_I 5) hC.1 hC.2.1 dX9_comes_19 rfl ?_
      refine tw_cge (tgt := 57) hC hk gx2 ((tw_rgL rfl)) dX9_comes_20 (by decide) (fun _ hk => ?_) (fun _ hk => ?_)
      · refine lv_aload_n hC.1 hC.2.1 dX9_comes_23 rfl (lv_at hl 0 rfl) ?_
        refine tw_getR hC hR hk flX9_7 dX9_comes_24 (fun r3 hk => ?_)
        refine lv_iload_n hC.1 hC.2.1 dX9_comes_27 rfl (lv_at hl 1 rfl) ?_
        refine lv_iload_n hC.1 hC.2.1 dX9_comes_28 rfl (lv_at hl 2 rfl) ?_
        refine tw_iadd hC dX9_comes_29 ?_
        refine lv_iload_n hC.1 hC.2.1 dX9_comes_30 rfl (lv_at hl 2 rfl) ?_
        refine lv_aload_n hC.1 hC.2.1 dX9_comes_31 rfl (lv_at hl 0 rfl) ?_
        refine tw_getR hC hR hk flX9_25 dX9_comes_32 (fun r4 hk => ?_)
        refine lv_iconst (v := tw_I 0) hC.1 hC.2.1 dX9_comes_35 rfl ?_
        refine tw_iald hC hR hk dX9_comes_36 (fun v5 gv5 hk => ?_)
        refine tw_cgt (tgt := 49) hC hk gx2 gv5 dX9_comes_37 (by decide) (fun _ hk => ?_) (fun _ hk => ?_)
        · refine lv_iconst (v := tw_I (-1)) hC.1 hC.2.1 dX9_comes_49 rfl ?_
          cases hk
          exact ih _ out hf H locs _ gx1 gx2 ((tm_wr_rg _)) ((tw_rgL rfl)) hR hL (lv_sub hl [0, 1, 2] rfl)
        · refine lv_aload_n hC.1 hC.2.1 dX9_comes_40 rfl (lv_at hl 0 rfl) ?_
          refine tw_getR hC hR hk flX9_25 dX9_comes_41 (fun r6 hk => ?_)
          refine lv_iload_n hC.1 hC.2.1 dX9_comes_44 rfl (lv_at hl 2 rfl) ?_
          refine tw_iald hC hR hk dX9_comes_45 (fun v7 gv7 hk => ?_)
          refine lv_goto (tgt := 50) hC.1 hC.2.1 dX9_comes_46 (by decide) ?_
          cases hk
          exact ih _ out hf H locs _ gx1 gx2 ((tm_wr_rg _)) gv7 hR hL (lv_sub hl [0, 1, 2] rfl)
      · refine lv_aload_n hC.1 hC.2.1 dX9_comes_57 rfl (lv_at hl 0 rfl) ?_
        refine tw_getR hC hR hk flX9_7 dX9_comes_58 (fun r8 hk => ?_)
        refine lv_iload_n hC.1 hC.2.1 dX9_comes_61 rfl (lv_at hl 1 rfl) ?_
        refine lv_iconst (v := tw_I 5) hC.1 hC.2.1 dX9_comes_62 rfl ?_
        refine tw_iadd hC dX9_comes_63 ?_
        refine lv_iconst (v := tw_I 0) hC.1 hC.2.1 dX9_comes_64 rfl ?_
        refine tw_iast hC hR hL ((tw_rgL rfl)) hk dX9_comes_65 (fun h9 H locs hR hL hk => ?_)
        refine lv_aload_n hC.1 hC.2.1 dX9_comes_66 rfl (lv_at hl 0 rfl) ?_
        refine tw_getR hC hR hk flX9_7 dX9_comes_67 (fun r10 hk => ?_)
        refine lv_sipush (v := tw_I 307) hC.1 hC.2.1 dX9_comes_70 (by decide) ?_
        refine lv_dup2_11 hC.1 hC.2.1 dX9_comes_73 rfl rfl ?_
        refine tw_iald hC hR hk dX9_comes_74 (fun v11 gv11 hk => ?_)
        refine lv_iconst (v := tw_I 1) hC.1 hC.2.1 dX9_comes_75 rfl ?_
        refine tw_iadd hC dX9_comes_76 ?_
        refine tw_iast hC hR hL ((tm_wr_rg _)) hk dX9_comes_77 (fun h12 H locs hR hL hk => ?_)
        refine lv_aload_n hC.1 hC.2.1 dX9_comes_78 rfl (lv_at hl 0 rfl) ?_
        refine tw_getR hC hR hk flX9_7 dX9_comes_79 (fun r13 hk => ?_)
        refine lv_sipush (v := tw_I 307) hC.1 hC.2.1 dX9_comes_82 (by decide) ?_
        refine tw_iald hC hR hk dX9_comes_85 (fun v14 gv14 hk => ?_)
        refine lv_iconst (v := tw_I 1) hC.1 hC.2.1 dX9_comes_86 rfl ?_
        refine tw_isub hC dX9_comes_87 ?_
        cases hk
        cases hf
        exact tw_iret hC hR hL ((tm_wr_rg _)) rfl rfl dX9_comes_88
    · intro H locs ls gx1 gx2 gs1 gs2 hR hL hl
      dsimp only [fX9_comes_S0] at hk
      refine tw_iast hC hR hL gs2 hk dX9_comes_50 (fun h15 H locs hR hL hk => ?_)
      refine tw_iinc (lv' := [(2, .int (tw_I (tm_wr (x2 + 1)))), (0, .ref this), (1, .int (tw_I x1))]) hC dX9_comes_51 hl (k := 2) rfl (by decide) rfl (fun ls hl => ?_)
      refine lv_goto (tgt := 18) hC.1 hC.2.1 dX9_comes_54 (by decide) ?_
      cases hk
      exact ih _ out hf H locs _ gx1 ((tm_wr_rg _)) hR hL (lv_sub hl [1, 2, 0] rfl)
theorem sX9_comes_L18 {l : Launch} {p : Program} {e : Env} {s : State} {m : MethodId} {args : Array Value} {below : List Frame} {meth : Method} {c : Code} (G : tw_G) (sz : Nat) (hC : tw_C G p s m args meth c RX9 cX9_comes 3 (some .int)) (this : Nat)  (x1 : Int) (x2 : Int) (h : tm_H) (gx1 : tm_rg x1) (gx2 : tm_rg x2) (out : Int × tm_H) (hk : fX9_comes_L18 this x1 x2 h = some out) (H : Heap) (locs : List Loc) (ls : Array Slot) (hR : tw_Rel G sz h H) (hL : tw_L G locs) (hl : lv_has ls 3 [(0, .ref this), (1, .int (tw_I x1)), (2, .int (tw_I x2))]) : W p l e rmX9_comes s m args below meth c H locs 0 0 (MQ below (tw_Qi G sz out.1 out.2) args s 0 0 (tw_F G)) (F0 m 18 ls []) := by
  obtain ⟨k, hk⟩ := tm_wl_iff.mp hk
  exact sX9_comes_S0 G sz hC this  k (.inl ((x1, x2, h))) out hk H locs ls gx1 gx2 hR hL hl
theorem sX9_comes_L50 {l : Launch} {p : Program} {e : Env} {s : State} {m : MethodId} {args : Array Value} {below : List Frame} {meth : Method} {c : Code} (G : tw_G) (sz : Nat) (hC : tw_C G p s m args meth c RX9 cX9_comes 3 (some .int)) (this : Nat)  (x1 : Int) (x2 : Int) (s0 : Nat) (s1 : Int) (s2 : Int) (h : tm_H) (gx1 : tm_rg x1) (gx2 : tm_rg x2) (gs1 : tm_rg s1) (gs2 : tm_rg s2) (out : Int × tm_H) (hk : fX9_comes_L50 this x1 x2 s0 s1 s2 h = some out) (H : Heap) (locs : List Loc) (ls : Array Slot) (hR : tw_Rel G sz h H) (hL : tw_L G locs) (hl : lv_has ls 3 [(0, .ref this), (1, .int (tw_I x1)), (2, .int (tw_I x2))]) : W p l e rmX9_comes s m args below meth c H locs 0 0 (MQ below (tw_Qi G sz out.1 out.2) args s 0 0 (tw_F G)) (F0 m 50 ls [.int (tw_I s2), .int (tw_I s1), .ref s0]) := by
  obtain ⟨k, hk⟩ := tm_wl_iff.mp hk
  exact sX9_comes_S0 G sz hC this  k (.inr ((x1, x2, s0, s1, s2, h))) out hk H locs ls gx1 gx2 gs1 gs2 hR hL hl
set_option maxRecDepth 100000 in
set_option maxHeartbeats 4000000 in
theorem cX9_comes_ok (l : Launch) (G : tw_G) (sz : Nat) (this : Nat)  (h : tm_H) (out : Int × tm_H) (hk : fX9_comes this h = some out) : Met l yX9_comes (tw_WS yX9_comes cX9_comes 3 (some .int)) rmX9_comes (va_Pc [.ref this] (tw_Pre G sz h)) (tw_Qi G sz out.1 out.2) 0 0 (tw_F G) := by
  refine tw_met (by decide +kernel) (Nat.le_of_ble_eq_true rfl) ?_
  intro p e s m args below meth c H ls hC hnm hR hl
  unfold fX9_comes at hk
  obtain ⟨hob, hk⟩ := tm_th_is hk
  have hl : lv_has ls 3 [(0, .ref this)] := hl
  have hL : tw_L G [] := fun q z => by cases z
  generalize hlc : ([] : List Loc) = locs at hL ⊢
  refine lv_sipush (v := tw_I 308) hC.1 hC.2.1 dX9_comes_0 (by decide) ?_
  refine lv_bipush (v := tw_I 6) hC.1 hC.2.1 dX9_comes_3 (by decide) ?_
  refine lv_aload_n hC.1 hC.2.1 dX9_comes_5 rfl (lv_at hl 0 rfl) ?_
  refine tw_getR hC hR hk flX9_7 dX9_comes_6 (fun r1 hk => ?_)
  refine lv_sipush (v := tw_I 307) hC.1 hC.2.1 dX9_comes_9 (by decide) ?_
  refine tw_iald hC hR hk dX9_comes_12 (fun v2 gv2 hk => ?_)
  refine tw_imul hC dX9_comes_13 ?_
  refine tw_iadd hC dX9_comes_14 ?_
  refine lv_istore_n (lv' := [(1, .int (tw_I (tm_wr (308 + (tm_wr (6 * v2)))))), (0, .ref this)]) hC.1 hC.2.1 dX9_comes_15 rfl hl (by decide) rfl (fun ls hl => ?_)
  refine lv_iconst (v := tw_I 0) hC.1 hC.2.1 dX9_comes_16 rfl ?_
  refine lv_istore_n (lv' := [(2, .int (tw_I 0)), (1, .int (tw_I (tm_wr (308 + (tm_wr (6 * v2)))))), (0, .ref this)]) hC.1 hC.2.1 dX9_comes_17 rfl hl (by decide) rfl (fun ls hl => ?_)
  exact sX9_comes_L18 G sz hC this (tm_wr (308 + (tm_wr (6 * v2)))) 0 h ((tm_wr_rg _)) ((tw_rgL rfl)) out hk H locs _ hR hL (lv_sub hl [2, 1, 0] rfl)
set_option maxRecDepth 100000 in
theorem kX9_comes {l : Launch} {p : Program} {e : Env} {R : Room} {s : State} {m : MethodId} {args : Array Value} {below : List Frame} {meth : Method} {c : Code} {H : Heap} {locs : List Loc} {cells slots : Nat} {Q : State → Prop} {cc : ByteArray} {pc nL idx : Nat} {ls : Array Slot} {rest : List Value} {G : tw_G} {h : tm_H} {own : String} {ret : Option FieldType} {α : Type} {x : α} {sz : Nat} {this : Nat} (hC : tw_C G p s m args meth c own cc nL ret) (hR : tw_Rel G sz h H) (hL : tw_L G locs) {F : Int × tm_H → Option α} (hk : (fX9_comes this h).bind F = some x)  (hl : tw_mL own idx yX9_comes) (hRm : rmX9_comes.frames + 1 ≤ R.frames ∧ 8 + (3 + 11) + rmX9_comes.locals ≤ R.locals) (hsz : ls.size = nL) (hW : (rest.map fun v => v.category).sum ≤ 8) (hf : cells + 0 ≤ R.cells ∧ slots + 0 ≤ R.slots) (hdg : decode cc pc = .ok (.invokevirtual idx, 3)) (kk : ∀ (r : Int) (h1 : tm_H) (H1 : Heap) (locs1 : List Loc), tw_Rel G sz h1 H1 → tw_L G locs1 → tm_rg r → F (r, h1) = some x → W p l e R s m args below meth c H1 locs1 (cells + 0) (slots + 0) Q (F0 m (pc + 3) ls (.int (tw_I r) :: rest))) : W p l e R s m args below meth c H locs cells slots Q (F0 m pc ls (.ref this :: rest)) := by
  obtain ⟨r, hr, hF⟩ := Option.bind_eq_some_iff.mp hk
  have ob : ∀ r, fX9_comes this h = some r → tm_is h 9 this := fun r hr => by
    unfold fX9_comes at hr
    exact (tm_th_is hr).1
  exact tw_backi (tw_runV hC hR (cX9_comes_ok l G sz this  h r hr) (n := 0) (As := []) ⟨tw_in_TB 927 (by decide +kernel) rfl, tw_in_TB 62 (by decide +kernel) rfl, by decide +kernel⟩ (tw_in_TB 926 (by decide +kernel) rfl) (tw_in_TB 29 (by decide +kernel) rfl) hl ⟨rfl, rfl⟩ hRm (ob r hr) (T := TX9) (N := 15) rfl rfl hsz rfl hW hdg hf) hL (fun H1 locs1 a b g => kk r.1 r.2 H1 locs1 a b g hF)
def rmX9_addTerm : Room := { frames := 3, cells := 0, slots := 0, locals := 69 }
set_option maxRecDepth 100000 in
set_option maxHeartbeats 4000000 in
theorem cX9_addTerm_ok (l : Launch) (G : tw_G) (sz : Nat) (this : Nat) (a1 : Int) (a2 : Int) (a3 : Int) (a4 : Int) (ga1 : tm_rg a1) (ga2 : tm_rg a2) (ga3 : tm_rg a3) (ga4 : tm_rg a4) (h : tm_H) (out : Int × tm_H) (hk : fX9_addTerm this a1 a2 a3 a4 h = some out) : Met l yX9_addTerm (tw_WS yX9_addTerm cX9_addTerm 5 (some .int)) rmX9_addTerm (va_Pc [.ref this, .int (tw_I a1), .int (tw_I a2), .int (tw_I a3), .int (tw_I a4)] (tw_Pre G sz h)) (tw_Qi G sz out.1 out.2) 0 0 (tw_F G) := by
  refine tw_met (by decide +kernel) (Nat.le_of_ble_eq_true rfl) ?_
  intro p e s m args below meth c H ls hC hnm hR hl
  unfold fX9_addTerm at hk
  obtain ⟨hob, hk⟩ := tm_th_is hk
  have hl : lv_has ls 5 [(0, .ref this), (1, .int (tw_I a1)), (2, .int (tw_I a2)), (3, .int (tw_I a3)), (4, .int (tw_I a4))] := hl
  have hL : tw_L G [] := fun q z => by cases z
  generalize hlc : ([] : List Loc) = locs at hL ⊢
  refine lv_aload_n hC.1 hC.2.1 dX9_addTerm_0 rfl (lv_at hl 0 rfl) ?_
  refine lv_iload_n hC.1 hC.2.1 dX9_addTerm_1 rfl (lv_at hl 1 rfl) ?_
  refine lv_iload_n hC.1 hC.2.1 dX9_addTerm_2 rfl (lv_at hl 2 rfl) ?_
  refine lv_iload_n hC.1 hC.2.1 dX9_addTerm_3 rfl (lv_at hl 3 rfl) ?_
  refine lv_iload hC.1 hC.2.1 dX9_addTerm_4 (lv_at hl 4 rfl) ?_
  refine kX9_tries hC hR hL hk ga1 ga2 ga3 ga4 mlX9_78 ⟨by decide, by decide⟩ hl.1 (Nat.le_of_ble_eq_true rfl) ⟨Nat.zero_le _, Nat.zero_le _⟩ dX9_addTerm_6 (fun v1 h1 H locs hR hL gv1 hk => ?_)
  refine tw_zne (tgt := 14) hC hk gv1 dX9_addTerm_9 (by decide) (fun _ hk => ?_) (fun _ hk => ?_)
  · refine lv_iconst (v := tw_I (-1)) hC.1 hC.2.1 dX9_addTerm_12 rfl ?_
    cases hk
    exact tw_iret hC hR hL ((tw_rgL rfl)) rfl rfl dX9_addTerm_13
  · refine lv_aload_n hC.1 hC.2.1 dX9_addTerm_14 rfl (lv_at hl 0 rfl) ?_
    refine kX9_isThere hC hR hL hk mlX9_82 ⟨by decide, by decide⟩ hl.1 (Nat.le_of_ble_eq_true rfl) ⟨Nat.zero_le _, Nat.zero_le _⟩ dX9_addTerm_15 (fun v2 H locs hR hL gv2 hk => ?_)
    refine tw_zeq (tgt := 24) hC hk gv2 dX9_addTerm_18 (by decide) (fun _ hk => ?_) (fun _ hk => ?_)
    · refine lv_aload_n hC.1 hC.2.1 dX9_addTerm_24 rfl (lv_at hl 0 rfl) ?_
      refine tw_getR hC hR hk flX9_7 dX9_addTerm_25 (fun r3 hk => ?_)
      refine lv_sipush (v := tw_I 307) hC.1 hC.2.1 dX9_addTerm_28 (by decide) ?_
      refine tw_iald hC hR hk dX9_addTerm_31 (fun v4 gv4 hk => ?_)
      refine lv_bipush (v := tw_I 12) hC.1 hC.2.1 dX9_addTerm_32 (by decide) ?_
      refine tw_cne (tgt := 40) hC hk gv4 ((tw_rgL rfl)) dX9_addTerm_34 (by decide) (fun _ hk => ?_) (fun _ hk => ?_)
      · refine lv_bipush (v := tw_I (-3)) hC.1 hC.2.1 dX9_addTerm_37 (by decide) ?_
        cases hk
        exact tw_iret hC hR hL ((tw_rgL rfl)) rfl rfl dX9_addTerm_39
      · refine lv_aload_n hC.1 hC.2.1 dX9_addTerm_40 rfl (lv_at hl 0 rfl) ?_
        refine lv_aload_n hC.1 hC.2.1 dX9_addTerm_41 rfl (lv_at hl 0 rfl) ?_
        refine tw_getR hC hR hk flX9_7 dX9_addTerm_42 (fun r5 hk => ?_)
        refine kX9_saves hC hR hL hk mlX9_64 ⟨by decide, by decide⟩ hl.1 (Nat.le_of_ble_eq_true rfl) ⟨Nat.zero_le _, Nat.zero_le _⟩ dX9_addTerm_45 (fun h6 H locs hR hL hk => ?_)
        refine lv_aload_n hC.1 hC.2.1 dX9_addTerm_48 rfl (lv_at hl 0 rfl) ?_
        refine kX9_comes hC hR hL hk mlX9_86 ⟨by decide, by decide⟩ hl.1 (Nat.le_of_ble_eq_true rfl) ⟨Nat.zero_le _, Nat.zero_le _⟩ dX9_addTerm_49 (fun v7 h7 H locs hR hL gv7 hk => ?_)
        cases hk
        exact tw_iret hC hR hL gv7 rfl rfl dX9_addTerm_52
    · refine lv_bipush (v := tw_I (-2)) hC.1 hC.2.1 dX9_addTerm_21 (by decide) ?_
      cases hk
      exact tw_iret hC hR hL ((tw_rgL rfl)) rfl rfl dX9_addTerm_23
set_option maxRecDepth 100000 in
theorem kX9_addTerm {l : Launch} {p : Program} {e : Env} {R : Room} {s : State} {m : MethodId} {args : Array Value} {below : List Frame} {meth : Method} {c : Code} {H : Heap} {locs : List Loc} {cells slots : Nat} {Q : State → Prop} {cc : ByteArray} {pc nL idx : Nat} {ls : Array Slot} {rest : List Value} {G : tw_G} {h : tm_H} {own : String} {ret : Option FieldType} {α : Type} {x : α} {sz : Nat} {this : Nat} {a1 : Int} {a2 : Int} {a3 : Int} {a4 : Int} (hC : tw_C G p s m args meth c own cc nL ret) (hR : tw_Rel G sz h H) (hL : tw_L G locs) {F : Int × tm_H → Option α} (hk : (fX9_addTerm this a1 a2 a3 a4 h).bind F = some x) (ga1 : tm_rg a1) (ga2 : tm_rg a2) (ga3 : tm_rg a3) (ga4 : tm_rg a4) (hl : tw_mL own idx yX9_addTerm) (hRm : rmX9_addTerm.frames + 1 ≤ R.frames ∧ 8 + (5 + 11) + rmX9_addTerm.locals ≤ R.locals) (hsz : ls.size = nL) (hW : (rest.map fun v => v.category).sum ≤ 8) (hf : cells + 0 ≤ R.cells ∧ slots + 0 ≤ R.slots) (hdg : decode cc pc = .ok (.invokevirtual idx, 3)) (kk : ∀ (r : Int) (h1 : tm_H) (H1 : Heap) (locs1 : List Loc), tw_Rel G sz h1 H1 → tw_L G locs1 → tm_rg r → F (r, h1) = some x → W p l e R s m args below meth c H1 locs1 (cells + 0) (slots + 0) Q (F0 m (pc + 3) ls (.int (tw_I r) :: rest))) : W p l e R s m args below meth c H locs cells slots Q (F0 m pc ls (.int (tw_I a4) :: .int (tw_I a3) :: .int (tw_I a2) :: .int (tw_I a1) :: .ref this :: rest)) := by
  obtain ⟨r, hr, hF⟩ := Option.bind_eq_some_iff.mp hk
  have ob : ∀ r, fX9_addTerm this a1 a2 a3 a4 h = some r → tm_is h 9 this := fun r hr => by
    unfold fX9_addTerm at hr
    exact (tm_th_is hr).1
  exact tw_backi (tw_runV hC hR (cX9_addTerm_ok l G sz this a1 a2 a3 a4 ga1 ga2 ga3 ga4 h r hr) (n := 4) (As := [.int (tw_I a1), .int (tw_I a2), .int (tw_I a3), .int (tw_I a4)]) ⟨tw_in_TB 911 (by decide +kernel) rfl, tw_in_TB 62 (by decide +kernel) rfl, by decide +kernel⟩ (tw_in_TB 909 (by decide +kernel) rfl) (tw_in_TB 910 (by decide +kernel) rfl) hl ⟨rfl, rfl⟩ hRm (ob r hr) (T := TX9) (N := 15) rfl rfl hsz rfl hW hdg hf) hL (fun H1 locs1 a b g => kk r.1 r.2 H1 locs1 a b g hF)
def rmX9_removeTerm : Room := { frames := 2, cells := 0, slots := 0, locals := 43 }
set_option maxRecDepth 100000 in
set_option maxHeartbeats 4000000 in
theorem sX9_removeTerm_S0 {l : Launch} {p : Program} {e : Env} {s : State} {m : MethodId} {args : Array Value} {below : List Frame} {meth : Method} {c : Code} (G : tw_G) (sz : Nat) (hC : tw_C G p s m args meth c RX9 cX9_removeTerm 3 (some .int)) (this : Nat) (a1 : Int) (ga1 : tm_rg a1) : ∀ (k : Nat) (st : (Int × tm_H)) (out : Int × tm_H), tm_wit (fX9_removeTerm_S0 this a1) k st = some out → match st with
    | (x2, h) => ∀ (H : Heap) (locs : List Loc) (ls : Array Slot), tm_rg x2 → tw_Rel G sz h H → tw_L G locs → lv_has ls 3 [(0, .ref this), (1, .int (tw_I a1)), (2, .int (tw_I x2))] → W p l e rmX9_removeTerm s m args below meth c H locs 0 0 (MQ below (tw_Qi G sz out.1 out.2) args s 0 0 (tw_F G)) (F0 m 39 ls []) := by
  intro k
  induction k with
  | zero =>
    intro st out hk
    exact absurd hk (by unfold tm_wit; exact fun z => by cases z)
  | succ k ih =>
    intro st out hk
    obtain ⟨X, hk, hf⟩ := tm_wit_succ hk
    obtain ⟨x2, h⟩ := st
    intro H locs ls gx2 hR hL hl
    dsimp only [fX9_removeTerm_S0] at hk
    refine lv_iload_n hC.1 hC.2.1 dX9_removeTerm_39 rfl (lv_at hl 2 rfl) ?_
    refine lv_sipush (v := tw_I 308) hC.1 hC.2.1 dX9_removeTerm_40 (by decide) ?_
    refine lv_bipush (v := tw_I 6) hC.1 hC.2.1 dX9_removeTerm_43 (by decide) ?_
    refine lv_aload_n hC.1 hC.2.1 dX9_removeTerm_45 rfl (lv_at hl 0 rfl) ?_
    refine tw_getR hC hR hk flX9_7 dX9_removeTerm_46 (fun r7 hk => ?_)
    refine lv_sipush (v := tw_I 307) hC.1 hC.2.1 dX9_removeTerm_49 (by decide) ?_
    refine tw_iald hC hR hk dX9_removeTerm_52 (fun v8 gv8 hk => ?_)
    refine tw_imul hC dX9_removeTerm_53 ?_
    refine tw_iadd hC dX9_removeTerm_54 ?_
    refine tw_cge (tgt := 79) hC hk gx2 ((tm_wr_rg _)) dX9_removeTerm_55 (by decide) (fun _ hk => ?_) (fun _ hk => ?_)
    · refine lv_aload_n hC.1 hC.2.1 dX9_removeTerm_58 rfl (lv_at hl 0 rfl) ?_
      refine tw_getR hC hR hk flX9_7 dX9_removeTerm_59 (fun r9 hk => ?_)
      refine lv_iload_n hC.1 hC.2.1 dX9_removeTerm_62 rfl (lv_at hl 2 rfl) ?_
      refine lv_aload_n hC.1 hC.2.1 dX9_removeTerm_63 rfl (lv_at hl 0 rfl) ?_
      refine tw_getR hC hR hk flX9_7 dX9_removeTerm_64 (fun r10 hk => ?_)
      refine lv_iload_n hC.1 hC.2.1 dX9_removeTerm_67 rfl (lv_at hl 2 rfl) ?_
      refine lv_bipush (v := tw_I 6) hC.1 hC.2.1 dX9_removeTerm_68 (by decide) ?_
      refine tw_iadd hC dX9_removeTerm_70 ?_
      refine tw_iald hC hR hk dX9_removeTerm_71 (fun v11 gv11 hk => ?_)
      refine tw_iast hC hR hL gv11 hk dX9_removeTerm_72 (fun h12 H locs hR hL hk => ?_)
      refine tw_iinc (lv' := [(2, .int (tw_I (tm_wr (x2 + 1)))), (0, .ref this), (1, .int (tw_I a1))]) hC dX9_removeTerm_73 hl (k := 2) rfl (by decide) rfl (fun ls hl => ?_)
      refine lv_goto (tgt := 39) hC.1 hC.2.1 dX9_removeTerm_76 (by decide) ?_
      cases hk
      exact ih _ out hf H locs _ ((tm_wr_rg _)) hR hL (lv_sub hl [1, 2, 0] rfl)
    · refine lv_aload_n hC.1 hC.2.1 dX9_removeTerm_79 rfl (lv_at hl 0 rfl) ?_
      refine tw_getR hC hR hk flX9_7 dX9_removeTerm_80 (fun r13 hk => ?_)
      refine lv_sipush (v := tw_I 307) hC.1 hC.2.1 dX9_removeTerm_83 (by decide) ?_
      refine tw_iald hC hR hk dX9_removeTerm_86 (fun v14 gv14 hk => ?_)
      cases hk
      cases hf
      exact tw_iret hC hR hL gv14 rfl rfl dX9_removeTerm_87
theorem sX9_removeTerm_L39 {l : Launch} {p : Program} {e : Env} {s : State} {m : MethodId} {args : Array Value} {below : List Frame} {meth : Method} {c : Code} (G : tw_G) (sz : Nat) (hC : tw_C G p s m args meth c RX9 cX9_removeTerm 3 (some .int)) (this : Nat) (a1 : Int) (ga1 : tm_rg a1) (x2 : Int) (h : tm_H) (gx2 : tm_rg x2) (out : Int × tm_H) (hk : fX9_removeTerm_L39 this a1 x2 h = some out) (H : Heap) (locs : List Loc) (ls : Array Slot) (hR : tw_Rel G sz h H) (hL : tw_L G locs) (hl : lv_has ls 3 [(0, .ref this), (1, .int (tw_I a1)), (2, .int (tw_I x2))]) : W p l e rmX9_removeTerm s m args below meth c H locs 0 0 (MQ below (tw_Qi G sz out.1 out.2) args s 0 0 (tw_F G)) (F0 m 39 ls []) := by
  obtain ⟨k, hk⟩ := tm_wl_iff.mp hk
  exact sX9_removeTerm_S0 G sz hC this a1 ga1 k ((x2, h)) out hk H locs ls gx2 hR hL hl
set_option maxRecDepth 100000 in
set_option maxHeartbeats 4000000 in
theorem cX9_removeTerm_ok (l : Launch) (G : tw_G) (sz : Nat) (this : Nat) (a1 : Int) (ga1 : tm_rg a1) (h : tm_H) (out : Int × tm_H) (hk : fX9_removeTerm this a1 h = some out) : Met l yX9_removeTerm (tw_WS yX9_removeTerm cX9_removeTerm 3 (some .int)) rmX9_removeTerm (va_Pc [.ref this, .int (tw_I a1)] (tw_Pre G sz h)) (tw_Qi G sz out.1 out.2) 0 0 (tw_F G) := by
  refine tw_met (by decide +kernel) (Nat.le_of_ble_eq_true rfl) ?_
  intro p e s m args below meth c H ls hC hnm hR hl
  unfold fX9_removeTerm at hk
  obtain ⟨hob, hk⟩ := tm_th_is hk
  have hl : lv_has ls 3 [(0, .ref this), (1, .int (tw_I a1))] := hl
  have hL : tw_L G [] := fun q z => by cases z
  generalize hlc : ([] : List Loc) = locs at hL ⊢
  refine lv_aload_n hC.1 hC.2.1 dX9_removeTerm_0 rfl (lv_at hl 0 rfl) ?_
  refine lv_iload_n hC.1 hC.2.1 dX9_removeTerm_1 rfl (lv_at hl 1 rfl) ?_
  refine kX9_isTerm hC hR hL hk ga1 mlX9_90 ⟨by decide, by decide⟩ hl.1 (Nat.le_of_ble_eq_true rfl) ⟨Nat.zero_le _, Nat.zero_le _⟩ dX9_removeTerm_2 (fun v1 H locs hR hL gv1 hk => ?_)
  refine tw_zne (tgt := 10) hC hk gv1 dX9_removeTerm_5 (by decide) (fun _ hk => ?_) (fun _ hk => ?_)
  · refine lv_iconst (v := tw_I (-1)) hC.1 hC.2.1 dX9_removeTerm_8 rfl ?_
    cases hk
    exact tw_iret hC hR hL ((tw_rgL rfl)) rfl rfl dX9_removeTerm_9
  · refine lv_aload_n hC.1 hC.2.1 dX9_removeTerm_10 rfl (lv_at hl 0 rfl) ?_
    refine lv_aload_n hC.1 hC.2.1 dX9_removeTerm_11 rfl (lv_at hl 0 rfl) ?_
    refine tw_getR hC hR hk flX9_7 dX9_removeTerm_12 (fun r2 hk => ?_)
    refine kX9_saves hC hR hL hk mlX9_64 ⟨by decide, by decide⟩ hl.1 (Nat.le_of_ble_eq_true rfl) ⟨Nat.zero_le _, Nat.zero_le _⟩ dX9_removeTerm_15 (fun h3 H locs hR hL hk => ?_)
    refine lv_aload_n hC.1 hC.2.1 dX9_removeTerm_18 rfl (lv_at hl 0 rfl) ?_
    refine tw_getR hC hR hk flX9_7 dX9_removeTerm_19 (fun r4 hk => ?_)
    refine lv_sipush (v := tw_I 307) hC.1 hC.2.1 dX9_removeTerm_22 (by decide) ?_
    refine lv_dup2_11 hC.1 hC.2.1 dX9_removeTerm_25 rfl rfl ?_
    refine tw_iald hC hR hk dX9_removeTerm_26 (fun v5 gv5 hk => ?_)
    refine lv_iconst (v := tw_I 1) hC.1 hC.2.1 dX9_removeTerm_27 rfl ?_
    refine tw_isub hC dX9_removeTerm_28 ?_
    refine tw_iast hC hR hL ((tm_wr_rg _)) hk dX9_removeTerm_29 (fun h6 H locs hR hL hk => ?_)
    refine lv_sipush (v := tw_I 308) hC.1 hC.2.1 dX9_removeTerm_30 (by decide) ?_
    refine lv_bipush (v := tw_I 6) hC.1 hC.2.1 dX9_removeTerm_33 (by decide) ?_
    refine lv_iload_n hC.1 hC.2.1 dX9_removeTerm_35 rfl (lv_at hl 1 rfl) ?_
    refine tw_imul hC dX9_removeTerm_36 ?_
    refine tw_iadd hC dX9_removeTerm_37 ?_
    refine lv_istore_n (lv' := [(2, .int (tw_I (tm_wr (308 + (tm_wr (6 * a1)))))), (0, .ref this), (1, .int (tw_I a1))]) hC.1 hC.2.1 dX9_removeTerm_38 rfl hl (by decide) rfl (fun ls hl => ?_)
    exact sX9_removeTerm_L39 G sz hC this a1 ga1 (tm_wr (308 + (tm_wr (6 * a1)))) h6 ((tm_wr_rg _)) out hk H locs _ hR hL (lv_sub hl [1, 2, 0] rfl)
set_option maxRecDepth 100000 in
theorem kX9_removeTerm {l : Launch} {p : Program} {e : Env} {R : Room} {s : State} {m : MethodId} {args : Array Value} {below : List Frame} {meth : Method} {c : Code} {H : Heap} {locs : List Loc} {cells slots : Nat} {Q : State → Prop} {cc : ByteArray} {pc nL idx : Nat} {ls : Array Slot} {rest : List Value} {G : tw_G} {h : tm_H} {own : String} {ret : Option FieldType} {α : Type} {x : α} {sz : Nat} {this : Nat} {a1 : Int} (hC : tw_C G p s m args meth c own cc nL ret) (hR : tw_Rel G sz h H) (hL : tw_L G locs) {F : Int × tm_H → Option α} (hk : (fX9_removeTerm this a1 h).bind F = some x) (ga1 : tm_rg a1) (hl : tw_mL own idx yX9_removeTerm) (hRm : rmX9_removeTerm.frames + 1 ≤ R.frames ∧ 8 + (3 + 11) + rmX9_removeTerm.locals ≤ R.locals) (hsz : ls.size = nL) (hW : (rest.map fun v => v.category).sum ≤ 8) (hf : cells + 0 ≤ R.cells ∧ slots + 0 ≤ R.slots) (hdg : decode cc pc = .ok (.invokevirtual idx, 3)) (kk : ∀ (r : Int) (h1 : tm_H) (H1 : Heap) (locs1 : List Loc), tw_Rel G sz h1 H1 → tw_L G locs1 → tm_rg r → F (r, h1) = some x → W p l e R s m args below meth c H1 locs1 (cells + 0) (slots + 0) Q (F0 m (pc + 3) ls (.int (tw_I r) :: rest))) : W p l e R s m args below meth c H locs cells slots Q (F0 m pc ls (.int (tw_I a1) :: .ref this :: rest)) := by
  obtain ⟨r, hr, hF⟩ := Option.bind_eq_some_iff.mp hk
  have ob : ∀ r, fX9_removeTerm this a1 h = some r → tm_is h 9 this := fun r hr => by
    unfold fX9_removeTerm at hr
    exact (tm_th_is hr).1
  exact tw_backi (tw_runV hC hR (cX9_removeTerm_ok l G sz this a1 ga1 h r hr) (n := 1) (As := [.int (tw_I a1)]) ⟨tw_in_TB 931 (by decide +kernel) rfl, tw_in_TB 62 (by decide +kernel) rfl, by decide +kernel⟩ (tw_in_TB 929 (by decide +kernel) rfl) (tw_in_TB 930 (by decide +kernel) rfl) hl ⟨rfl, rfl⟩ hRm (ob r hr) (T := TX9) (N := 15) rfl rfl hsz rfl hW hdg hf) hL (fun H1 locs1 a b g => kk r.1 r.2 H1 locs1 a b g hF)
def rmX9_setQuiet : Room := { frames := 6, cells := 0, slots := 0, locals := 147 }
set_option maxRecDepth 100000 in
set_option maxHeartbeats 4000000 in
theorem cX9_setQuiet_ok (l : Launch) (G : tw_G) (sz : Nat) (this : Nat) (a1 : Int) (a2 : Int) (ga1 : tm_rg a1) (ga2 : tm_rg a2) (h : tm_H) (out : Int × tm_H) (hk : fX9_setQuiet this a1 a2 h = some out) : Met l yX9_setQuiet (tw_WS yX9_setQuiet cX9_setQuiet 3 (some .int)) rmX9_setQuiet (va_Pc [.ref this, .int (tw_I a1), .int (tw_I a2)] (tw_Pre G sz h)) (tw_Qi G sz out.1 out.2) 0 0 (tw_F G) := by
  refine tw_met (by decide +kernel) (Nat.le_of_ble_eq_true rfl) ?_
  intro p e s m args below meth c H ls hC hnm hR hl
  unfold fX9_setQuiet at hk
  obtain ⟨hob, hk⟩ := tm_th_is hk
  have hl : lv_has ls 3 [(0, .ref this), (1, .int (tw_I a1)), (2, .int (tw_I a2))] := hl
  have hL : tw_L G [] := fun q z => by cases z
  generalize hlc : ([] : List Loc) = locs at hL ⊢
  refine lv_aload_n hC.1 hC.2.1 dX9_setQuiet_0 rfl (lv_at hl 0 rfl) ?_
  refine lv_iload_n hC.1 hC.2.1 dX9_setQuiet_1 rfl (lv_at hl 1 rfl) ?_
  refine kX9_isTerm hC hR hL hk ga1 mlX9_90 ⟨by decide, by decide⟩ hl.1 (Nat.le_of_ble_eq_true rfl) ⟨Nat.zero_le _, Nat.zero_le _⟩ dX9_setQuiet_2 (fun v1 H locs hR hL gv1 hk => ?_)
  refine tw_zeq (tgt := 17) hC hk gv1 dX9_setQuiet_5 (by decide) (fun _ hk => ?_) (fun _ hk => ?_)
  · refine lv_iconst (v := tw_I (-1)) hC.1 hC.2.1 dX9_setQuiet_17 rfl ?_
    cases hk
    exact tw_iret hC hR hL ((tw_rgL rfl)) rfl rfl dX9_setQuiet_18
  · refine lv_iload_n hC.1 hC.2.1 dX9_setQuiet_8 rfl (lv_at hl 2 rfl) ?_
    refine lv_iconst (v := tw_I 0) hC.1 hC.2.1 dX9_setQuiet_9 rfl ?_
    refine lv_iconst (v := tw_I 1) hC.1 hC.2.1 dX9_setQuiet_10 rfl ?_
    refine kX9_in hC hR hL hk ga2 ((tw_rgL rfl)) ((tw_rgL rfl)) mlX9_45 ⟨by decide, by decide⟩ hl.1 (Nat.le_of_ble_eq_true rfl) ⟨Nat.zero_le _, Nat.zero_le _⟩ dX9_setQuiet_11 (fun v2 H locs hR hL gv2 hk => ?_)
    refine tw_zne (tgt := 19) hC hk gv2 dX9_setQuiet_14 (by decide) (fun _ hk => ?_) (fun _ hk => ?_)
    · refine lv_iconst (v := tw_I (-1)) hC.1 hC.2.1 dX9_setQuiet_17 rfl ?_
      cases hk
      exact tw_iret hC hR hL ((tw_rgL rfl)) rfl rfl dX9_setQuiet_18
    · refine lv_aload_n hC.1 hC.2.1 dX9_setQuiet_19 rfl (lv_at hl 0 rfl) ?_
      refine lv_aload_n hC.1 hC.2.1 dX9_setQuiet_20 rfl (lv_at hl 0 rfl) ?_
      refine tw_getR hC hR hk flX9_7 dX9_setQuiet_21 (fun r3 hk => ?_)
      refine kX9_saves hC hR hL hk mlX9_64 ⟨by decide, by decide⟩ hl.1 (Nat.le_of_ble_eq_true rfl) ⟨Nat.zero_le _, Nat.zero_le _⟩ dX9_setQuiet_24 (fun h4 H locs hR hL hk => ?_)
      refine lv_aload_n hC.1 hC.2.1 dX9_setQuiet_27 rfl (lv_at hl 0 rfl) ?_
      refine tw_getR hC hR hk flX9_7 dX9_setQuiet_28 (fun r5 hk => ?_)
      refine lv_sipush (v := tw_I 308) hC.1 hC.2.1 dX9_setQuiet_31 (by decide) ?_
      refine lv_bipush (v := tw_I 6) hC.1 hC.2.1 dX9_setQuiet_34 (by decide) ?_
      refine lv_iload_n hC.1 hC.2.1 dX9_setQuiet_36 rfl (lv_at hl 1 rfl) ?_
      refine tw_imul hC dX9_setQuiet_37 ?_
      refine tw_iadd hC dX9_setQuiet_38 ?_
      refine lv_iconst (v := tw_I 5) hC.1 hC.2.1 dX9_setQuiet_39 rfl ?_
      refine tw_iadd hC dX9_setQuiet_40 ?_
      refine lv_iload_n hC.1 hC.2.1 dX9_setQuiet_41 rfl (lv_at hl 2 rfl) ?_
      refine tw_iast hC hR hL ga2 hk dX9_setQuiet_42 (fun h6 H locs hR hL hk => ?_)
      refine lv_aload_n hC.1 hC.2.1 dX9_setQuiet_43 rfl (lv_at hl 0 rfl) ?_
      refine lv_iconst (v := tw_I (-1)) hC.1 hC.2.1 dX9_setQuiet_44 rfl ?_
      refine kX9_allMarks hC hR hL hk ((tw_rgL rfl)) mlX9_68 ⟨by decide, by decide⟩ hl.1 (Nat.le_of_ble_eq_true rfl) ⟨Nat.zero_le _, Nat.zero_le _⟩ dX9_setQuiet_45 (fun v7 h7 H locs hR hL gv7 hk => ?_)
      cases hk
      exact tw_iret hC hR hL gv7 rfl rfl dX9_setQuiet_48
set_option maxRecDepth 100000 in
theorem kX9_setQuiet {l : Launch} {p : Program} {e : Env} {R : Room} {s : State} {m : MethodId} {args : Array Value} {below : List Frame} {meth : Method} {c : Code} {H : Heap} {locs : List Loc} {cells slots : Nat} {Q : State → Prop} {cc : ByteArray} {pc nL idx : Nat} {ls : Array Slot} {rest : List Value} {G : tw_G} {h : tm_H} {own : String} {ret : Option FieldType} {α : Type} {x : α} {sz : Nat} {this : Nat} {a1 : Int} {a2 : Int} (hC : tw_C G p s m args meth c own cc nL ret) (hR : tw_Rel G sz h H) (hL : tw_L G locs) {F : Int × tm_H → Option α} (hk : (fX9_setQuiet this a1 a2 h).bind F = some x) (ga1 : tm_rg a1) (ga2 : tm_rg a2) (hl : tw_mL own idx yX9_setQuiet) (hRm : rmX9_setQuiet.frames + 1 ≤ R.frames ∧ 8 + (3 + 11) + rmX9_setQuiet.locals ≤ R.locals) (hsz : ls.size = nL) (hW : (rest.map fun v => v.category).sum ≤ 8) (hf : cells + 0 ≤ R.cells ∧ slots + 0 ≤ R.slots) (hdg : decode cc pc = .ok (.invokevirtual idx, 3)) (kk : ∀ (r : Int) (h1 : tm_H) (H1 : Heap) (locs1 : List Loc), tw_Rel G sz h1 H1 → tw_L G locs1 → tm_rg r → F (r, h1) = some x → W p l e R s m args below meth c H1 locs1 (cells + 0) (slots + 0) Q (F0 m (pc + 3) ls (.int (tw_I r) :: rest))) : W p l e R s m args below meth c H locs cells slots Q (F0 m pc ls (.int (tw_I a2) :: .int (tw_I a1) :: .ref this :: rest)) := by
  obtain ⟨r, hr, hF⟩ := Option.bind_eq_some_iff.mp hk
  have ob : ∀ r, fX9_setQuiet this a1 a2 h = some r → tm_is h 9 this := fun r hr => by
    unfold fX9_setQuiet at hr
    exact (tm_th_is hr).1
  exact tw_backi (tw_runV hC hR (cX9_setQuiet_ok l G sz this a1 a2 ga1 ga2 h r hr) (n := 2) (As := [.int (tw_I a1), .int (tw_I a2)]) ⟨tw_in_TB 939 (by decide +kernel) rfl, tw_in_TB 62 (by decide +kernel) rfl, by decide +kernel⟩ (tw_in_TB 937 (by decide +kernel) rfl) (tw_in_TB 938 (by decide +kernel) rfl) hl ⟨rfl, rfl⟩ hRm (ob r hr) (T := TX9) (N := 15) rfl rfl hsz rfl hW hdg hf) hL (fun H1 locs1 a b g => kk r.1 r.2 H1 locs1 a b g hF)
def rmX9_hasForms : Room := { frames := 0, cells := 0, slots := 0, locals := 0 }
set_option maxRecDepth 100000 in
set_option maxHeartbeats 4000000 in
theorem sX9_hasForms_S0 {l : Launch} {p : Program} {e : Env} {s : State} {m : MethodId} {args : Array Value} {below : List Frame} {meth : Method} {c : Code} (G : tw_G) (sz : Nat) (hC : tw_C G p s m args meth c RX9 cX9_hasForms 4 (some .boolean)) (this : Nat) (a1 : Int) (ga1 : tm_rg a1) (h : tm_H) : ∀ (k : Nat) (st : (Int × Int) ⊕ (Int) ⊕ (Int) ⊕ (Int × Int)) (out : Int), tm_wit (fX9_hasForms_S0 this a1 h) k st = some out → match st with
    | .inl ((x2, x3)) => ∀ (H : Heap) (locs : List Loc) (ls : Array Slot), tm_rg x2 → tm_rg x3 → tw_Rel G sz h H → tw_L G locs → lv_has ls 4 [(0, .ref this), (1, .int (tw_I a1)), (2, .int (tw_I x2)), (3, .int (tw_I x3))] → W p l e rmX9_hasForms s m args below meth c H locs 0 0 (MQ below (tw_Qi G sz out h) args s 0 0 (tw_F G)) (F0 m 4 ls [])
    | .inr (.inl ((x3))) => ∀ (H : Heap) (locs : List Loc) (ls : Array Slot), tm_rg x3 → tw_Rel G sz h H → tw_L G locs → lv_has ls 4 [(0, .ref this), (1, .int (tw_I a1)), (3, .int (tw_I x3))] → W p l e rmX9_hasForms s m args below meth c H locs 0 0 (MQ below (tw_Qi G sz out h) args s 0 0 (tw_F G)) (F0 m 35 ls [])
    | .inr (.inr (.inl ((x3)))) => ∀ (H : Heap) (locs : List Loc) (ls : Array Slot), tm_rg x3 → tw_Rel G sz h H → tw_L G locs → lv_has ls 4 [(0, .ref this), (1, .int (tw_I a1)), (3, .int (tw_I x3))] → W p l e rmX9_hasForms s m args below meth c H locs 0 0 (MQ below (tw_Qi G sz out h) args s 0 0 (tw_F G)) (F0 m 39 ls [])
    | .inr (.inr (.inr ((x3, s0)))) => ∀ (H : Heap) (locs : List Loc) (ls : Array Slot), tm_rg x3 → tm_rg s0 → tw_Rel G sz h H → tw_L G locs → lv_has ls 4 [(0, .ref this), (1, .int (tw_I a1)), (3, .int (tw_I x3))] → W p l e rmX9_hasForms s m args below meth c H locs 0 0 (MQ below (tw_Qi G sz out h) args s 0 0 (tw_F G)) (F0 m 40 ls [.int (tw_I s0)]) := by
  intro k
  induction k with
  | zero =>
    intro st out hk
    exact absurd hk (by unfold tm_wit; exact fun z => by cases z)
  | succ k ih =>
    intro st out hk
    obtain ⟨X, hk, hf⟩ := tm_wit_succ hk
    obtain ⟨x2, x3⟩ | x3 | x3 | ⟨x3, s0⟩ := st
    · intro H locs ls gx2 gx3 hR hL hl
      dsimp only [fX9_hasForms_S0] at hk
      refine lv_iload_n hC.1 hC.2.1 dX9_hasForms_4 rfl (lv_at hl 3 rfl) ?_
      refine lv_aload_n hC.1 hC.2.1 dX9_hasForms_5 rfl (lv_at hl 0 rfl) ?_
      refine tw_getR hC hR hk flX9_7 dX9_hasForms_6 (fun r1 hk => ?_)
      refine lv_iconst (v := tw_I 0) hC.1 hC.2.1 dX9_hasForms_9 rfl ?_
      refine tw_iald hC hR hk dX9_hasForms_10 (fun v2 gv2 hk => ?_)
      refine tw_cge (tgt := 47) hC hk gx3 gv2 dX9_hasForms_11 (by decide) (fun _ hk => ?_) (fun _ hk => ?_)
      · refine lv_iload_n hC.1 hC.2.1 dX9_hasForms_14 rfl (lv_at hl 2 rfl) ?_
        refine tw_zne (tgt := 35) hC hk gx2 dX9_hasForms_15 (by decide) (fun _ hk => ?_) (fun _ hk => ?_)
        · refine lv_iload_n hC.1 hC.2.1 dX9_hasForms_18 rfl (lv_at hl 3 rfl) ?_
          refine lv_iload_n hC.1 hC.2.1 dX9_hasForms_19 rfl (lv_at hl 1 rfl) ?_
          refine tw_ceq (tgt := 39) hC hk gx3 ga1 dX9_hasForms_20 (by decide) (fun _ hk => ?_) (fun _ hk => ?_)
          · cases hk
            exact ih _ out hf H locs _ gx3 hR hL (lv_sub hl [0, 1, 3] rfl)
          · refine lv_aload_n hC.1 hC.2.1 dX9_hasForms_23 rfl (lv_at hl 0 rfl) ?_
            refine tw_getR hC hR hk flX9_7 dX9_hasForms_24 (fun r3 hk => ?_)
            refine lv_iconst (v := tw_I 1) hC.1 hC.2.1 dX9_hasForms_27 rfl ?_
            refine lv_iload_n hC.1 hC.2.1 dX9_hasForms_28 rfl (lv_at hl 3 rfl) ?_
            refine tw_iadd hC dX9_hasForms_29 ?_
            refine tw_iald hC hR hk dX9_hasForms_30 (fun v4 gv4 hk => ?_)
            refine lv_iload_n hC.1 hC.2.1 dX9_hasForms_31 rfl (lv_at hl 1 rfl) ?_
            refine tw_cne (tgt := 39) hC hk gv4 ga1 dX9_hasForms_32 (by decide) (fun _ hk => ?_) (fun _ hk => ?_)
            · cases hk
              exact ih _ out hf H locs _ gx3 hR hL (lv_sub hl [0, 1, 3] rfl)
            · cases hk
              exact ih _ out hf H locs _ gx3 hR hL (lv_sub hl [0, 1, 3] rfl)
        · cases hk
          exact ih _ out hf H locs _ gx3 hR hL (lv_sub hl [0, 1, 3] rfl)
      · refine lv_iload_n hC.1 hC.2.1 dX9_hasForms_47 rfl (lv_at hl 2 rfl) ?_
        obtain ⟨z, hz, hk⟩ := Option.bind_eq_some_iff.mp hk
        cases hk
        cases hf
        exact tw_zret hC hR hL hz rfl dX9_hasForms_48
    · intro H locs ls gx3 hR hL hl
      dsimp only [fX9_hasForms_S0] at hk
      refine lv_iconst (v := tw_I 1) hC.1 hC.2.1 dX9_hasForms_35 rfl ?_
      refine lv_goto (tgt := 40) hC.1 hC.2.1 dX9_hasForms_36 (by decide) ?_
      cases hk
      exact ih _ out hf H locs _ gx3 ((tw_rgL rfl)) hR hL (lv_sub hl [0, 1, 2] rfl)
    · intro H locs ls gx3 hR hL hl
      dsimp only [fX9_hasForms_S0] at hk
      refine lv_iconst (v := tw_I 0) hC.1 hC.2.1 dX9_hasForms_39 rfl ?_
      cases hk
      exact ih _ out hf H locs _ gx3 ((tw_rgL rfl)) hR hL (lv_sub hl [0, 1, 2] rfl)
    · intro H locs ls gx3 gs0 hR hL hl
      dsimp only [fX9_hasForms_S0] at hk
      refine lv_istore_n (lv' := [(2, .int (tw_I s0)), (0, .ref this), (1, .int (tw_I a1)), (3, .int (tw_I x3))]) hC.1 hC.2.1 dX9_hasForms_40 rfl hl (by decide) rfl (fun ls hl => ?_)
      refine tw_iinc (lv' := [(3, .int (tw_I (tm_wr (x3 + 1)))), (2, .int (tw_I s0)), (0, .ref this), (1, .int (tw_I a1))]) hC dX9_hasForms_41 hl (k := 3) rfl (by decide) rfl (fun ls hl => ?_)
      refine lv_goto (tgt := 4) hC.1 hC.2.1 dX9_hasForms_44 (by decide) ?_
      cases hk
      exact ih _ out hf H locs _ gs0 ((tm_wr_rg _)) hR hL (lv_sub hl [2, 3, 1, 0] rfl)
theorem sX9_hasForms_L4 {l : Launch} {p : Program} {e : Env} {s : State} {m : MethodId} {args : Array Value} {below : List Frame} {meth : Method} {c : Code} (G : tw_G) (sz : Nat) (hC : tw_C G p s m args meth c RX9 cX9_hasForms 4 (some .boolean)) (this : Nat) (a1 : Int) (ga1 : tm_rg a1) (h : tm_H) (x2 : Int) (x3 : Int) (gx2 : tm_rg x2) (gx3 : tm_rg x3) (out : Int) (hk : fX9_hasForms_L4 this a1 h x2 x3 = some out) (H : Heap) (locs : List Loc) (ls : Array Slot) (hR : tw_Rel G sz h H) (hL : tw_L G locs) (hl : lv_has ls 4 [(0, .ref this), (1, .int (tw_I a1)), (2, .int (tw_I x2)), (3, .int (tw_I x3))]) : W p l e rmX9_hasForms s m args below meth c H locs 0 0 (MQ below (tw_Qi G sz out h) args s 0 0 (tw_F G)) (F0 m 4 ls []) := by
  obtain ⟨k, hk⟩ := tm_wl_iff.mp hk
  exact sX9_hasForms_S0 G sz hC this a1 ga1 h k (.inl ((x2, x3))) out hk H locs ls gx2 gx3 hR hL hl
theorem sX9_hasForms_L35 {l : Launch} {p : Program} {e : Env} {s : State} {m : MethodId} {args : Array Value} {below : List Frame} {meth : Method} {c : Code} (G : tw_G) (sz : Nat) (hC : tw_C G p s m args meth c RX9 cX9_hasForms 4 (some .boolean)) (this : Nat) (a1 : Int) (ga1 : tm_rg a1) (h : tm_H) (x3 : Int) (gx3 : tm_rg x3) (out : Int) (hk : fX9_hasForms_L35 this a1 h x3 = some out) (H : Heap) (locs : List Loc) (ls : Array Slot) (hR : tw_Rel G sz h H) (hL : tw_L G locs) (hl : lv_has ls 4 [(0, .ref this), (1, .int (tw_I a1)), (3, .int (tw_I x3))]) : W p l e rmX9_hasForms s m args below meth c H locs 0 0 (MQ below (tw_Qi G sz out h) args s 0 0 (tw_F G)) (F0 m 35 ls []) := by
  obtain ⟨k, hk⟩ := tm_wl_iff.mp hk
  exact sX9_hasForms_S0 G sz hC this a1 ga1 h k (.inr (.inl ((x3)))) out hk H locs ls gx3 hR hL hl
theorem sX9_hasForms_L39 {l : Launch} {p : Program} {e : Env} {s : State} {m : MethodId} {args : Array Value} {below : List Frame} {meth : Method} {c : Code} (G : tw_G) (sz : Nat) (hC : tw_C G p s m args meth c RX9 cX9_hasForms 4 (some .boolean)) (this : Nat) (a1 : Int) (ga1 : tm_rg a1) (h : tm_H) (x3 : Int) (gx3 : tm_rg x3) (out : Int) (hk : fX9_hasForms_L39 this a1 h x3 = some out) (H : Heap) (locs : List Loc) (ls : Array Slot) (hR : tw_Rel G sz h H) (hL : tw_L G locs) (hl : lv_has ls 4 [(0, .ref this), (1, .int (tw_I a1)), (3, .int (tw_I x3))]) : W p l e rmX9_hasForms s m args below meth c H locs 0 0 (MQ below (tw_Qi G sz out h) args s 0 0 (tw_F G)) (F0 m 39 ls []) := by
  obtain ⟨k, hk⟩ := tm_wl_iff.mp hk
  exact sX9_hasForms_S0 G sz hC this a1 ga1 h k (.inr (.inr (.inl ((x3))))) out hk H locs ls gx3 hR hL hl
theorem sX9_hasForms_L40 {l : Launch} {p : Program} {e : Env} {s : State} {m : MethodId} {args : Array Value} {below : List Frame} {meth : Method} {c : Code} (G : tw_G) (sz : Nat) (hC : tw_C G p s m args meth c RX9 cX9_hasForms 4 (some .boolean)) (this : Nat) (a1 : Int) (ga1 : tm_rg a1) (h : tm_H) (x3 : Int) (s0 : Int) (gx3 : tm_rg x3) (gs0 : tm_rg s0) (out : Int) (hk : fX9_hasForms_L40 this a1 h x3 s0 = some out) (H : Heap) (locs : List Loc) (ls : Array Slot) (hR : tw_Rel G sz h H) (hL : tw_L G locs) (hl : lv_has ls 4 [(0, .ref this), (1, .int (tw_I a1)), (3, .int (tw_I x3))]) : W p l e rmX9_hasForms s m args below meth c H locs 0 0 (MQ below (tw_Qi G sz out h) args s 0 0 (tw_F G)) (F0 m 40 ls [.int (tw_I s0)]) := by
  obtain ⟨k, hk⟩ := tm_wl_iff.mp hk
  exact sX9_hasForms_S0 G sz hC this a1 ga1 h k (.inr (.inr (.inr ((x3, s0))))) out hk H locs ls gx3 gs0 hR hL hl
set_option maxRecDepth 100000 in
set_option maxHeartbeats 4000000 in
theorem cX9_hasForms_ok (l : Launch) (G : tw_G) (sz : Nat) (this : Nat) (a1 : Int) (ga1 : tm_rg a1) (h : tm_H) (out : Int) (hk : fX9_hasForms this a1 h = some out) : Met l yX9_hasForms (tw_WS yX9_hasForms cX9_hasForms 4 (some .boolean)) rmX9_hasForms (va_Pc [.ref this, .int (tw_I a1)] (tw_Pre G sz h)) (tw_Qi G sz out h) 0 0 (tw_F G) := by
  refine tw_met (by decide +kernel) (Nat.le_of_ble_eq_true rfl) ?_
  intro p e s m args below meth c H ls hC hnm hR hl
  unfold fX9_hasForms at hk
  obtain ⟨hob, hk⟩ := tm_th_is hk
  have hl : lv_has ls 4 [(0, .ref this), (1, .int (tw_I a1))] := hl
  have hL : tw_L G [] := fun q z => by cases z
  generalize hlc : ([] : List Loc) = locs at hL ⊢
  refine lv_iconst (v := tw_I 0) hC.1 hC.2.1 dX9_hasForms_0 rfl ?_
  refine lv_istore_n (lv' := [(2, .int (tw_I 0)), (0, .ref this), (1, .int (tw_I a1))]) hC.1 hC.2.1 dX9_hasForms_1 rfl hl (by decide) rfl (fun ls hl => ?_)
  refine lv_iconst (v := tw_I 0) hC.1 hC.2.1 dX9_hasForms_2 rfl ?_
  refine lv_istore_n (lv' := [(3, .int (tw_I 0)), (2, .int (tw_I 0)), (0, .ref this), (1, .int (tw_I a1))]) hC.1 hC.2.1 dX9_hasForms_3 rfl hl (by decide) rfl (fun ls hl => ?_)
  exact sX9_hasForms_L4 G sz hC this a1 ga1 h 0 0 ((tw_rgL rfl)) ((tw_rgL rfl)) out hk H locs _ hR hL (lv_sub hl [2, 3, 1, 0] rfl)
set_option maxRecDepth 100000 in
theorem kX9_hasForms {l : Launch} {p : Program} {e : Env} {R : Room} {s : State} {m : MethodId} {args : Array Value} {below : List Frame} {meth : Method} {c : Code} {H : Heap} {locs : List Loc} {cells slots : Nat} {Q : State → Prop} {cc : ByteArray} {pc nL idx : Nat} {ls : Array Slot} {rest : List Value} {G : tw_G} {h : tm_H} {own : String} {ret : Option FieldType} {α : Type} {x : α} {sz : Nat} {this : Nat} {a1 : Int} (hC : tw_C G p s m args meth c own cc nL ret) (hR : tw_Rel G sz h H) (hL : tw_L G locs) {F : Int → Option α} (hk : (fX9_hasForms this a1 h).bind F = some x) (ga1 : tm_rg a1) (hl : tw_mL own idx yX9_hasForms) (hRm : rmX9_hasForms.frames + 1 ≤ R.frames ∧ 8 + (4 + 11) + rmX9_hasForms.locals ≤ R.locals) (hsz : ls.size = nL) (hW : (rest.map fun v => v.category).sum ≤ 8) (hf : cells + 0 ≤ R.cells ∧ slots + 0 ≤ R.slots) (hdg : decode cc pc = .ok (.invokevirtual idx, 3)) (kk : ∀ (r : Int) (H1 : Heap) (locs1 : List Loc), tw_Rel G sz h H1 → tw_L G locs1 → tm_rg r → F r = some x → W p l e R s m args below meth c H1 locs1 (cells + 0) (slots + 0) Q (F0 m (pc + 3) ls (.int (tw_I r) :: rest))) : W p l e R s m args below meth c H locs cells slots Q (F0 m pc ls (.int (tw_I a1) :: .ref this :: rest)) := by
  obtain ⟨r, hr, hF⟩ := Option.bind_eq_some_iff.mp hk
  have ob : ∀ r, fX9_hasForms this a1 h = some r → tm_is h 9 this := fun r hr => by
    unfold fX9_hasForms at hr
    exact (tm_th_is hr).1
  exact tw_backi (tw_runV hC hR (cX9_hasForms_ok l G sz this a1 ga1 h r hr) (n := 1) (As := [.int (tw_I a1)]) ⟨tw_in_TB 951 (by decide +kernel) rfl, tw_in_TB 62 (by decide +kernel) rfl, by decide +kernel⟩ (tw_in_TB 950 (by decide +kernel) rfl) (tw_in_TB 32 (by decide +kernel) rfl) hl ⟨rfl, rfl⟩ hRm (ob r hr) (T := TX9) (N := 15) rfl rfl hsz rfl hW hdg hf) hL (fun H1 locs1 a b g => kk r H1 locs1 a b g hF)
def rmX9_canBe : Room := { frames := 2, cells := 0, slots := 0, locals := 46 }
set_option maxRecDepth 100000 in
set_option maxHeartbeats 4000000 in
theorem sX9_canBe_S0 {l : Launch} {p : Program} {e : Env} {s : State} {m : MethodId} {args : Array Value} {below : List Frame} {meth : Method} {c : Code} (G : tw_G) (sz : Nat) (hC : tw_C G p s m args meth c RX9 cX9_canBe 7 (some .boolean)) (this : Nat) (a1 : Int) (a2 : Int) (ga1 : tm_rg a1) (ga2 : tm_rg a2) : ∀ (k : Nat) (st : (Int × Int × Int × tm_H) ⊕ (Int × Int × Int × Int × tm_H) ⊕ (Int × Int × Int × tm_H) ⊕ (Int × Int × Int × Int × tm_H)) (out : Int × tm_H), tm_wit (fX9_canBe_S0 this a1 a2) k st = some out → match st with
    | .inl ((x3, x4, x5, h)) => ∀ (H : Heap) (locs : List Loc) (ls : Array Slot), tm_rg x3 → tm_rg x4 → tm_rg x5 → tw_Rel G sz h H → tw_L G locs → lv_has ls 7 [(0, .ref this), (1, .int (tw_I a1)), (2, .int (tw_I a2)), (3, .int (tw_I x3)), (4, .int (tw_I x4)), (5, .int (tw_I x5))] → W p l e rmX9_canBe s m args below meth c H locs 0 0 (MQ below (tw_Qi G sz out.1 out.2) args s 0 0 (tw_F G)) (F0 m 51 ls [])
    | .inr (.inl ((x3, x4, x5, x6, h))) => ∀ (H : Heap) (locs : List Loc) (ls : Array Slot), tm_rg x3 → tm_rg x4 → tm_rg x5 → tm_rg x6 → tw_Rel G sz h H → tw_L G locs → lv_has ls 7 [(0, .ref this), (1, .int (tw_I a1)), (2, .int (tw_I a2)), (3, .int (tw_I x3)), (4, .int (tw_I x4)), (5, .int (tw_I x5)), (6, .int (tw_I x6))] → W p l e rmX9_canBe s m args below meth c H locs 0 0 (MQ below (tw_Qi G sz out.1 out.2) args s 0 0 (tw_F G)) (F0 m 67 ls [])
    | .inr (.inr (.inl ((x3, x5, x6, h)))) => ∀ (H : Heap) (locs : List Loc) (ls : Array Slot), tm_rg x3 → tm_rg x5 → tm_rg x6 → tw_Rel G sz h H → tw_L G locs → lv_has ls 7 [(0, .ref this), (1, .int (tw_I a1)), (2, .int (tw_I a2)), (3, .int (tw_I x3)), (5, .int (tw_I x5)), (6, .int (tw_I x6))] → W p l e rmX9_canBe s m args below meth c H locs 0 0 (MQ below (tw_Qi G sz out.1 out.2) args s 0 0 (tw_F G)) (F0 m 94 ls [])
    | .inr (.inr (.inr ((x3, x5, x6, s0, h)))) => ∀ (H : Heap) (locs : List Loc) (ls : Array Slot), tm_rg x3 → tm_rg x5 → tm_rg x6 → tm_rg s0 → tw_Rel G sz h H → tw_L G locs → lv_has ls 7 [(0, .ref this), (1, .int (tw_I a1)), (2, .int (tw_I a2)), (3, .int (tw_I x3)), (5, .int (tw_I x5)), (6, .int (tw_I x6))] → W p l e rmX9_canBe s m args below meth c H locs 0 0 (MQ below (tw_Qi G sz out.1 out.2) args s 0 0 (tw_F G)) (F0 m 95 ls [.int (tw_I s0)]) := by
  intro k
  induction k with
  | zero =>
    intro st out hk
    exact absurd hk (by unfold tm_wit; exact fun z => by cases z)
  | succ k ih =>
    intro st out hk
    obtain ⟨X, hk, hf⟩ := tm_wit_succ hk
    obtain ⟨x3, x4, x5, h⟩ | ⟨x3, x4, x5, x6, h⟩ | ⟨x3, x5, x6, h⟩ | ⟨x3, x5, x6, s0, h⟩ := st
    · intro H locs ls gx3 gx4 gx5 hR hL hl
      dsimp only [fX9_canBe_S0] at hk
      refine lv_iload hC.1 hC.2.1 dX9_canBe_51 (lv_at hl 5 rfl) ?_
      refine lv_aload_n hC.1 hC.2.1 dX9_canBe_53 rfl (lv_at hl 0 rfl) ?_
      refine tw_getR hC hR hk flX9_7 dX9_canBe_54 (fun r8 hk => ?_)
      refine lv_sipush (v := tw_I 307) hC.1 hC.2.1 dX9_canBe_57 (by decide) ?_
      refine tw_iald hC hR hk dX9_canBe_60 (fun v9 gv9 hk => ?_)
      refine tw_cge (tgt := 109) hC hk gx5 gv9 dX9_canBe_61 (by decide) (fun _ hk => ?_) (fun _ hk => ?_)
      · refine lv_iconst (v := tw_I 0) hC.1 hC.2.1 dX9_canBe_64 rfl ?_
        refine lv_istore (lv' := [(6, .int (tw_I 0)), (0, .ref this), (1, .int (tw_I a1)), (2, .int (tw_I a2)), (3, .int (tw_I x3)), (4, .int (tw_I x4)), (5, .int (tw_I x5))]) hC.1 hC.2.1 dX9_canBe_65 hl (by decide) rfl (fun ls hl => ?_)
        cases hk
        exact ih _ out hf H locs _ gx3 gx4 gx5 ((tw_rgL rfl)) hR hL (lv_sub hl [1, 2, 3, 4, 5, 6, 0] rfl)
      · refine lv_aload_n hC.1 hC.2.1 dX9_canBe_109 rfl (lv_at hl 0 rfl) ?_
        refine tw_getR hC hR hk flX9_7 dX9_canBe_110 (fun r10 hk => ?_)
        refine lv_iconst (v := tw_I 1) hC.1 hC.2.1 dX9_canBe_113 rfl ?_
        refine lv_iload_n hC.1 hC.2.1 dX9_canBe_114 rfl (lv_at hl 1 rfl) ?_
        refine tw_iadd hC dX9_canBe_115 ?_
        refine lv_iload_n hC.1 hC.2.1 dX9_canBe_116 rfl (lv_at hl 3 rfl) ?_
        refine tw_iast hC hR hL gx3 hk dX9_canBe_117 (fun h11 H locs hR hL hk => ?_)
        refine lv_iload hC.1 hC.2.1 dX9_canBe_118 (lv_at hl 4 rfl) ?_
        obtain ⟨z, hz, hk⟩ := Option.bind_eq_some_iff.mp hk
        cases hk
        cases hf
        exact tw_zret hC hR hL hz rfl dX9_canBe_120
    · intro H locs ls gx3 gx4 gx5 gx6 hR hL hl
      dsimp only [fX9_canBe_S0] at hk
      refine lv_iload hC.1 hC.2.1 dX9_canBe_67 (lv_at hl 6 rfl) ?_
      refine lv_iload hC.1 hC.2.1 dX9_canBe_69 (lv_at hl 5 rfl) ?_
      refine tw_cge (tgt := 103) hC hk gx6 gx5 dX9_canBe_71 (by decide) (fun _ hk => ?_) (fun _ hk => ?_)
      · refine lv_iload hC.1 hC.2.1 dX9_canBe_74 (lv_at hl 4 rfl) ?_
        refine tw_zeq (tgt := 94) hC hk gx4 dX9_canBe_76 (by decide) (fun _ hk => ?_) (fun _ hk => ?_)
        · cases hk
          exact ih _ out hf H locs _ gx3 gx5 gx6 hR hL (lv_sub hl [0, 1, 2, 3, 5, 6] rfl)
        · refine lv_aload_n hC.1 hC.2.1 dX9_canBe_79 rfl (lv_at hl 0 rfl) ?_
          refine lv_iload hC.1 hC.2.1 dX9_canBe_80 (lv_at hl 5 rfl) ?_
          refine lv_iload hC.1 hC.2.1 dX9_canBe_82 (lv_at hl 6 rfl) ?_
          refine kX9_areAlike hC hR hL hk gx5 gx6 mlX9_74 ⟨by decide, by decide⟩ hl.1 (Nat.le_of_ble_eq_true rfl) ⟨Nat.zero_le _, Nat.zero_le _⟩ dX9_canBe_84 (fun v12 H locs hR hL gv12 hk => ?_)
          refine tw_zne (tgt := 94) hC hk gv12 dX9_canBe_87 (by decide) (fun _ hk => ?_) (fun _ hk => ?_)
          · refine lv_iconst (v := tw_I 1) hC.1 hC.2.1 dX9_canBe_90 rfl ?_
            refine lv_goto (tgt := 95) hC.1 hC.2.1 dX9_canBe_91 (by decide) ?_
            cases hk
            exact ih _ out hf H locs _ gx3 gx5 gx6 ((tw_rgL rfl)) hR hL (lv_sub hl [0, 1, 2, 3, 5, 6] rfl)
          · cases hk
            exact ih _ out hf H locs _ gx3 gx5 gx6 hR hL (lv_sub hl [0, 1, 2, 3, 5, 6] rfl)
      · refine tw_iinc (lv' := [(5, .int (tw_I (tm_wr (x5 + 1)))), (0, .ref this), (1, .int (tw_I a1)), (2, .int (tw_I a2)), (3, .int (tw_I x3)), (4, .int (tw_I x4)), (6, .int (tw_I x6))]) hC dX9_canBe_103 hl (k := 5) rfl (by decide) rfl (fun ls hl => ?_)
        refine lv_goto (tgt := 51) hC.1 hC.2.1 dX9_canBe_106 (by decide) ?_
        cases hk
        exact ih _ out hf H locs _ gx3 gx4 ((tm_wr_rg _)) hR hL (lv_sub hl [1, 2, 3, 4, 5, 0] rfl)
    · intro H locs ls gx3 gx5 gx6 hR hL hl
      dsimp only [fX9_canBe_S0] at hk
      refine lv_iconst (v := tw_I 0) hC.1 hC.2.1 dX9_canBe_94 rfl ?_
      cases hk
      exact ih _ out hf H locs _ gx3 gx5 gx6 ((tw_rgL rfl)) hR hL (lv_sub hl [0, 1, 2, 3, 4, 5] rfl)
    · intro H locs ls gx3 gx5 gx6 gs0 hR hL hl
      dsimp only [fX9_canBe_S0] at hk
      refine lv_istore (lv' := [(4, .int (tw_I s0)), (0, .ref this), (1, .int (tw_I a1)), (2, .int (tw_I a2)), (3, .int (tw_I x3)), (5, .int (tw_I x5)), (6, .int (tw_I x6))]) hC.1 hC.2.1 dX9_canBe_95 hl (by decide) rfl (fun ls hl => ?_)
      refine tw_iinc (lv' := [(6, .int (tw_I (tm_wr (x6 + 1)))), (4, .int (tw_I s0)), (0, .ref this), (1, .int (tw_I a1)), (2, .int (tw_I a2)), (3, .int (tw_I x3)), (5, .int (tw_I x5))]) hC dX9_canBe_97 hl (k := 6) rfl (by decide) rfl (fun ls hl => ?_)
      refine lv_goto (tgt := 67) hC.1 hC.2.1 dX9_canBe_100 (by decide) ?_
      cases hk
      exact ih _ out hf H locs _ gx3 gs0 gx5 ((tm_wr_rg _)) hR hL (lv_sub hl [2, 3, 4, 5, 1, 6, 0] rfl)
theorem sX9_canBe_L51 {l : Launch} {p : Program} {e : Env} {s : State} {m : MethodId} {args : Array Value} {below : List Frame} {meth : Method} {c : Code} (G : tw_G) (sz : Nat) (hC : tw_C G p s m args meth c RX9 cX9_canBe 7 (some .boolean)) (this : Nat) (a1 : Int) (a2 : Int) (ga1 : tm_rg a1) (ga2 : tm_rg a2) (x3 : Int) (x4 : Int) (x5 : Int) (h : tm_H) (gx3 : tm_rg x3) (gx4 : tm_rg x4) (gx5 : tm_rg x5) (out : Int × tm_H) (hk : fX9_canBe_L51 this a1 a2 x3 x4 x5 h = some out) (H : Heap) (locs : List Loc) (ls : Array Slot) (hR : tw_Rel G sz h H) (hL : tw_L G locs) (hl : lv_has ls 7 [(0, .ref this), (1, .int (tw_I a1)), (2, .int (tw_I a2)), (3, .int (tw_I x3)), (4, .int (tw_I x4)), (5, .int (tw_I x5))]) : W p l e rmX9_canBe s m args below meth c H locs 0 0 (MQ below (tw_Qi G sz out.1 out.2) args s 0 0 (tw_F G)) (F0 m 51 ls []) := by
  obtain ⟨k, hk⟩ := tm_wl_iff.mp hk
  exact sX9_canBe_S0 G sz hC this a1 a2 ga1 ga2 k (.inl ((x3, x4, x5, h))) out hk H locs ls gx3 gx4 gx5 hR hL hl
theorem sX9_canBe_L67 {l : Launch} {p : Program} {e : Env} {s : State} {m : MethodId} {args : Array Value} {below : List Frame} {meth : Method} {c : Code} (G : tw_G) (sz : Nat) (hC : tw_C G p s m args meth c RX9 cX9_canBe 7 (some .boolean)) (this : Nat) (a1 : Int) (a2 : Int) (ga1 : tm_rg a1) (ga2 : tm_rg a2) (x3 : Int) (x4 : Int) (x5 : Int) (x6 : Int) (h : tm_H) (gx3 : tm_rg x3) (gx4 : tm_rg x4) (gx5 : tm_rg x5) (gx6 : tm_rg x6) (out : Int × tm_H) (hk : fX9_canBe_L67 this a1 a2 x3 x4 x5 x6 h = some out) (H : Heap) (locs : List Loc) (ls : Array Slot) (hR : tw_Rel G sz h H) (hL : tw_L G locs) (hl : lv_has ls 7 [(0, .ref this), (1, .int (tw_I a1)), (2, .int (tw_I a2)), (3, .int (tw_I x3)), (4, .int (tw_I x4)), (5, .int (tw_I x5)), (6, .int (tw_I x6))]) : W p l e rmX9_canBe s m args below meth c H locs 0 0 (MQ below (tw_Qi G sz out.1 out.2) args s 0 0 (tw_F G)) (F0 m 67 ls []) := by
  obtain ⟨k, hk⟩ := tm_wl_iff.mp hk
  exact sX9_canBe_S0 G sz hC this a1 a2 ga1 ga2 k (.inr (.inl ((x3, x4, x5, x6, h)))) out hk H locs ls gx3 gx4 gx5 gx6 hR hL hl
theorem sX9_canBe_L94 {l : Launch} {p : Program} {e : Env} {s : State} {m : MethodId} {args : Array Value} {below : List Frame} {meth : Method} {c : Code} (G : tw_G) (sz : Nat) (hC : tw_C G p s m args meth c RX9 cX9_canBe 7 (some .boolean)) (this : Nat) (a1 : Int) (a2 : Int) (ga1 : tm_rg a1) (ga2 : tm_rg a2) (x3 : Int) (x5 : Int) (x6 : Int) (h : tm_H) (gx3 : tm_rg x3) (gx5 : tm_rg x5) (gx6 : tm_rg x6) (out : Int × tm_H) (hk : fX9_canBe_L94 this a1 a2 x3 x5 x6 h = some out) (H : Heap) (locs : List Loc) (ls : Array Slot) (hR : tw_Rel G sz h H) (hL : tw_L G locs) (hl : lv_has ls 7 [(0, .ref this), (1, .int (tw_I a1)), (2, .int (tw_I a2)), (3, .int (tw_I x3)), (5, .int (tw_I x5)), (6, .int (tw_I x6))]) : W p l e rmX9_canBe s m args below meth c H locs 0 0 (MQ below (tw_Qi G sz out.1 out.2) args s 0 0 (tw_F G)) (F0 m 94 ls []) := by
  obtain ⟨k, hk⟩ := tm_wl_iff.mp hk
  exact sX9_canBe_S0 G sz hC this a1 a2 ga1 ga2 k (.inr (.inr (.inl ((x3, x5, x6, h))))) out hk H locs ls gx3 gx5 gx6 hR hL hl
theorem sX9_canBe_L95 {l : Launch} {p : Program} {e : Env} {s : State} {m : MethodId} {args : Array Value} {below : List Frame} {meth : Method} {c : Code} (G : tw_G) (sz : Nat) (hC : tw_C G p s m args meth c RX9 cX9_canBe 7 (some .boolean)) (this : Nat) (a1 : Int) (a2 : Int) (ga1 : tm_rg a1) (ga2 : tm_rg a2) (x3 : Int) (x5 : Int) (x6 : Int) (s0 : Int) (h : tm_H) (gx3 : tm_rg x3) (gx5 : tm_rg x5) (gx6 : tm_rg x6) (gs0 : tm_rg s0) (out : Int × tm_H) (hk : fX9_canBe_L95 this a1 a2 x3 x5 x6 s0 h = some out) (H : Heap) (locs : List Loc) (ls : Array Slot) (hR : tw_Rel G sz h H) (hL : tw_L G locs) (hl : lv_has ls 7 [(0, .ref this), (1, .int (tw_I a1)), (2, .int (tw_I a2)), (3, .int (tw_I x3)), (5, .int (tw_I x5)), (6, .int (tw_I x6))]) : W p l e rmX9_canBe s m args below meth c H locs 0 0 (MQ below (tw_Qi G sz out.1 out.2) args s 0 0 (tw_F G)) (F0 m 95 ls [.int (tw_I s0)]) := by
  obtain ⟨k, hk⟩ := tm_wl_iff.mp hk
  exact sX9_canBe_S0 G sz hC this a1 a2 ga1 ga2 k (.inr (.inr (.inr ((x3, x5, x6, s0, h))))) out hk H locs ls gx3 gx5 gx6 gs0 hR hL hl
set_option maxRecDepth 100000 in
set_option maxHeartbeats 4000000 in
theorem sX9_canBe_L27 {l : Launch} {p : Program} {e : Env} {s : State} {m : MethodId} {args : Array Value} {below : List Frame} {meth : Method} {c : Code} (G : tw_G) (sz : Nat) (hC : tw_C G p s m args meth c RX9 cX9_canBe 7 (some .boolean)) (this : Nat) (a1 : Int) (a2 : Int) (ga1 : tm_rg a1) (ga2 : tm_rg a2)  (h : tm_H)  (out : Int × tm_H) (hk : fX9_canBe_L27 this a1 a2 h = some out) (H : Heap) (locs : List Loc) (ls : Array Slot) (hR : tw_Rel G sz h H) (hL : tw_L G locs) (hl : lv_has ls 7 [(0, .ref this), (1, .int (tw_I a1)), (2, .int (tw_I a2))]) : W p l e rmX9_canBe s m args below meth c H locs 0 0 (MQ below (tw_Qi G sz out.1 out.2) args s 0 0 (tw_F G)) (F0 m 27 ls []) := by
  unfold fX9_canBe_L27 at hk
  refine lv_aload_n hC.1 hC.2.1 dX9_canBe_27 rfl (lv_at hl 0 rfl) ?_
  refine tw_getR hC hR hk flX9_7 dX9_canBe_28 (fun r4 hk => ?_)
  refine lv_iconst (v := tw_I 1) hC.1 hC.2.1 dX9_canBe_31 rfl ?_
  refine lv_iload_n hC.1 hC.2.1 dX9_canBe_32 rfl (lv_at hl 1 rfl) ?_
  refine tw_iadd hC dX9_canBe_33 ?_
  refine tw_iald hC hR hk dX9_canBe_34 (fun v5 gv5 hk => ?_)
  refine lv_istore_n (lv' := [(3, .int (tw_I v5)), (0, .ref this), (1, .int (tw_I a1)), (2, .int (tw_I a2))]) hC.1 hC.2.1 dX9_canBe_35 rfl hl (by decide) rfl (fun ls hl => ?_)
  refine lv_aload_n hC.1 hC.2.1 dX9_canBe_36 rfl (lv_at hl 1 rfl) ?_
  refine tw_getR hC hR hk flX9_7 dX9_canBe_37 (fun r6 hk => ?_)
  refine lv_iconst (v := tw_I 1) hC.1 hC.2.1 dX9_canBe_40 rfl ?_
  refine lv_iload_n hC.1 hC.2.1 dX9_canBe_41 rfl (lv_at hl 2 rfl) ?_
  refine tw_iadd hC dX9_canBe_42 ?_
  refine lv_iload_n hC.1 hC.2.1 dX9_canBe_43 rfl (lv_at hl 3 rfl) ?_
  refine tw_iast hC hR hL ga2 hk dX9_canBe_44 (fun h7 H locs hR hL hk => ?_)
  refine lv_iconst (v := tw_I 1) hC.1 hC.2.1 dX9_canBe_45 rfl ?_
  refine lv_istore (lv' := [(4, .int (tw_I 1)), (3, .int (tw_I v5)), (0, .ref this), (1, .int (tw_I a1)), (2, .int (tw_I a2))]) hC.1 hC.2.1 dX9_canBe_46 hl (by decide) rfl (fun ls hl => ?_)
  refine lv_iconst (v := tw_I 0) hC.1 hC.2.1 dX9_canBe_48 rfl ?_
  refine lv_istore (lv' := [(5, .int (tw_I 0)), (4, .int (tw_I 1)), (3, .int (tw_I v5)), (0, .ref this), (1, .int (tw_I a1)), (2, .int (tw_I a2))]) hC.1 hC.2.1 dX9_canBe_49 hl (by decide) rfl (fun ls hl => ?_)
  exact sX9_canBe_L51 G sz hC this a1 a2 ga1 ga2 v5 1 0 h7 gv5 ((tw_rgL rfl)) ((tw_rgL rfl)) out hk H locs _ hR hL (lv_sub hl [3, 4, 5, 2, 1, 0] rfl)
set_option maxRecDepth 100000 in
set_option maxHeartbeats 4000000 in
theorem cX9_canBe_ok (l : Launch) (G : tw_G) (sz : Nat) (this : Nat) (a1 : Int) (a2 : Int) (ga1 : tm_rg a1) (ga2 : tm_rg a2) (h : tm_H) (out : Int × tm_H) (hk : fX9_canBe this a1 a2 h = some out) : Met l yX9_canBe (tw_WS yX9_canBe cX9_canBe 7 (some .boolean)) rmX9_canBe (va_Pc [.ref this, .int (tw_I a1), .int (tw_I a2)] (tw_Pre G sz h)) (tw_Qi G sz out.1 out.2) 0 0 (tw_F G) := by
  refine tw_met (by decide +kernel) (Nat.le_of_ble_eq_true rfl) ?_
  intro p e s m args below meth c H ls hC hnm hR hl
  unfold fX9_canBe at hk
  obtain ⟨hob, hk⟩ := tm_th_is hk
  have hl : lv_has ls 7 [(0, .ref this), (1, .int (tw_I a1)), (2, .int (tw_I a2))] := hl
  have hL : tw_L G [] := fun q z => by cases z
  generalize hlc : ([] : List Loc) = locs at hL ⊢
  refine lv_iload_n hC.1 hC.2.1 dX9_canBe_0 rfl (lv_at hl 2 rfl) ?_
  refine lv_iload_n hC.1 hC.2.1 dX9_canBe_1 rfl (lv_at hl 1 rfl) ?_
  refine tw_ceq (tgt := 27) hC hk ga2 ga1 dX9_canBe_2 (by decide) (fun _ hk => ?_) (fun _ hk => ?_)
  · exact sX9_canBe_L27 G sz hC this a1 a2 ga1 ga2 h out hk H locs _ hR hL (lv_sub hl [0, 1, 2] rfl)
  · refine lv_aload_n hC.1 hC.2.1 dX9_canBe_5 rfl (lv_at hl 0 rfl) ?_
    refine tw_getR hC hR hk flX9_7 dX9_canBe_6 (fun r1 hk => ?_)
    refine lv_iconst (v := tw_I 1) hC.1 hC.2.1 dX9_canBe_9 rfl ?_
    refine lv_iload_n hC.1 hC.2.1 dX9_canBe_10 rfl (lv_at hl 2 rfl) ?_
    refine tw_iadd hC dX9_canBe_11 ?_
    refine tw_iald hC hR hk dX9_canBe_12 (fun v2 gv2 hk => ?_)
    refine lv_iload_n hC.1 hC.2.1 dX9_canBe_13 rfl (lv_at hl 2 rfl) ?_
    refine tw_cne (tgt := 25) hC hk gv2 ga2 dX9_canBe_14 (by decide) (fun _ hk => ?_) (fun _ hk => ?_)
    · refine lv_aload_n hC.1 hC.2.1 dX9_canBe_17 rfl (lv_at hl 0 rfl) ?_
      refine lv_iload_n hC.1 hC.2.1 dX9_canBe_18 rfl (lv_at hl 1 rfl) ?_
      refine kX9_hasForms hC hR hL hk ga1 mlX9_93 ⟨by decide, by decide⟩ hl.1 (Nat.le_of_ble_eq_true rfl) ⟨Nat.zero_le _, Nat.zero_le _⟩ dX9_canBe_19 (fun v3 H locs hR hL gv3 hk => ?_)
      refine tw_zeq (tgt := 27) hC hk gv3 dX9_canBe_22 (by decide) (fun _ hk => ?_) (fun _ hk => ?_)
      · exact sX9_canBe_L27 G sz hC this a1 a2 ga1 ga2 h out hk H locs _ hR hL (lv_sub hl [0, 1, 2] rfl)
      · refine lv_iconst (v := tw_I 0) hC.1 hC.2.1 dX9_canBe_25 rfl ?_
        cases hk
        exact tw_zret hC hR hL rfl rfl dX9_canBe_26
    · refine lv_iconst (v := tw_I 0) hC.1 hC.2.1 dX9_canBe_25 rfl ?_
      cases hk
      exact tw_zret hC hR hL rfl rfl dX9_canBe_26
set_option maxRecDepth 100000 in
theorem kX9_canBe {l : Launch} {p : Program} {e : Env} {R : Room} {s : State} {m : MethodId} {args : Array Value} {below : List Frame} {meth : Method} {c : Code} {H : Heap} {locs : List Loc} {cells slots : Nat} {Q : State → Prop} {cc : ByteArray} {pc nL idx : Nat} {ls : Array Slot} {rest : List Value} {G : tw_G} {h : tm_H} {own : String} {ret : Option FieldType} {α : Type} {x : α} {sz : Nat} {this : Nat} {a1 : Int} {a2 : Int} (hC : tw_C G p s m args meth c own cc nL ret) (hR : tw_Rel G sz h H) (hL : tw_L G locs) {F : Int × tm_H → Option α} (hk : (fX9_canBe this a1 a2 h).bind F = some x) (ga1 : tm_rg a1) (ga2 : tm_rg a2) (hl : tw_mL own idx yX9_canBe) (hRm : rmX9_canBe.frames + 1 ≤ R.frames ∧ 8 + (7 + 11) + rmX9_canBe.locals ≤ R.locals) (hsz : ls.size = nL) (hW : (rest.map fun v => v.category).sum ≤ 8) (hf : cells + 0 ≤ R.cells ∧ slots + 0 ≤ R.slots) (hdg : decode cc pc = .ok (.invokevirtual idx, 3)) (kk : ∀ (r : Int) (h1 : tm_H) (H1 : Heap) (locs1 : List Loc), tw_Rel G sz h1 H1 → tw_L G locs1 → tm_rg r → F (r, h1) = some x → W p l e R s m args below meth c H1 locs1 (cells + 0) (slots + 0) Q (F0 m (pc + 3) ls (.int (tw_I r) :: rest))) : W p l e R s m args below meth c H locs cells slots Q (F0 m pc ls (.int (tw_I a2) :: .int (tw_I a1) :: .ref this :: rest)) := by
  obtain ⟨r, hr, hF⟩ := Option.bind_eq_some_iff.mp hk
  have ob : ∀ r, fX9_canBe this a1 a2 h = some r → tm_is h 9 this := fun r hr => by
    unfold fX9_canBe at hr
    exact (tm_th_is hr).1
  exact tw_backi (tw_runV hC hR (cX9_canBe_ok l G sz this a1 a2 ga1 ga2 h r hr) (n := 2) (As := [.int (tw_I a1), .int (tw_I a2)]) ⟨tw_in_TB 947 (by decide +kernel) rfl, tw_in_TB 62 (by decide +kernel) rfl, by decide +kernel⟩ (tw_in_TB 946 (by decide +kernel) rfl) (tw_in_TB 31 (by decide +kernel) rfl) hl ⟨rfl, rfl⟩ hRm (ob r hr) (T := TX9) (N := 15) rfl rfl hsz rfl hW hdg hf) hL (fun H1 locs1 a b g => kk r.1 r.2 H1 locs1 a b g hF)
def rmX9_setBase : Room := { frames := 3, cells := 0, slots := 0, locals := 72 }
set_option maxRecDepth 100000 in
set_option maxHeartbeats 4000000 in
theorem cX9_setBase_ok (l : Launch) (G : tw_G) (sz : Nat) (this : Nat) (a1 : Int) (a2 : Int) (ga1 : tm_rg a1) (ga2 : tm_rg a2) (h : tm_H) (out : Int × tm_H) (hk : fX9_setBase this a1 a2 h = some out) : Met l yX9_setBase (tw_WS yX9_setBase cX9_setBase 4 (some .int)) rmX9_setBase (va_Pc [.ref this, .int (tw_I a1), .int (tw_I a2)] (tw_Pre G sz h)) (tw_Qi G sz out.1 out.2) 0 0 (tw_F G) := by
  refine tw_met (by decide +kernel) (Nat.le_of_ble_eq_true rfl) ?_
  intro p e s m args below meth c H ls hC hnm hR hl
  unfold fX9_setBase at hk
  obtain ⟨hob, hk⟩ := tm_th_is hk
  have hl : lv_has ls 4 [(0, .ref this), (1, .int (tw_I a1)), (2, .int (tw_I a2))] := hl
  have hL : tw_L G [] := fun q z => by cases z
  generalize hlc : ([] : List Loc) = locs at hL ⊢
  refine lv_aload_n hC.1 hC.2.1 dX9_setBase_0 rfl (lv_at hl 0 rfl) ?_
  refine lv_iload_n hC.1 hC.2.1 dX9_setBase_1 rfl (lv_at hl 1 rfl) ?_
  refine kX9_isWord hC hR hL hk ga1 mlX9_61 ⟨by decide, by decide⟩ hl.1 (Nat.le_of_ble_eq_true rfl) ⟨Nat.zero_le _, Nat.zero_le _⟩ dX9_setBase_2 (fun v1 H locs hR hL gv1 hk => ?_)
  refine tw_zeq (tgt := 16) hC hk gv1 dX9_setBase_5 (by decide) (fun _ hk => ?_) (fun _ hk => ?_)
  · refine lv_iconst (v := tw_I (-1)) hC.1 hC.2.1 dX9_setBase_16 rfl ?_
    cases hk
    exact tw_iret hC hR hL ((tw_rgL rfl)) rfl rfl dX9_setBase_17
  · refine lv_aload_n hC.1 hC.2.1 dX9_setBase_8 rfl (lv_at hl 0 rfl) ?_
    refine lv_iload_n hC.1 hC.2.1 dX9_setBase_9 rfl (lv_at hl 2 rfl) ?_
    refine kX9_isWord hC hR hL hk ga2 mlX9_61 ⟨by decide, by decide⟩ hl.1 (Nat.le_of_ble_eq_true rfl) ⟨Nat.zero_le _, Nat.zero_le _⟩ dX9_setBase_10 (fun v2 H locs hR hL gv2 hk => ?_)
    refine tw_zne (tgt := 18) hC hk gv2 dX9_setBase_13 (by decide) (fun _ hk => ?_) (fun _ hk => ?_)
    · refine lv_iconst (v := tw_I (-1)) hC.1 hC.2.1 dX9_setBase_16 rfl ?_
      cases hk
      exact tw_iret hC hR hL ((tw_rgL rfl)) rfl rfl dX9_setBase_17
    · refine lv_aload_n hC.1 hC.2.1 dX9_setBase_18 rfl (lv_at hl 0 rfl) ?_
      refine lv_iload_n hC.1 hC.2.1 dX9_setBase_19 rfl (lv_at hl 1 rfl) ?_
      refine lv_iload_n hC.1 hC.2.1 dX9_setBase_20 rfl (lv_at hl 2 rfl) ?_
      refine kX9_canBe hC hR hL hk ga1 ga2 mlX9_96 ⟨by decide, by decide⟩ hl.1 (Nat.le_of_ble_eq_true rfl) ⟨Nat.zero_le _, Nat.zero_le _⟩ dX9_setBase_21 (fun v3 h3 H locs hR hL gv3 hk => ?_)
      refine tw_zne (tgt := 30) hC hk gv3 dX9_setBase_24 (by decide) (fun _ hk => ?_) (fun _ hk => ?_)
      · refine lv_bipush (v := tw_I (-2)) hC.1 hC.2.1 dX9_setBase_27 (by decide) ?_
        cases hk
        exact tw_iret hC hR hL ((tw_rgL rfl)) rfl rfl dX9_setBase_29
      · refine lv_aload_n hC.1 hC.2.1 dX9_setBase_30 rfl (lv_at hl 0 rfl) ?_
        refine lv_aload_n hC.1 hC.2.1 dX9_setBase_31 rfl (lv_at hl 0 rfl) ?_
        refine tw_getR hC hR hk flX9_7 dX9_setBase_32 (fun r4 hk => ?_)
        refine kX9_saves hC hR hL hk mlX9_64 ⟨by decide, by decide⟩ hl.1 (Nat.le_of_ble_eq_true rfl) ⟨Nat.zero_le _, Nat.zero_le _⟩ dX9_setBase_35 (fun h5 H locs hR hL hk => ?_)
        refine lv_aload_n hC.1 hC.2.1 dX9_setBase_38 rfl (lv_at hl 0 rfl) ?_
        refine tw_getR hC hR hk flX9_7 dX9_setBase_39 (fun r6 hk => ?_)
        refine lv_iconst (v := tw_I 1) hC.1 hC.2.1 dX9_setBase_42 rfl ?_
        refine lv_iload_n hC.1 hC.2.1 dX9_setBase_43 rfl (lv_at hl 1 rfl) ?_
        refine tw_iadd hC dX9_setBase_44 ?_
        refine tw_iald hC hR hk dX9_setBase_45 (fun v7 gv7 hk => ?_)
        refine lv_istore_n (lv' := [(3, .int (tw_I v7)), (0, .ref this), (1, .int (tw_I a1)), (2, .int (tw_I a2))]) hC.1 hC.2.1 dX9_setBase_46 rfl hl (by decide) rfl (fun ls hl => ?_)
        refine lv_aload_n hC.1 hC.2.1 dX9_setBase_47 rfl (lv_at hl 1 rfl) ?_
        refine tw_getR hC hR hk flX9_7 dX9_setBase_48 (fun r8 hk => ?_)
        refine lv_iconst (v := tw_I 1) hC.1 hC.2.1 dX9_setBase_51 rfl ?_
        refine lv_iload_n hC.1 hC.2.1 dX9_setBase_52 rfl (lv_at hl 2 rfl) ?_
        refine tw_iadd hC dX9_setBase_53 ?_
        refine lv_iload_n hC.1 hC.2.1 dX9_setBase_54 rfl (lv_at hl 3 rfl) ?_
        refine tw_iast hC hR hL ga2 hk dX9_setBase_55 (fun h9 H locs hR hL hk => ?_)
        refine lv_iload_n hC.1 hC.2.1 dX9_setBase_56 rfl (lv_at hl 0 rfl) ?_
        cases hk
        exact tw_iret hC hR hL gv7 rfl rfl dX9_setBase_57
set_option maxRecDepth 100000 in
theorem kX9_setBase {l : Launch} {p : Program} {e : Env} {R : Room} {s : State} {m : MethodId} {args : Array Value} {below : List Frame} {meth : Method} {c : Code} {H : Heap} {locs : List Loc} {cells slots : Nat} {Q : State → Prop} {cc : ByteArray} {pc nL idx : Nat} {ls : Array Slot} {rest : List Value} {G : tw_G} {h : tm_H} {own : String} {ret : Option FieldType} {α : Type} {x : α} {sz : Nat} {this : Nat} {a1 : Int} {a2 : Int} (hC : tw_C G p s m args meth c own cc nL ret) (hR : tw_Rel G sz h H) (hL : tw_L G locs) {F : Int × tm_H → Option α} (hk : (fX9_setBase this a1 a2 h).bind F = some x) (ga1 : tm_rg a1) (ga2 : tm_rg a2) (hl : tw_mL own idx yX9_setBase) (hRm : rmX9_setBase.frames + 1 ≤ R.frames ∧ 8 + (4 + 11) + rmX9_setBase.locals ≤ R.locals) (hsz : ls.size = nL) (hW : (rest.map fun v => v.category).sum ≤ 8) (hf : cells + 0 ≤ R.cells ∧ slots + 0 ≤ R.slots) (hdg : decode cc pc = .ok (.invokevirtual idx, 3)) (kk : ∀ (r : Int) (h1 : tm_H) (H1 : Heap) (locs1 : List Loc), tw_Rel G sz h1 H1 → tw_L G locs1 → tm_rg r → F (r, h1) = some x → W p l e R s m args below meth c H1 locs1 (cells + 0) (slots + 0) Q (F0 m (pc + 3) ls (.int (tw_I r) :: rest))) : W p l e R s m args below meth c H locs cells slots Q (F0 m pc ls (.int (tw_I a2) :: .int (tw_I a1) :: .ref this :: rest)) := by
  obtain ⟨r, hr, hF⟩ := Option.bind_eq_some_iff.mp hk
  have ob : ∀ r, fX9_setBase this a1 a2 h = some r → tm_is h 9 this := fun r hr => by
    unfold fX9_setBase at hr
    exact (tm_th_is hr).1
  exact tw_backi (tw_runV hC hR (cX9_setBase_ok l G sz this a1 a2 ga1 ga2 h r hr) (n := 2) (As := [.int (tw_I a1), .int (tw_I a2)]) ⟨tw_in_TB 943 (by decide +kernel) rfl, tw_in_TB 62 (by decide +kernel) rfl, by decide +kernel⟩ (tw_in_TB 941 (by decide +kernel) rfl) (tw_in_TB 942 (by decide +kernel) rfl) hl ⟨rfl, rfl⟩ hRm (ob r hr) (T := TX9) (N := 15) rfl rfl hsz rfl hW hdg hf) hL (fun H1 locs1 a b g => kk r.1 r.2 H1 locs1 a b g hF)
