def rmL_isGain : Room := { frames := 8, cells := 0, slots := 0, locals := 186 }
set_option maxRecDepth 100000 in
set_option maxHeartbeats 4000000 in
theorem sL_isGain_L140 {l : Launch} {p : Program} {e : Env} {s : State} {m : MethodId} {args : Array Value} {below : List Frame} {meth : Method} {c : Code} (G : tw_G) (sz : Nat) (hC : tw_C G p s m args meth c RL cL_isGain 12 (some .boolean)) (a1 : Nat) (a2 : Int) (ga2 : tm_rg a2) (s0 : Int) (s1 : Int) (h : tm_H) (gs0 : tm_rg s0) (gs1 : tm_rg s1) (out : Int × tm_H) (hk : fL_isGain_L140 a1 a2 s0 s1 h = some out) (H : Heap) (locs : List Loc) (ls : Array Slot) (hR : tw_Rel G sz h H) (hL : tw_L G locs) (hl : lv_has ls 12 [(0, .ref a1), (1, .int (tw_I a2))]) : W p l e rmL_isGain s m args below meth c H locs 0 0 (MQ below (tw_Qi G sz out.1 out.2) args s 0 0 (tw_F G)) (F0 m 140 ls [.int (tw_I s1), .int (tw_I s0)]) := by
  unfold fL_isGain_L140 at hk
  refine tw_cne (tgt := 147) hC hk gs0 gs1 dL_isGain_140 (by decide) (fun _ hk => ?_) (fun _ hk => ?_)
  · refine lv_iconst (v := tw_I 1) hC.1 hC.2.1 dL_isGain_143 rfl ?_
    refine lv_goto (tgt := 148) hC.1 hC.2.1 dL_isGain_144 (by decide) ?_
    cases hk
    exact tw_zret hC hR hL rfl rfl dL_isGain_148
  · refine lv_iconst (v := tw_I 0) hC.1 hC.2.1 dL_isGain_147 rfl ?_
    cases hk
    exact tw_zret hC hR hL rfl rfl dL_isGain_148
set_option maxRecDepth 100000 in
set_option maxHeartbeats 4000000 in
theorem sL_isGain_L128 {l : Launch} {p : Program} {e : Env} {s : State} {m : MethodId} {args : Array Value} {below : List Frame} {meth : Method} {c : Code} (G : tw_G) (sz : Nat) (hC : tw_C G p s m args meth c RL cL_isGain 12 (some .boolean)) (a1 : Nat) (a2 : Int) (ga2 : tm_rg a2) (x5 : Int) (s0 : Int) (h : tm_H) (gx5 : tm_rg x5) (gs0 : tm_rg s0) (out : Int × tm_H) (hk : fL_isGain_L128 a1 a2 x5 s0 h = some out) (H : Heap) (locs : List Loc) (ls : Array Slot) (hR : tw_Rel G sz h H) (hL : tw_L G locs) (hl : lv_has ls 12 [(0, .ref a1), (1, .int (tw_I a2)), (5, .int (tw_I x5))]) : W p l e rmL_isGain s m args below meth c H locs 0 0 (MQ below (tw_Qi G sz out.1 out.2) args s 0 0 (tw_F G)) (F0 m 128 ls [.int (tw_I s0)]) := by
  unfold fL_isGain_L128 at hk
  refine lv_iload hC.1 hC.2.1 dL_isGain_128 (lv_at hl 2 rfl) ?_
  refine lv_bipush (v := tw_I (-2)) hC.1 hC.2.1 dL_isGain_130 (by decide) ?_
  refine tw_cne (tgt := 139) hC hk gx5 ((tw_rgL rfl)) dL_isGain_132 (by decide) (fun _ hk => ?_) (fun _ hk => ?_)
  · refine lv_iconst (v := tw_I 1) hC.1 hC.2.1 dL_isGain_135 rfl ?_
    refine lv_goto (tgt := 140) hC.1 hC.2.1 dL_isGain_136 (by decide) ?_
    exact sL_isGain_L140 G sz hC a1 a2 ga2 s0 1 h gs0 ((tw_rgL rfl)) out hk H locs _ hR hL (lv_sub hl [0, 1] rfl)
  · refine lv_iconst (v := tw_I 0) hC.1 hC.2.1 dL_isGain_139 rfl ?_
    exact sL_isGain_L140 G sz hC a1 a2 ga2 s0 0 h gs0 ((tw_rgL rfl)) out hk H locs _ hR hL (lv_sub hl [0, 1] rfl)
set_option maxRecDepth 100000 in
set_option maxHeartbeats 4000000 in
theorem sL_isGain_L224 {l : Launch} {p : Program} {e : Env} {s : State} {m : MethodId} {args : Array Value} {below : List Frame} {meth : Method} {c : Code} (G : tw_G) (sz : Nat) (hC : tw_C G p s m args meth c RL cL_isGain 12 (some .boolean)) (a1 : Nat) (a2 : Int) (ga2 : tm_rg a2) (x7 : Int64) (s0 : Int) (s1 : Int) (h : tm_H) (gs0 : tm_rg s0) (gs1 : tm_rg s1) (out : Int × tm_H) (hk : fL_isGain_L224 a1 a2 x7 s0 s1 h = some out) (H : Heap) (locs : List Loc) (ls : Array Slot) (hR : tw_Rel G sz h H) (hL : tw_L G locs) (hl : lv_has ls 12 [(0, .ref a1), (1, .int (tw_I a2)), (7, .long x7)]) : W p l e rmL_isGain s m args below meth c H locs 0 0 (MQ below (tw_Qi G sz out.1 out.2) args s 0 0 (tw_F G)) (F0 m 224 ls [.int (tw_I s1), .int (tw_I s0)]) := by
  unfold fL_isGain_L224 at hk
  refine tw_cne (tgt := 241) hC hk gs0 gs1 dL_isGain_224 (by decide) (fun _ hk => ?_) (fun _ hk => ?_)
  · refine lv_aload_n hC.1 hC.2.1 dL_isGain_227 rfl (lv_at hl 0 rfl) ?_
    refine kL_print hC hR hL hk mlL_30 ⟨by decide, by decide⟩ hl.1 (Nat.le_of_ble_eq_true rfl) ⟨Nat.zero_le _, Nat.zero_le _⟩ dL_isGain_228 (fun v16 h16 H locs hR hL hk => ?_)
    refine lv_lload hC.1 hC.2.1 dL_isGain_231 (lv_at hl 2 rfl) ?_
    refine tw_lcmp hC dL_isGain_233 ?_
    refine tw_zne (tgt := 241) hC hk ((tm_lcmp_rg _ _)) dL_isGain_234 (by decide) (fun _ hk => ?_) (fun _ hk => ?_)
    · refine lv_iconst (v := tw_I 1) hC.1 hC.2.1 dL_isGain_237 rfl ?_
      refine lv_goto (tgt := 242) hC.1 hC.2.1 dL_isGain_238 (by decide) ?_
      cases hk
      exact tw_zret hC hR hL rfl rfl dL_isGain_242
    · refine lv_iconst (v := tw_I 0) hC.1 hC.2.1 dL_isGain_241 rfl ?_
      cases hk
      exact tw_zret hC hR hL rfl rfl dL_isGain_242
  · refine lv_iconst (v := tw_I 0) hC.1 hC.2.1 dL_isGain_241 rfl ?_
    cases hk
    exact tw_zret hC hR hL rfl rfl dL_isGain_242
set_option maxRecDepth 100000 in
set_option maxHeartbeats 4000000 in
theorem sL_isGain_L201 {l : Launch} {p : Program} {e : Env} {s : State} {m : MethodId} {args : Array Value} {below : List Frame} {meth : Method} {c : Code} (G : tw_G) (sz : Nat) (hC : tw_C G p s m args meth c RL cL_isGain 12 (some .boolean)) (a1 : Nat) (a2 : Int) (ga2 : tm_rg a2) (x7 : Int64) (x9 : Int) (s0 : Int) (h : tm_H) (gx9 : tm_rg x9) (gs0 : tm_rg s0) (out : Int × tm_H) (hk : fL_isGain_L201 a1 a2 x7 x9 s0 h = some out) (H : Heap) (locs : List Loc) (ls : Array Slot) (hR : tw_Rel G sz h H) (hL : tw_L G locs) (hl : lv_has ls 12 [(0, .ref a1), (1, .int (tw_I a2)), (7, .long x7), (9, .int (tw_I x9))]) : W p l e rmL_isGain s m args below meth c H locs 0 0 (MQ below (tw_Qi G sz out.1 out.2) args s 0 0 (tw_F G)) (F0 m 201 ls [.int (tw_I s0)]) := by
  unfold fL_isGain_L201 at hk
  refine lv_istore (lv' := [(11, .int (tw_I s0)), (0, .ref a1), (1, .int (tw_I a2)), (7, .long x7), (9, .int (tw_I x9))]) hC.1 hC.2.1 dL_isGain_201 hl (by decide) rfl (fun ls hl => ?_)
  refine lv_iload hC.1 hC.2.1 dL_isGain_203 (lv_at hl 0 rfl) ?_
  refine tw_zeq (tgt := 241) hC hk gs0 dL_isGain_205 (by decide) (fun _ hk => ?_) (fun _ hk => ?_)
  · refine lv_iconst (v := tw_I 0) hC.1 hC.2.1 dL_isGain_241 rfl ?_
    cases hk
    exact tw_zret hC hR hL rfl rfl dL_isGain_242
  · refine lv_aload_n hC.1 hC.2.1 dL_isGain_208 rfl (lv_at hl 1 rfl) ?_
    refine kX8_undo hC hR hL hk mlL_99 ⟨by decide, by decide⟩ hl.1 (Nat.le_of_ble_eq_true rfl) ⟨Nat.zero_le _, Nat.zero_le _⟩ dL_isGain_209 (fun v15 h15 H locs hR hL gv15 hk => ?_)
    refine lv_iload hC.1 hC.2.1 dL_isGain_212 (lv_at hl 4 rfl) ?_
    refine lv_iconst (v := tw_I 5) hC.1 hC.2.1 dL_isGain_214 rfl ?_
    refine tw_cge (tgt := 223) hC hk gx9 ((tw_rgL rfl)) dL_isGain_215 (by decide) (fun _ hk => ?_) (fun _ hk => ?_)
    · refine lv_iload hC.1 hC.2.1 dL_isGain_218 (lv_at hl 4 rfl) ?_
      refine lv_goto (tgt := 224) hC.1 hC.2.1 dL_isGain_220 (by decide) ?_
      exact sL_isGain_L224 G sz hC a1 a2 ga2 x7 v15 x9 h15 gv15 gx9 out hk H locs _ hR hL (lv_sub hl [1, 2, 3] rfl)
    · refine lv_iconst (v := tw_I 4) hC.1 hC.2.1 dL_isGain_223 rfl ?_
      exact sL_isGain_L224 G sz hC a1 a2 ga2 x7 v15 4 h15 gv15 ((tw_rgL rfl)) out hk H locs _ hR hL (lv_sub hl [1, 2, 3] rfl)
set_option maxRecDepth 100000 in
set_option maxHeartbeats 4000000 in
theorem sL_isGain_L200 {l : Launch} {p : Program} {e : Env} {s : State} {m : MethodId} {args : Array Value} {below : List Frame} {meth : Method} {c : Code} (G : tw_G) (sz : Nat) (hC : tw_C G p s m args meth c RL cL_isGain 12 (some .boolean)) (a1 : Nat) (a2 : Int) (ga2 : tm_rg a2) (x7 : Int64) (x9 : Int) (h : tm_H) (gx9 : tm_rg x9) (out : Int × tm_H) (hk : fL_isGain_L200 a1 a2 x7 x9 h = some out) (H : Heap) (locs : List Loc) (ls : Array Slot) (hR : tw_Rel G sz h H) (hL : tw_L G locs) (hl : lv_has ls 12 [(0, .ref a1), (1, .int (tw_I a2)), (7, .long x7), (9, .int (tw_I x9))]) : W p l e rmL_isGain s m args below meth c H locs 0 0 (MQ below (tw_Qi G sz out.1 out.2) args s 0 0 (tw_F G)) (F0 m 200 ls []) := by
  unfold fL_isGain_L200 at hk
  refine lv_iconst (v := tw_I 0) hC.1 hC.2.1 dL_isGain_200 rfl ?_
  exact sL_isGain_L201 G sz hC a1 a2 ga2 x7 x9 0 h gx9 ((tw_rgL rfl)) out hk H locs _ hR hL (lv_sub hl [0, 1, 2, 3] rfl)
set_option maxRecDepth 100000 in
set_option maxHeartbeats 4000000 in
theorem sL_isGain_L56 {l : Launch} {p : Program} {e : Env} {s : State} {m : MethodId} {args : Array Value} {below : List Frame} {meth : Method} {c : Code} (G : tw_G) (sz : Nat) (hC : tw_C G p s m args meth c RL cL_isGain 12 (some .boolean)) (a1 : Nat) (a2 : Int) (ga2 : tm_rg a2) (x2 : Int) (x3 : Int) (s0 : Int) (h : tm_H) (gx2 : tm_rg x2) (gx3 : tm_rg x3) (gs0 : tm_rg s0) (out : Int × tm_H) (hk : fL_isGain_L56 a1 a2 x2 x3 s0 h = some out) (H : Heap) (locs : List Loc) (ls : Array Slot) (hR : tw_Rel G sz h H) (hL : tw_L G locs) (hl : lv_has ls 12 [(0, .ref a1), (1, .int (tw_I a2)), (2, .int (tw_I x2)), (3, .int (tw_I x3))]) : W p l e rmL_isGain s m args below meth c H locs 0 0 (MQ below (tw_Qi G sz out.1 out.2) args s 0 0 (tw_F G)) (F0 m 56 ls [.int (tw_I s0)]) := by
  unfold fL_isGain_L56 at hk
  refine lv_istore (lv' := [(4, .int (tw_I s0)), (0, .ref a1), (1, .int (tw_I a2)), (2, .int (tw_I x2)), (3, .int (tw_I x3))]) hC.1 hC.2.1 dL_isGain_56 hl (by decide) rfl (fun ls hl => ?_)
  refine lv_aload_n hC.1 hC.2.1 dL_isGain_58 rfl (lv_at hl 1 rfl) ?_
  refine lv_iload_n hC.1 hC.2.1 dL_isGain_59 rfl (lv_at hl 3 rfl) ?_
  refine lv_iload_n hC.1 hC.2.1 dL_isGain_60 rfl (lv_at hl 4 rfl) ?_
  refine lv_iload hC.1 hC.2.1 dL_isGain_61 (lv_at hl 0 rfl) ?_
  refine lv_iconst (v := tw_I (-1)) hC.1 hC.2.1 dL_isGain_63 rfl ?_
  refine kX8_gain hC hR hL hk gx2 gx3 gs0 ((tw_rgL rfl)) mlL_85 ⟨by decide, by decide⟩ hl.1 (Nat.le_of_ble_eq_true rfl) ⟨Nat.zero_le _, Nat.zero_le _⟩ dL_isGain_64 (fun v6 h6 H locs hR hL gv6 hk => ?_)
  refine lv_istore (lv' := [(5, .int (tw_I v6)), (4, .int (tw_I s0)), (0, .ref a1), (1, .int (tw_I a2)), (2, .int (tw_I x2)), (3, .int (tw_I x3))]) hC.1 hC.2.1 dL_isGain_67 hl (by decide) rfl (fun ls hl => ?_)
  refine lv_aload_n hC.1 hC.2.1 dL_isGain_69 rfl (lv_at hl 2 rfl) ?_
  refine lv_iconst (v := tw_I 4) hC.1 hC.2.1 dL_isGain_70 rfl ?_
  refine kX8_count hC hR hL hk ((tw_rgL rfl)) mlL_13 ⟨by decide, by decide⟩ hl.1 (Nat.le_of_ble_eq_true rfl) ⟨Nat.zero_le _, Nat.zero_le _⟩ dL_isGain_71 (fun v7 h7 H locs hR hL gv7 hk => ?_)
  refine lv_istore (lv' := [(6, .int (tw_I v7)), (5, .int (tw_I v6)), (4, .int (tw_I s0)), (0, .ref a1), (1, .int (tw_I a2)), (2, .int (tw_I x2)), (3, .int (tw_I x3))]) hC.1 hC.2.1 dL_isGain_74 hl (by decide) rfl (fun ls hl => ?_)
  refine lv_aload_n hC.1 hC.2.1 dL_isGain_76 rfl (lv_at hl 3 rfl) ?_
  refine kL_print hC hR hL hk mlL_30 ⟨by decide, by decide⟩ hl.1 (Nat.le_of_ble_eq_true rfl) ⟨Nat.zero_le _, Nat.zero_le _⟩ dL_isGain_77 (fun v8 h8 H locs hR hL hk => ?_)
  refine lv_lstore (lv' := [(7, .long v8), (6, .int (tw_I v7)), (5, .int (tw_I v6)), (4, .int (tw_I s0)), (0, .ref a1), (1, .int (tw_I a2)), (2, .int (tw_I x2)), (3, .int (tw_I x3))]) hC.1 hC.2.1 dL_isGain_80 hl (by decide) rfl (fun ls hl => ?_)
  refine lv_aload_n hC.1 hC.2.1 dL_isGain_82 rfl (lv_at hl 4 rfl) ?_
  refine lv_bipush (v := tw_I 8) hC.1 hC.2.1 dL_isGain_83 (by decide) ?_
  refine kX8_count hC hR hL hk ((tw_rgL rfl)) mlL_13 ⟨by decide, by decide⟩ hl.1 (Nat.le_of_ble_eq_true rfl) ⟨Nat.zero_le _, Nat.zero_le _⟩ dL_isGain_85 (fun v9 h9 H locs hR hL gv9 hk => ?_)
  refine lv_istore (lv' := [(9, .int (tw_I v9)), (7, .long v8), (6, .int (tw_I v7)), (5, .int (tw_I v6)), (4, .int (tw_I s0)), (0, .ref a1), (1, .int (tw_I a2)), (2, .int (tw_I x2)), (3, .int (tw_I x3))]) hC.1 hC.2.1 dL_isGain_88 hl (by decide) rfl (fun ls hl => ?_)
  refine lv_aload_n hC.1 hC.2.1 dL_isGain_90 rfl (lv_at hl 5 rfl) ?_
  refine lv_iload_n hC.1 hC.2.1 dL_isGain_91 rfl (lv_at hl 7 rfl) ?_
  refine lv_iload_n hC.1 hC.2.1 dL_isGain_92 rfl (lv_at hl 8 rfl) ?_
  refine lv_iload hC.1 hC.2.1 dL_isGain_93 (lv_at hl 4 rfl) ?_
  refine lv_iconst (v := tw_I (-1)) hC.1 hC.2.1 dL_isGain_95 rfl ?_
  refine kX8_addTerm hC hR hL hk gx2 gx3 gs0 ((tw_rgL rfl)) mlL_48 ⟨by decide, by decide⟩ hl.1 (Nat.le_of_ble_eq_true rfl) ⟨Nat.zero_le _, Nat.zero_le _⟩ dL_isGain_96 (fun v10 h10 H locs hR hL gv10 hk => ?_)
  refine lv_istore (lv' := [(10, .int (tw_I v10)), (9, .int (tw_I v9)), (7, .long v8), (6, .int (tw_I v7)), (5, .int (tw_I v6)), (4, .int (tw_I s0)), (0, .ref a1), (1, .int (tw_I a2)), (2, .int (tw_I x2)), (3, .int (tw_I x3))]) hC.1 hC.2.1 dL_isGain_99 hl (by decide) rfl (fun ls hl => ?_)
  refine lv_iload hC.1 hC.2.1 dL_isGain_101 (lv_at hl 0 rfl) ?_
  refine tw_zge (tgt := 149) hC hk gv10 dL_isGain_103 (by decide) (fun _ hk => ?_) (fun _ hk => ?_)
  · refine lv_aload_n hC.1 hC.2.1 dL_isGain_106 rfl (lv_at hl 6 rfl) ?_
    refine kL_print hC hR hL hk mlL_30 ⟨by decide, by decide⟩ hl.1 (Nat.le_of_ble_eq_true rfl) ⟨Nat.zero_le _, Nat.zero_le _⟩ dL_isGain_107 (fun v11 h11 H locs hR hL hk => ?_)
    refine lv_lload hC.1 hC.2.1 dL_isGain_110 (lv_at hl 2 rfl) ?_
    refine tw_lcmp hC dL_isGain_112 ?_
    refine tw_zne (tgt := 147) hC hk ((tm_lcmp_rg _ _)) dL_isGain_113 (by decide) (fun _ hk => ?_) (fun _ hk => ?_)
    · refine lv_iload hC.1 hC.2.1 dL_isGain_116 (lv_at hl 0 rfl) ?_
      refine lv_bipush (v := tw_I (-2)) hC.1 hC.2.1 dL_isGain_118 (by decide) ?_
      refine tw_cne (tgt := 127) hC hk gv10 ((tw_rgL rfl)) dL_isGain_120 (by decide) (fun _ hk => ?_) (fun _ hk => ?_)
      · refine lv_iconst (v := tw_I 1) hC.1 hC.2.1 dL_isGain_123 rfl ?_
        refine lv_goto (tgt := 128) hC.1 hC.2.1 dL_isGain_124 (by decide) ?_
        exact sL_isGain_L128 G sz hC a1 a2 ga2 v6 1 h11 gv6 ((tw_rgL rfl)) out hk H locs _ hR hL (lv_sub hl [6, 7, 4] rfl)
      · refine lv_iconst (v := tw_I 0) hC.1 hC.2.1 dL_isGain_127 rfl ?_
        exact sL_isGain_L128 G sz hC a1 a2 ga2 v6 0 h11 gv6 ((tw_rgL rfl)) out hk H locs _ hR hL (lv_sub hl [6, 7, 4] rfl)
    · refine lv_iconst (v := tw_I 0) hC.1 hC.2.1 dL_isGain_147 rfl ?_
      cases hk
      exact tw_zret hC hR hL rfl rfl dL_isGain_148
  · refine lv_iload hC.1 hC.2.1 dL_isGain_149 (lv_at hl 4 rfl) ?_
    refine tw_zle (tgt := 200) hC hk gv6 dL_isGain_151 (by decide) (fun _ hk => ?_) (fun _ hk => ?_)
    · refine lv_aload_n hC.1 hC.2.1 dL_isGain_154 rfl (lv_at hl 6 rfl) ?_
      refine lv_iconst (v := tw_I 4) hC.1 hC.2.1 dL_isGain_155 rfl ?_
      refine kX8_count hC hR hL hk ((tw_rgL rfl)) mlL_13 ⟨by decide, by decide⟩ hl.1 (Nat.le_of_ble_eq_true rfl) ⟨Nat.zero_le _, Nat.zero_le _⟩ dL_isGain_156 (fun v12 h12 H locs hR hL gv12 hk => ?_)
      refine lv_iload hC.1 hC.2.1 dL_isGain_159 (lv_at hl 3 rfl) ?_
      refine tw_isub hC dL_isGain_161 ?_
      refine lv_bipush (v := tw_I 100) hC.1 hC.2.1 dL_isGain_162 (by decide) ?_
      refine tw_iadd hC dL_isGain_164 ?_
      refine lv_iload hC.1 hC.2.1 dL_isGain_165 (lv_at hl 4 rfl) ?_
      refine tw_cne (tgt := 200) hC hk ((tm_wr_rg _)) gv6 dL_isGain_167 (by decide) (fun _ hk => ?_) (fun _ hk => ?_)
      · refine lv_iload hC.1 hC.2.1 dL_isGain_170 (lv_at hl 0 rfl) ?_
        refine lv_aload_n hC.1 hC.2.1 dL_isGain_172 rfl (lv_at hl 6 rfl) ?_
        refine lv_iconst (v := tw_I 2) hC.1 hC.2.1 dL_isGain_173 rfl ?_
        refine kX8_count hC hR hL hk ((tw_rgL rfl)) mlL_13 ⟨by decide, by decide⟩ hl.1 (Nat.le_of_ble_eq_true rfl) ⟨Nat.zero_le _, Nat.zero_le _⟩ dL_isGain_174 (fun v13 h13 H locs hR hL gv13 hk => ?_)
        refine lv_iconst (v := tw_I 1) hC.1 hC.2.1 dL_isGain_177 rfl ?_
        refine tw_isub hC dL_isGain_178 ?_
        refine tw_cne (tgt := 200) hC hk gv10 ((tm_wr_rg _)) dL_isGain_179 (by decide) (fun _ hk => ?_) (fun _ hk => ?_)
        · refine lv_aload_n hC.1 hC.2.1 dL_isGain_182 rfl (lv_at hl 6 rfl) ?_
          refine lv_iload_n hC.1 hC.2.1 dL_isGain_183 rfl (lv_at hl 8 rfl) ?_
          refine lv_iload_n hC.1 hC.2.1 dL_isGain_184 rfl (lv_at hl 9 rfl) ?_
          refine lv_iload hC.1 hC.2.1 dL_isGain_185 (lv_at hl 5 rfl) ?_
          refine lv_iconst (v := tw_I (-1)) hC.1 hC.2.1 dL_isGain_187 rfl ?_
          refine kX8_gain hC hR hL hk gx2 gx3 gs0 ((tw_rgL rfl)) mlL_85 ⟨by decide, by decide⟩ hl.1 (Nat.le_of_ble_eq_true rfl) ⟨Nat.zero_le _, Nat.zero_le _⟩ dL_isGain_188 (fun v14 h14 H locs hR hL gv14 hk => ?_)
          refine lv_bipush (v := tw_I (-2)) hC.1 hC.2.1 dL_isGain_191 (by decide) ?_
          refine tw_cne (tgt := 200) hC hk gv14 ((tw_rgL rfl)) dL_isGain_193 (by decide) (fun _ hk => ?_) (fun _ hk => ?_)
          · refine lv_iconst (v := tw_I 1) hC.1 hC.2.1 dL_isGain_196 rfl ?_
            refine lv_goto (tgt := 201) hC.1 hC.2.1 dL_isGain_197 (by decide) ?_
            exact sL_isGain_L201 G sz hC a1 a2 ga2 v8 v9 1 h14 gv9 ((tw_rgL rfl)) out hk H locs _ hR hL (lv_sub hl [6, 7, 2, 1] rfl)
          · exact sL_isGain_L200 G sz hC a1 a2 ga2 v8 v9 h14 gv9 out hk H locs _ hR hL (lv_sub hl [6, 7, 2, 1] rfl)
        · exact sL_isGain_L200 G sz hC a1 a2 ga2 v8 v9 h13 gv9 out hk H locs _ hR hL (lv_sub hl [6, 7, 2, 1] rfl)
      · exact sL_isGain_L200 G sz hC a1 a2 ga2 v8 v9 h12 gv9 out hk H locs _ hR hL (lv_sub hl [6, 7, 2, 1] rfl)
    · exact sL_isGain_L200 G sz hC a1 a2 ga2 v8 v9 h10 gv9 out hk H locs _ hR hL (lv_sub hl [6, 7, 2, 1] rfl)
set_option maxRecDepth 100000 in
set_option maxHeartbeats 4000000 in
theorem sL_isGain_L44 {l : Launch} {p : Program} {e : Env} {s : State} {m : MethodId} {args : Array Value} {below : List Frame} {meth : Method} {c : Code} (G : tw_G) (sz : Nat) (hC : tw_C G p s m args meth c RL cL_isGain 12 (some .boolean)) (a1 : Nat) (a2 : Int) (ga2 : tm_rg a2) (x2 : Int) (x3 : Int) (h : tm_H) (gx2 : tm_rg x2) (gx3 : tm_rg x3) (out : Int × tm_H) (hk : fL_isGain_L44 a1 a2 x2 x3 h = some out) (H : Heap) (locs : List Loc) (ls : Array Slot) (hR : tw_Rel G sz h H) (hL : tw_L G locs) (hl : lv_has ls 12 [(0, .ref a1), (1, .int (tw_I a2)), (2, .int (tw_I x2)), (3, .int (tw_I x3))]) : W p l e rmL_isGain s m args below meth c H locs 0 0 (MQ below (tw_Qi G sz out.1 out.2) args s 0 0 (tw_F G)) (F0 m 44 ls []) := by
  unfold fL_isGain_L44 at hk
  refine lv_iconst (v := tw_I (-1)) hC.1 hC.2.1 dL_isGain_44 rfl ?_
  refine lv_goto (tgt := 56) hC.1 hC.2.1 dL_isGain_45 (by decide) ?_
  exact sL_isGain_L56 G sz hC a1 a2 ga2 x2 x3 ((-1)) h gx2 gx3 ((tw_rgL rfl)) out hk H locs _ hR hL (lv_sub hl [0, 1, 2, 3] rfl)
set_option maxRecDepth 100000 in
set_option maxHeartbeats 4000000 in
theorem sL_isGain_L28 {l : Launch} {p : Program} {e : Env} {s : State} {m : MethodId} {args : Array Value} {below : List Frame} {meth : Method} {c : Code} (G : tw_G) (sz : Nat) (hC : tw_C G p s m args meth c RL cL_isGain 12 (some .boolean)) (a1 : Nat) (a2 : Int) (ga2 : tm_rg a2) (x2 : Int) (s0 : Int) (h : tm_H) (gx2 : tm_rg x2) (gs0 : tm_rg s0) (out : Int × tm_H) (hk : fL_isGain_L28 a1 a2 x2 s0 h = some out) (H : Heap) (locs : List Loc) (ls : Array Slot) (hR : tw_Rel G sz h H) (hL : tw_L G locs) (hl : lv_has ls 12 [(0, .ref a1), (1, .int (tw_I a2)), (2, .int (tw_I x2))]) : W p l e rmL_isGain s m args below meth c H locs 0 0 (MQ below (tw_Qi G sz out.1 out.2) args s 0 0 (tw_F G)) (F0 m 28 ls [.int (tw_I s0)]) := by
  unfold fL_isGain_L28 at hk
  refine lv_istore_n (lv' := [(3, .int (tw_I s0)), (0, .ref a1), (1, .int (tw_I a2)), (2, .int (tw_I x2))]) hC.1 hC.2.1 dL_isGain_28 rfl hl (by decide) rfl (fun ls hl => ?_)
  refine lv_iload_n hC.1 hC.2.1 dL_isGain_29 rfl (lv_at hl 0 rfl) ?_
  refine tw_zlt (tgt := 44) hC hk gs0 dL_isGain_30 (by decide) (fun _ hk => ?_) (fun _ hk => ?_)
  · exact sL_isGain_L44 G sz hC a1 a2 ga2 x2 s0 h gx2 gs0 out hk H locs _ hR hL (lv_sub hl [1, 2, 3, 0] rfl)
  · refine lv_iload_n hC.1 hC.2.1 dL_isGain_33 rfl (lv_at hl 2 rfl) ?_
    refine lv_bipush (v := tw_I 9) hC.1 hC.2.1 dL_isGain_34 (by decide) ?_
    refine tw_ishr hC dL_isGain_36 ?_
    refine lv_iconst (v := tw_I 2) hC.1 hC.2.1 dL_isGain_37 rfl ?_
    refine kL_low hC hR hL hk ((tm_shr_rg _ _)) ((tw_rgL rfl)) mlL_96 ⟨by decide, by decide⟩ hl.1 (Nat.le_of_ble_eq_true rfl) ⟨Nat.zero_le _, Nat.zero_le _⟩ dL_isGain_38 (fun v4 H locs hR hL gv4 hk => ?_)
    refine tw_zne (tgt := 48) hC hk gv4 dL_isGain_41 (by decide) (fun _ hk => ?_) (fun _ hk => ?_)
    · exact sL_isGain_L44 G sz hC a1 a2 ga2 x2 s0 h gx2 gs0 out hk H locs _ hR hL (lv_sub hl [1, 2, 3, 0] rfl)
    · refine lv_iload_n hC.1 hC.2.1 dL_isGain_48 rfl (lv_at hl 2 rfl) ?_
      refine lv_bipush (v := tw_I 10) hC.1 hC.2.1 dL_isGain_49 (by decide) ?_
      refine tw_ishr hC dL_isGain_51 ?_
      refine lv_iconst (v := tw_I 5) hC.1 hC.2.1 dL_isGain_52 rfl ?_
      refine kL_low hC hR hL hk ((tm_shr_rg _ _)) ((tw_rgL rfl)) mlL_96 ⟨by decide, by decide⟩ hl.1 (Nat.le_of_ble_eq_true rfl) ⟨Nat.zero_le _, Nat.zero_le _⟩ dL_isGain_53 (fun v5 H locs hR hL gv5 hk => ?_)
      exact sL_isGain_L56 G sz hC a1 a2 ga2 x2 s0 v5 h gx2 gs0 gv5 out hk H locs _ hR hL (lv_sub hl [1, 2, 3, 0] rfl)
set_option maxRecDepth 100000 in
set_option maxHeartbeats 4000000 in
theorem cL_isGain_ok (l : Launch) (G : tw_G) (sz : Nat) (a1 : Nat) (a2 : Int) (ga2 : tm_rg a2) (h : tm_H) (out : Int × tm_H) (hk : fL_isGain a1 a2 h = some out) : Met l yL_isGain (tw_WS yL_isGain cL_isGain 12 (some .boolean)) rmL_isGain (va_Pc [.ref a1, .int (tw_I a2)] (tw_Pre G sz h)) (tw_Qi G sz out.1 out.2) 0 0 (tw_F G) := by
  refine tw_met (by decide +kernel) (Nat.le_of_ble_eq_true rfl) ?_
  intro p e s m args below meth c H ls hC hnm hR hl
  unfold fL_isGain at hk
  have hl : lv_has ls 12 [(0, .ref a1), (1, .int (tw_I a2))] := hl
  have hL : tw_L G [] := fun q z => by cases z
  generalize hlc : ([] : List Loc) = locs at hL ⊢
  refine lv_iload_n hC.1 hC.2.1 dL_isGain_0 rfl (lv_at hl 1 rfl) ?_
  refine lv_iconst (v := tw_I 5) hC.1 hC.2.1 dL_isGain_1 rfl ?_
  refine kL_low hC hR hL hk ga2 ((tw_rgL rfl)) mlL_96 ⟨by decide, by decide⟩ hl.1 (Nat.le_of_ble_eq_true rfl) ⟨Nat.zero_le _, Nat.zero_le _⟩ dL_isGain_2 (fun v1 H locs hR hL gv1 hk => ?_)
  refine lv_istore_n (lv' := [(2, .int (tw_I v1)), (0, .ref a1), (1, .int (tw_I a2))]) hC.1 hC.2.1 dL_isGain_5 rfl hl (by decide) rfl (fun ls hl => ?_)
  refine lv_iload_n hC.1 hC.2.1 dL_isGain_6 rfl (lv_at hl 2 rfl) ?_
  refine lv_iconst (v := tw_I 4) hC.1 hC.2.1 dL_isGain_7 rfl ?_
  refine tw_ishr hC dL_isGain_8 ?_
  refine lv_iconst (v := tw_I 3) hC.1 hC.2.1 dL_isGain_9 rfl ?_
  refine kL_low hC hR hL hk ((tm_shr_rg _ _)) ((tw_rgL rfl)) mlL_96 ⟨by decide, by decide⟩ hl.1 (Nat.le_of_ble_eq_true rfl) ⟨Nat.zero_le _, Nat.zero_le _⟩ dL_isGain_10 (fun v2 H locs hR hL gv2 hk => ?_)
  refine tw_zne (tgt := 20) hC hk gv2 dL_isGain_13 (by decide) (fun _ hk => ?_) (fun _ hk => ?_)
  · refine lv_iconst (v := tw_I (-1)) hC.1 hC.2.1 dL_isGain_16 rfl ?_
    refine lv_goto (tgt := 28) hC.1 hC.2.1 dL_isGain_17 (by decide) ?_
    exact sL_isGain_L28 G sz hC a1 a2 ga2 v1 ((-1)) h gv1 ((tw_rgL rfl)) out hk H locs _ hR hL (lv_sub hl [1, 2, 0] rfl)
  · refine lv_iload_n hC.1 hC.2.1 dL_isGain_20 rfl (lv_at hl 2 rfl) ?_
    refine lv_bipush (v := tw_I 6) hC.1 hC.2.1 dL_isGain_21 (by decide) ?_
    refine tw_ishr hC dL_isGain_23 ?_
    refine lv_iconst (v := tw_I 5) hC.1 hC.2.1 dL_isGain_24 rfl ?_
    refine kL_low hC hR hL hk ((tm_shr_rg _ _)) ((tw_rgL rfl)) mlL_96 ⟨by decide, by decide⟩ hl.1 (Nat.le_of_ble_eq_true rfl) ⟨Nat.zero_le _, Nat.zero_le _⟩ dL_isGain_25 (fun v3 H locs hR hL gv3 hk => ?_)
    exact sL_isGain_L28 G sz hC a1 a2 ga2 v1 v3 h gv1 gv3 out hk H locs _ hR hL (lv_sub hl [1, 2, 0] rfl)
set_option maxRecDepth 100000 in
theorem kL_isGain {l : Launch} {p : Program} {e : Env} {R : Room} {s : State} {m : MethodId} {args : Array Value} {below : List Frame} {meth : Method} {c : Code} {H : Heap} {locs : List Loc} {cells slots : Nat} {Q : State → Prop} {cc : ByteArray} {pc nL idx : Nat} {ls : Array Slot} {rest : List Value} {G : tw_G} {h : tm_H} {own : String} {ret : Option FieldType} {α : Type} {x : α} {sz : Nat} {a1 : Nat} {a2 : Int} (hC : tw_C G p s m args meth c own cc nL ret) (hR : tw_Rel G sz h H) (hL : tw_L G locs) {F : Int × tm_H → Option α} (hk : (fL_isGain a1 a2 h).bind F = some x) (ga2 : tm_rg a2) (hl : tw_mL own idx yL_isGain) (hRm : rmL_isGain.frames + 1 ≤ R.frames ∧ 8 + (12 + 11) + rmL_isGain.locals ≤ R.locals) (hsz : ls.size = nL) (hW : (rest.map fun v => v.category).sum ≤ 8) (hf : cells + 0 ≤ R.cells ∧ slots + 0 ≤ R.slots) (hdg : decode cc pc = .ok (.invokestatic idx, 3)) (kk : ∀ (r : Int) (h1 : tm_H) (H1 : Heap) (locs1 : List Loc), tw_Rel G sz h1 H1 → tw_L G locs1 → tm_rg r → F (r, h1) = some x → W p l e R s m args below meth c H1 locs1 (cells + 0) (slots + 0) Q (F0 m (pc + 3) ls (.int (tw_I r) :: rest))) : W p l e R s m args below meth c H locs cells slots Q (F0 m pc ls (.int (tw_I a2) :: .ref a1 :: rest)) := by
  obtain ⟨r, hr, hF⟩ := Option.bind_eq_some_iff.mp hk
  exact tw_backi (tw_runS hC hR (cL_isGain_ok l G sz a1 a2 ga2 h r hr) (n := 2) ⟨tw_in_TB 634 (by decide +kernel) rfl, tw_in_TB 8 (by decide +kernel) rfl, by decide +kernel⟩ (tw_in_TB 633 (by decide +kernel) rfl) hl ⟨rfl, rfl⟩ hRm rfl hsz rfl hW hdg hf) hL (fun H1 locs1 a b g => kk r.1 r.2 H1 locs1 a b g hF)
def rmL_isGreediest : Room := { frames := 8, cells := 0, slots := 0, locals := 186 }
set_option maxRecDepth 100000 in
set_option maxHeartbeats 4000000 in
theorem sL_isGreediest_L143 {l : Launch} {p : Program} {e : Env} {s : State} {m : MethodId} {args : Array Value} {below : List Frame} {meth : Method} {c : Code} (G : tw_G) (sz : Nat) (hC : tw_C G p s m args meth c RL cL_isGreediest 9 (some .boolean)) (a1 : Nat)  (x1 : Int) (x2 : Int64) (x5 : Int) (x6 : Int) (h : tm_H) (gx1 : tm_rg x1) (gx5 : tm_rg x5) (gx6 : tm_rg x6) (out : Int × tm_H) (hk : fL_isGreediest_L143 a1 x1 x2 x5 x6 h = some out) (H : Heap) (locs : List Loc) (ls : Array Slot) (hR : tw_Rel G sz h H) (hL : tw_L G locs) (hl : lv_has ls 9 [(0, .ref a1), (1, .int (tw_I x1)), (2, .long x2), (5, .int (tw_I x5)), (6, .int (tw_I x6))]) : W p l e rmL_isGreediest s m args below meth c H locs 0 0 (MQ below (tw_Qi G sz out.1 out.2) args s 0 0 (tw_F G)) (F0 m 143 ls []) := by
  unfold fL_isGreediest_L143 at hk
  refine lv_iload hC.1 hC.2.1 dL_isGreediest_143 (lv_at hl 4 rfl) ?_
  refine tw_zeq (tgt := 167) hC hk gx6 dL_isGreediest_145 (by decide) (fun _ hk => ?_) (fun _ hk => ?_)
  · refine lv_iconst (v := tw_I 0) hC.1 hC.2.1 dL_isGreediest_167 rfl ?_
    cases hk
    exact tw_zret hC hR hL rfl rfl dL_isGreediest_168
  · refine lv_iload hC.1 hC.2.1 dL_isGreediest_148 (lv_at hl 3 rfl) ?_
    refine lv_iload_n hC.1 hC.2.1 dL_isGreediest_150 rfl (lv_at hl 1 rfl) ?_
    refine tw_cne (tgt := 167) hC hk gx5 gx1 dL_isGreediest_151 (by decide) (fun _ hk => ?_) (fun _ hk => ?_)
    · refine lv_aload_n hC.1 hC.2.1 dL_isGreediest_154 rfl (lv_at hl 0 rfl) ?_
      refine kL_print hC hR hL hk mlL_30 ⟨by decide, by decide⟩ hl.1 (Nat.le_of_ble_eq_true rfl) ⟨Nat.zero_le _, Nat.zero_le _⟩ dL_isGreediest_155 (fun v9 h9 H locs hR hL hk => ?_)
      refine lv_lload_n hC.1 hC.2.1 dL_isGreediest_158 rfl (lv_at hl 2 rfl) ?_
      refine tw_lcmp hC dL_isGreediest_159 ?_
      refine tw_zne (tgt := 167) hC hk ((tm_lcmp_rg _ _)) dL_isGreediest_160 (by decide) (fun _ hk => ?_) (fun _ hk => ?_)
      · refine lv_iconst (v := tw_I 1) hC.1 hC.2.1 dL_isGreediest_163 rfl ?_
        refine lv_goto (tgt := 168) hC.1 hC.2.1 dL_isGreediest_164 (by decide) ?_
        cases hk
        exact tw_zret hC hR hL rfl rfl dL_isGreediest_168
      · refine lv_iconst (v := tw_I 0) hC.1 hC.2.1 dL_isGreediest_167 rfl ?_
        cases hk
        exact tw_zret hC hR hL rfl rfl dL_isGreediest_168
    · refine lv_iconst (v := tw_I 0) hC.1 hC.2.1 dL_isGreediest_167 rfl ?_
      cases hk
      exact tw_zret hC hR hL rfl rfl dL_isGreediest_168
set_option maxRecDepth 100000 in
set_option maxHeartbeats 4000000 in
theorem sL_isGreediest_S1 {l : Launch} {p : Program} {e : Env} {s : State} {m : MethodId} {args : Array Value} {below : List Frame} {meth : Method} {c : Code} (G : tw_G) (sz : Nat) (hC : tw_C G p s m args meth c RL cL_isGreediest 9 (some .boolean)) (a1 : Nat)  : ∀ (k : Nat) (st : (Int × Int64 × Int × Int × Int × Int × tm_H) ⊕ (Int × Int64 × Int × Int × Int × Int × tm_H) ⊕ (Int × Int64 × Int × Int × Int × Int × Int × tm_H) ⊕ (Int × Int64 × Int × Int × Int × Int × tm_H) ⊕ (Int × Int64 × Int × Int × Int × tm_H) ⊕ (Int × Int64 × Int × Int × Int × Int × tm_H)) (out : Int × tm_H), tm_wit (fL_isGreediest_S1 a1) k st = some out → match st with
    | .inl ((x1, x2, x4, x5, x6, x7, h)) => ∀ (H : Heap) (locs : List Loc) (ls : Array Slot), tm_rg x1 → tm_rg x4 → tm_rg x5 → tm_rg x6 → tm_rg x7 → tw_Rel G sz h H → tw_L G locs → lv_has ls 9 [(0, .ref a1), (1, .int (tw_I x1)), (2, .long x2), (4, .int (tw_I x4)), (5, .int (tw_I x5)), (6, .int (tw_I x6)), (7, .int (tw_I x7))] → W p l e rmL_isGreediest s m args below meth c H locs 0 0 (MQ below (tw_Qi G sz out.1 out.2) args s 0 0 (tw_F G)) (F0 m 43 ls [])
    | .inr (.inl ((x1, x2, x4, x5, x7, s0, h))) => ∀ (H : Heap) (locs : List Loc) (ls : Array Slot), tm_rg x1 → tm_rg x4 → tm_rg x5 → tm_rg x7 → tm_rg s0 → tw_Rel G sz h H → tw_L G locs → lv_has ls 9 [(0, .ref a1), (1, .int (tw_I x1)), (2, .long x2), (4, .int (tw_I x4)), (5, .int (tw_I x5)), (7, .int (tw_I x7))] → W p l e rmL_isGreediest s m args below meth c H locs 0 0 (MQ below (tw_Qi G sz out.1 out.2) args s 0 0 (tw_F G)) (F0 m 77 ls [.int (tw_I s0)])
    | .inr (.inr (.inl ((x1, x2, x4, x6, x7, x8, s0, h)))) => ∀ (H : Heap) (locs : List Loc) (ls : Array Slot), tm_rg x1 → tm_rg x4 → tm_rg x6 → tm_rg x7 → tm_rg x8 → tm_rg s0 → tw_Rel G sz h H → tw_L G locs → lv_has ls 9 [(0, .ref a1), (1, .int (tw_I x1)), (2, .long x2), (4, .int (tw_I x4)), (6, .int (tw_I x6)), (7, .int (tw_I x7)), (8, .int (tw_I x8))] → W p l e rmL_isGreediest s m args below meth c H locs 0 0 (MQ below (tw_Qi G sz out.1 out.2) args s 0 0 (tw_F G)) (F0 m 100 ls [.int (tw_I s0)])
    | .inr (.inr (.inr (.inl ((x1, x2, x5, x6, x7, s0, h))))) => ∀ (H : Heap) (locs : List Loc) (ls : Array Slot), tm_rg x1 → tm_rg x5 → tm_rg x6 → tm_rg x7 → tm_rg s0 → tw_Rel G sz h H → tw_L G locs → lv_has ls 9 [(0, .ref a1), (1, .int (tw_I x1)), (2, .long x2), (5, .int (tw_I x5)), (6, .int (tw_I x6)), (7, .int (tw_I x7))] → W p l e rmL_isGreediest s m args below meth c H locs 0 0 (MQ below (tw_Qi G sz out.1 out.2) args s 0 0 (tw_F G)) (F0 m 116 ls [.int (tw_I s0)])
    | .inr (.inr (.inr (.inr (.inl ((x1, x2, x4, x5, x7, h)))))) => ∀ (H : Heap) (locs : List Loc) (ls : Array Slot), tm_rg x1 → tm_rg x4 → tm_rg x5 → tm_rg x7 → tw_Rel G sz h H → tw_L G locs → lv_has ls 9 [(0, .ref a1), (1, .int (tw_I x1)), (2, .long x2), (4, .int (tw_I x4)), (5, .int (tw_I x5)), (7, .int (tw_I x7))] → W p l e rmL_isGreediest s m args below meth c H locs 0 0 (MQ below (tw_Qi G sz out.1 out.2) args s 0 0 (tw_F G)) (F0 m 134 ls [])
    | .inr (.inr (.inr (.inr (.inr ((x1, x2, x4, x5, x7, s0, h)))))) => ∀ (H : Heap) (locs : List Loc) (ls : Array Slot), tm_rg x1 → tm_rg x4 → tm_rg x5 → tm_rg x7 → tm_rg s0 → tw_Rel G sz h H → tw_L G locs → lv_has ls 9 [(0, .ref a1), (1, .int (tw_I x1)), (2, .long x2), (4, .int (tw_I x4)), (5, .int (tw_I x5)), (7, .int (tw_I x7))] → W p l e rmL_isGreediest s m args below meth c H locs 0 0 (MQ below (tw_Qi G sz out.1 out.2) args s 0 0 (tw_F G)) (F0 m 135 ls [.int (tw_I s0)]) := by
  intro k
  induction k with
  | zero =>
    intro st out hk
    exact absurd hk (by unfold tm_wit; exact fun z => by cases z)
  | succ k ih =>
    intro st out hk
    obtain ⟨X, hk, hf⟩ := tm_wit_succ hk
    obtain ⟨x1, x2, x4, x5, x6, x7, h⟩ | ⟨x1, x2, x4, x5, x7, s0, h⟩ | ⟨x1, x2, x4, x6, x7, x8, s0, h⟩ | ⟨x1, x2, x5, x6, x7, s0, h⟩ | ⟨x1, x2, x4, x5, x7, h⟩ | ⟨x1, x2, x4, x5, x7, s0, h⟩ := st
    · intro H locs ls gx1 gx4 gx5 gx6 gx7 hR hL hl
      dsimp only [fL_isGreediest_S1] at hk
      refine lv_iload hC.1 hC.2.1 dL_isGreediest_43 (lv_at hl 6 rfl) ?_
      refine lv_aload_n hC.1 hC.2.1 dL_isGreediest_45 rfl (lv_at hl 0 rfl) ?_
      refine lv_iconst (v := tw_I 2) hC.1 hC.2.1 dL_isGreediest_46 rfl ?_
      refine kX8_count hC hR hL hk ((tw_rgL rfl)) mlL_13 ⟨by decide, by decide⟩ hl.1 (Nat.le_of_ble_eq_true rfl) ⟨Nat.zero_le _, Nat.zero_le _⟩ dL_isGreediest_47 (fun v4 h4 H locs hR hL gv4 hk => ?_)
      refine tw_cge (tgt := 143) hC hk gx7 gv4 dL_isGreediest_50 (by decide) (fun _ hk => ?_) (fun _ hk => ?_)
      · refine lv_iload hC.1 hC.2.1 dL_isGreediest_53 (lv_at hl 5 rfl) ?_
        refine tw_zeq (tgt := 143) hC hk gx6 dL_isGreediest_55 (by decide) (fun _ hk => ?_) (fun _ hk => ?_)
        · obtain ⟨r, hk2, hX⟩ := tm_out_some hk
          rw [hX] at hf
          have hr : r = out := Option.some.inj hf
          rw [hr] at hk2
          exact sL_isGreediest_L143 G sz hC a1 x1 x2 x5 x6 h4 gx1 gx5 gx6 out hk2 H locs _ hR hL (lv_sub hl [0, 1, 2, 4, 5] rfl)
        · refine lv_aload_n hC.1 hC.2.1 dL_isGreediest_58 rfl (lv_at hl 0 rfl) ?_
          refine lv_iload hC.1 hC.2.1 dL_isGreediest_59 (lv_at hl 6 rfl) ?_
          refine kX8_removeTerm hC hR hL hk gx7 mlL_52 ⟨by decide, by decide⟩ hl.1 (Nat.le_of_ble_eq_true rfl) ⟨Nat.zero_le _, Nat.zero_le _⟩ dL_isGreediest_61 (fun v5 h5 H locs hR hL gv5 hk => ?_)
          refine lv_aload_n hC.1 hC.2.1 dL_isGreediest_64 rfl (lv_at hl 0 rfl) ?_
          refine lv_iconst (v := tw_I 2) hC.1 hC.2.1 dL_isGreediest_65 rfl ?_
          refine kX8_count hC hR hL hk ((tw_rgL rfl)) mlL_13 ⟨by decide, by decide⟩ hl.1 (Nat.le_of_ble_eq_true rfl) ⟨Nat.zero_le _, Nat.zero_le _⟩ dL_isGreediest_66 (fun v6 h6 H locs hR hL gv6 hk => ?_)
          refine tw_cne (tgt := 76) hC hk gv5 gv6 dL_isGreediest_69 (by decide) (fun _ hk => ?_) (fun _ hk => ?_)
          · refine lv_iconst (v := tw_I 1) hC.1 hC.2.1 dL_isGreediest_72 rfl ?_
            refine lv_goto (tgt := 77) hC.1 hC.2.1 dL_isGreediest_73 (by decide) ?_
            cases hk
            exact ih _ out hf H locs _ gx1 gx4 gx5 gx7 ((tw_rgL rfl)) hR hL (lv_sub hl [0, 1, 2, 3, 4, 6] rfl)
          · refine lv_iconst (v := tw_I 0) hC.1 hC.2.1 dL_isGreediest_76 rfl ?_
            cases hk
            exact ih _ out hf H locs _ gx1 gx4 gx5 gx7 ((tw_rgL rfl)) hR hL (lv_sub hl [0, 1, 2, 3, 4, 6] rfl)
      · obtain ⟨r, hk2, hX⟩ := tm_out_some hk
        rw [hX] at hf
        have hr : r = out := Option.some.inj hf
        rw [hr] at hk2
        exact sL_isGreediest_L143 G sz hC a1 x1 x2 x5 x6 h4 gx1 gx5 gx6 out hk2 H locs _ hR hL (lv_sub hl [0, 1, 2, 4, 5] rfl)
    · intro H locs ls gx1 gx4 gx5 gx7 gs0 hR hL hl
      dsimp only [fL_isGreediest_S1] at hk
      refine lv_istore (lv' := [(6, .int (tw_I s0)), (0, .ref a1), (1, .int (tw_I x1)), (2, .long x2), (4, .int (tw_I x4)), (5, .int (tw_I x5)), (7, .int (tw_I x7))]) hC.1 hC.2.1 dL_isGreediest_77 hl (by decide) rfl (fun ls hl => ?_)
      refine lv_aload_n hC.1 hC.2.1 dL_isGreediest_79 rfl (lv_at hl 1 rfl) ?_
      refine lv_iconst (v := tw_I 4) hC.1 hC.2.1 dL_isGreediest_80 rfl ?_
      refine kX8_count hC hR hL hk ((tw_rgL rfl)) mlL_13 ⟨by decide, by decide⟩ hl.1 (Nat.le_of_ble_eq_true rfl) ⟨Nat.zero_le _, Nat.zero_le _⟩ dL_isGreediest_81 (fun v7 h7 H locs hR hL gv7 hk => ?_)
      refine lv_istore (lv' := [(8, .int (tw_I v7)), (6, .int (tw_I s0)), (0, .ref a1), (1, .int (tw_I x1)), (2, .long x2), (4, .int (tw_I x4)), (5, .int (tw_I x5)), (7, .int (tw_I x7))]) hC.1 hC.2.1 dL_isGreediest_84 hl (by decide) rfl (fun ls hl => ?_)
      refine lv_iload hC.1 hC.2.1 dL_isGreediest_86 (lv_at hl 0 rfl) ?_
      refine lv_iload hC.1 hC.2.1 dL_isGreediest_88 (lv_at hl 5 rfl) ?_
      refine tw_cle (tgt := 98) hC hk gv7 gx4 dL_isGreediest_90 (by decide) (fun _ hk => ?_) (fun _ hk => ?_)
      · refine lv_iload hC.1 hC.2.1 dL_isGreediest_93 (lv_at hl 7 rfl) ?_
        refine lv_goto (tgt := 100) hC.1 hC.2.1 dL_isGreediest_95 (by decide) ?_
        cases hk
        exact ih _ out hf H locs _ gx1 gx4 gs0 gx7 gv7 gx7 hR hL (lv_sub hl [2, 3, 4, 5, 1, 7, 0] rfl)
      · refine lv_iload hC.1 hC.2.1 dL_isGreediest_98 (lv_at hl 6 rfl) ?_
        cases hk
        exact ih _ out hf H locs _ gx1 gx4 gs0 gx7 gv7 gx5 hR hL (lv_sub hl [2, 3, 4, 5, 1, 7, 0] rfl)
    · intro H locs ls gx1 gx4 gx6 gx7 gx8 gs0 hR hL hl
      dsimp only [fL_isGreediest_S1] at hk
      refine lv_istore (lv' := [(5, .int (tw_I s0)), (0, .ref a1), (1, .int (tw_I x1)), (2, .long x2), (4, .int (tw_I x4)), (6, .int (tw_I x6)), (7, .int (tw_I x7)), (8, .int (tw_I x8))]) hC.1 hC.2.1 dL_isGreediest_100 hl (by decide) rfl (fun ls hl => ?_)
      refine lv_iload hC.1 hC.2.1 dL_isGreediest_102 (lv_at hl 7 rfl) ?_
      refine lv_iload hC.1 hC.2.1 dL_isGreediest_104 (lv_at hl 4 rfl) ?_
      refine tw_cle (tgt := 114) hC hk gx8 gx4 dL_isGreediest_106 (by decide) (fun _ hk => ?_) (fun _ hk => ?_)
      · refine lv_iload hC.1 hC.2.1 dL_isGreediest_109 (lv_at hl 7 rfl) ?_
        refine lv_goto (tgt := 116) hC.1 hC.2.1 dL_isGreediest_111 (by decide) ?_
        cases hk
        exact ih _ out hf H locs _ gx1 gs0 gx6 gx7 gx8 hR hL (lv_sub hl [1, 2, 3, 0, 5, 6] rfl)
      · refine lv_iload hC.1 hC.2.1 dL_isGreediest_114 (lv_at hl 4 rfl) ?_
        cases hk
        exact ih _ out hf H locs _ gx1 gs0 gx6 gx7 gx4 hR hL (lv_sub hl [1, 2, 3, 0, 5, 6] rfl)
    · intro H locs ls gx1 gx5 gx6 gx7 gs0 hR hL hl
      dsimp only [fL_isGreediest_S1] at hk
      refine lv_istore (lv' := [(4, .int (tw_I s0)), (0, .ref a1), (1, .int (tw_I x1)), (2, .long x2), (5, .int (tw_I x5)), (6, .int (tw_I x6)), (7, .int (tw_I x7))]) hC.1 hC.2.1 dL_isGreediest_116 hl (by decide) rfl (fun ls hl => ?_)
      refine lv_iload hC.1 hC.2.1 dL_isGreediest_118 (lv_at hl 5 rfl) ?_
      refine tw_zeq (tgt := 134) hC hk gx6 dL_isGreediest_120 (by decide) (fun _ hk => ?_) (fun _ hk => ?_)
      · cases hk
        exact ih _ out hf H locs _ gx1 gs0 gx5 gx7 hR hL (lv_sub hl [1, 2, 3, 0, 4, 6] rfl)
      · refine lv_aload_n hC.1 hC.2.1 dL_isGreediest_123 rfl (lv_at hl 1 rfl) ?_
        refine kX8_undo hC hR hL hk mlL_99 ⟨by decide, by decide⟩ hl.1 (Nat.le_of_ble_eq_true rfl) ⟨Nat.zero_le _, Nat.zero_le _⟩ dL_isGreediest_124 (fun v8 h8 H locs hR hL gv8 hk => ?_)
        refine tw_zlt (tgt := 134) hC hk gv8 dL_isGreediest_127 (by decide) (fun _ hk => ?_) (fun _ hk => ?_)
        · cases hk
          exact ih _ out hf H locs _ gx1 gs0 gx5 gx7 hR hL (lv_sub hl [1, 2, 3, 0, 4, 6] rfl)
        · refine lv_iconst (v := tw_I 1) hC.1 hC.2.1 dL_isGreediest_130 rfl ?_
          refine lv_goto (tgt := 135) hC.1 hC.2.1 dL_isGreediest_131 (by decide) ?_
          cases hk
          exact ih _ out hf H locs _ gx1 gs0 gx5 gx7 ((tw_rgL rfl)) hR hL (lv_sub hl [1, 2, 3, 0, 4, 6] rfl)
    · intro H locs ls gx1 gx4 gx5 gx7 hR hL hl
      dsimp only [fL_isGreediest_S1] at hk
      refine lv_iconst (v := tw_I 0) hC.1 hC.2.1 dL_isGreediest_134 rfl ?_
      cases hk
      exact ih _ out hf H locs _ gx1 gx4 gx5 gx7 ((tw_rgL rfl)) hR hL (lv_sub hl [0, 1, 2, 3, 4, 5] rfl)
    · intro H locs ls gx1 gx4 gx5 gx7 gs0 hR hL hl
      dsimp only [fL_isGreediest_S1] at hk
      refine lv_istore (lv' := [(6, .int (tw_I s0)), (0, .ref a1), (1, .int (tw_I x1)), (2, .long x2), (4, .int (tw_I x4)), (5, .int (tw_I x5)), (7, .int (tw_I x7))]) hC.1 hC.2.1 dL_isGreediest_135 hl (by decide) rfl (fun ls hl => ?_)
      refine tw_iinc (lv' := [(7, .int (tw_I (tm_wr (x7 + 1)))), (6, .int (tw_I s0)), (0, .ref a1), (1, .int (tw_I x1)), (2, .long x2), (4, .int (tw_I x4)), (5, .int (tw_I x5))]) hC dL_isGreediest_137 hl (k := 6) rfl (by decide) rfl (fun ls hl => ?_)
      refine lv_goto (tgt := 43) hC.1 hC.2.1 dL_isGreediest_140 (by decide) ?_
      cases hk
      exact ih _ out hf H locs _ gx1 gx4 gx5 gs0 ((tm_wr_rg _)) hR hL (lv_sub hl [2, 3, 4, 5, 6, 1, 0] rfl)
theorem sL_isGreediest_L43 {l : Launch} {p : Program} {e : Env} {s : State} {m : MethodId} {args : Array Value} {below : List Frame} {meth : Method} {c : Code} (G : tw_G) (sz : Nat) (hC : tw_C G p s m args meth c RL cL_isGreediest 9 (some .boolean)) (a1 : Nat)  (x1 : Int) (x2 : Int64) (x4 : Int) (x5 : Int) (x6 : Int) (x7 : Int) (h : tm_H) (gx1 : tm_rg x1) (gx4 : tm_rg x4) (gx5 : tm_rg x5) (gx6 : tm_rg x6) (gx7 : tm_rg x7) (out : Int × tm_H) (hk : fL_isGreediest_L43 a1 x1 x2 x4 x5 x6 x7 h = some out) (H : Heap) (locs : List Loc) (ls : Array Slot) (hR : tw_Rel G sz h H) (hL : tw_L G locs) (hl : lv_has ls 9 [(0, .ref a1), (1, .int (tw_I x1)), (2, .long x2), (4, .int (tw_I x4)), (5, .int (tw_I x5)), (6, .int (tw_I x6)), (7, .int (tw_I x7))]) : W p l e rmL_isGreediest s m args below meth c H locs 0 0 (MQ below (tw_Qi G sz out.1 out.2) args s 0 0 (tw_F G)) (F0 m 43 ls []) := by
  obtain ⟨k, hk⟩ := tm_wl_iff.mp hk
  exact sL_isGreediest_S1 G sz hC a1  k (.inl ((x1, x2, x4, x5, x6, x7, h))) out hk H locs ls gx1 gx4 gx5 gx6 gx7 hR hL hl
theorem sL_isGreediest_L77 {l : Launch} {p : Program} {e : Env} {s : State} {m : MethodId} {args : Array Value} {below : List Frame} {meth : Method} {c : Code} (G : tw_G) (sz : Nat) (hC : tw_C G p s m args meth c RL cL_isGreediest 9 (some .boolean)) (a1 : Nat)  (x1 : Int) (x2 : Int64) (x4 : Int) (x5 : Int) (x7 : Int) (s0 : Int) (h : tm_H) (gx1 : tm_rg x1) (gx4 : tm_rg x4) (gx5 : tm_rg x5) (gx7 : tm_rg x7) (gs0 : tm_rg s0) (out : Int × tm_H) (hk : fL_isGreediest_L77 a1 x1 x2 x4 x5 x7 s0 h = some out) (H : Heap) (locs : List Loc) (ls : Array Slot) (hR : tw_Rel G sz h H) (hL : tw_L G locs) (hl : lv_has ls 9 [(0, .ref a1), (1, .int (tw_I x1)), (2, .long x2), (4, .int (tw_I x4)), (5, .int (tw_I x5)), (7, .int (tw_I x7))]) : W p l e rmL_isGreediest s m args below meth c H locs 0 0 (MQ below (tw_Qi G sz out.1 out.2) args s 0 0 (tw_F G)) (F0 m 77 ls [.int (tw_I s0)]) := by
  obtain ⟨k, hk⟩ := tm_wl_iff.mp hk
  exact sL_isGreediest_S1 G sz hC a1  k (.inr (.inl ((x1, x2, x4, x5, x7, s0, h)))) out hk H locs ls gx1 gx4 gx5 gx7 gs0 hR hL hl
theorem sL_isGreediest_L100 {l : Launch} {p : Program} {e : Env} {s : State} {m : MethodId} {args : Array Value} {below : List Frame} {meth : Method} {c : Code} (G : tw_G) (sz : Nat) (hC : tw_C G p s m args meth c RL cL_isGreediest 9 (some .boolean)) (a1 : Nat)  (x1 : Int) (x2 : Int64) (x4 : Int) (x6 : Int) (x7 : Int) (x8 : Int) (s0 : Int) (h : tm_H) (gx1 : tm_rg x1) (gx4 : tm_rg x4) (gx6 : tm_rg x6) (gx7 : tm_rg x7) (gx8 : tm_rg x8) (gs0 : tm_rg s0) (out : Int × tm_H) (hk : fL_isGreediest_L100 a1 x1 x2 x4 x6 x7 x8 s0 h = some out) (H : Heap) (locs : List Loc) (ls : Array Slot) (hR : tw_Rel G sz h H) (hL : tw_L G locs) (hl : lv_has ls 9 [(0, .ref a1), (1, .int (tw_I x1)), (2, .long x2), (4, .int (tw_I x4)), (6, .int (tw_I x6)), (7, .int (tw_I x7)), (8, .int (tw_I x8))]) : W p l e rmL_isGreediest s m args below meth c H locs 0 0 (MQ below (tw_Qi G sz out.1 out.2) args s 0 0 (tw_F G)) (F0 m 100 ls [.int (tw_I s0)]) := by
  obtain ⟨k, hk⟩ := tm_wl_iff.mp hk
  exact sL_isGreediest_S1 G sz hC a1  k (.inr (.inr (.inl ((x1, x2, x4, x6, x7, x8, s0, h))))) out hk H locs ls gx1 gx4 gx6 gx7 gx8 gs0 hR hL hl
theorem sL_isGreediest_L116 {l : Launch} {p : Program} {e : Env} {s : State} {m : MethodId} {args : Array Value} {below : List Frame} {meth : Method} {c : Code} (G : tw_G) (sz : Nat) (hC : tw_C G p s m args meth c RL cL_isGreediest 9 (some .boolean)) (a1 : Nat)  (x1 : Int) (x2 : Int64) (x5 : Int) (x6 : Int) (x7 : Int) (s0 : Int) (h : tm_H) (gx1 : tm_rg x1) (gx5 : tm_rg x5) (gx6 : tm_rg x6) (gx7 : tm_rg x7) (gs0 : tm_rg s0) (out : Int × tm_H) (hk : fL_isGreediest_L116 a1 x1 x2 x5 x6 x7 s0 h = some out) (H : Heap) (locs : List Loc) (ls : Array Slot) (hR : tw_Rel G sz h H) (hL : tw_L G locs) (hl : lv_has ls 9 [(0, .ref a1), (1, .int (tw_I x1)), (2, .long x2), (5, .int (tw_I x5)), (6, .int (tw_I x6)), (7, .int (tw_I x7))]) : W p l e rmL_isGreediest s m args below meth c H locs 0 0 (MQ below (tw_Qi G sz out.1 out.2) args s 0 0 (tw_F G)) (F0 m 116 ls [.int (tw_I s0)]) := by
  obtain ⟨k, hk⟩ := tm_wl_iff.mp hk
  exact sL_isGreediest_S1 G sz hC a1  k (.inr (.inr (.inr (.inl ((x1, x2, x5, x6, x7, s0, h)))))) out hk H locs ls gx1 gx5 gx6 gx7 gs0 hR hL hl
theorem sL_isGreediest_L134 {l : Launch} {p : Program} {e : Env} {s : State} {m : MethodId} {args : Array Value} {below : List Frame} {meth : Method} {c : Code} (G : tw_G) (sz : Nat) (hC : tw_C G p s m args meth c RL cL_isGreediest 9 (some .boolean)) (a1 : Nat)  (x1 : Int) (x2 : Int64) (x4 : Int) (x5 : Int) (x7 : Int) (h : tm_H) (gx1 : tm_rg x1) (gx4 : tm_rg x4) (gx5 : tm_rg x5) (gx7 : tm_rg x7) (out : Int × tm_H) (hk : fL_isGreediest_L134 a1 x1 x2 x4 x5 x7 h = some out) (H : Heap) (locs : List Loc) (ls : Array Slot) (hR : tw_Rel G sz h H) (hL : tw_L G locs) (hl : lv_has ls 9 [(0, .ref a1), (1, .int (tw_I x1)), (2, .long x2), (4, .int (tw_I x4)), (5, .int (tw_I x5)), (7, .int (tw_I x7))]) : W p l e rmL_isGreediest s m args below meth c H locs 0 0 (MQ below (tw_Qi G sz out.1 out.2) args s 0 0 (tw_F G)) (F0 m 134 ls []) := by
  obtain ⟨k, hk⟩ := tm_wl_iff.mp hk
  exact sL_isGreediest_S1 G sz hC a1  k (.inr (.inr (.inr (.inr (.inl ((x1, x2, x4, x5, x7, h))))))) out hk H locs ls gx1 gx4 gx5 gx7 hR hL hl
theorem sL_isGreediest_L135 {l : Launch} {p : Program} {e : Env} {s : State} {m : MethodId} {args : Array Value} {below : List Frame} {meth : Method} {c : Code} (G : tw_G) (sz : Nat) (hC : tw_C G p s m args meth c RL cL_isGreediest 9 (some .boolean)) (a1 : Nat)  (x1 : Int) (x2 : Int64) (x4 : Int) (x5 : Int) (x7 : Int) (s0 : Int) (h : tm_H) (gx1 : tm_rg x1) (gx4 : tm_rg x4) (gx5 : tm_rg x5) (gx7 : tm_rg x7) (gs0 : tm_rg s0) (out : Int × tm_H) (hk : fL_isGreediest_L135 a1 x1 x2 x4 x5 x7 s0 h = some out) (H : Heap) (locs : List Loc) (ls : Array Slot) (hR : tw_Rel G sz h H) (hL : tw_L G locs) (hl : lv_has ls 9 [(0, .ref a1), (1, .int (tw_I x1)), (2, .long x2), (4, .int (tw_I x4)), (5, .int (tw_I x5)), (7, .int (tw_I x7))]) : W p l e rmL_isGreediest s m args below meth c H locs 0 0 (MQ below (tw_Qi G sz out.1 out.2) args s 0 0 (tw_F G)) (F0 m 135 ls [.int (tw_I s0)]) := by
  obtain ⟨k, hk⟩ := tm_wl_iff.mp hk
  exact sL_isGreediest_S1 G sz hC a1  k (.inr (.inr (.inr (.inr (.inr ((x1, x2, x4, x5, x7, s0, h))))))) out hk H locs ls gx1 gx4 gx5 gx7 gs0 hR hL hl
set_option maxRecDepth 100000 in
set_option maxHeartbeats 4000000 in
theorem cL_isGreediest_ok (l : Launch) (G : tw_G) (sz : Nat) (a1 : Nat)  (h : tm_H) (out : Int × tm_H) (hk : fL_isGreediest a1 h = some out) : Met l yL_isGreediest (tw_WS yL_isGreediest cL_isGreediest 9 (some .boolean)) rmL_isGreediest (va_Pc [.ref a1] (tw_Pre G sz h)) (tw_Qi G sz out.1 out.2) 0 0 (tw_F G) := by
  refine tw_met (by decide +kernel) (Nat.le_of_ble_eq_true rfl) ?_
  intro p e s m args below meth c H ls hC hnm hR hl
  unfold fL_isGreediest at hk
  have hl : lv_has ls 9 [(0, .ref a1)] := hl
  have hL : tw_L G [] := fun q z => by cases z
  generalize hlc : ([] : List Loc) = locs at hL ⊢
  refine lv_aload_n hC.1 hC.2.1 dL_isGreediest_0 rfl (lv_at hl 0 rfl) ?_
  refine kX8_greediest hC hR hL hk mlL_103 ⟨by decide, by decide⟩ hl.1 (Nat.le_of_ble_eq_true rfl) ⟨Nat.zero_le _, Nat.zero_le _⟩ dL_isGreediest_1 (fun v1 h1 H locs hR hL gv1 hk => ?_)
  refine lv_istore_n (lv' := [(1, .int (tw_I v1)), (0, .ref a1)]) hC.1 hC.2.1 dL_isGreediest_4 rfl hl (by decide) rfl (fun ls hl => ?_)
  refine lv_aload_n hC.1 hC.2.1 dL_isGreediest_5 rfl (lv_at hl 1 rfl) ?_
  refine lv_iconst (v := tw_I 2) hC.1 hC.2.1 dL_isGreediest_6 rfl ?_
  refine kX8_count hC hR hL hk ((tw_rgL rfl)) mlL_13 ⟨by decide, by decide⟩ hl.1 (Nat.le_of_ble_eq_true rfl) ⟨Nat.zero_le _, Nat.zero_le _⟩ dL_isGreediest_7 (fun v2 h2 H locs hR hL gv2 hk => ?_)
  refine tw_zne (tgt := 25) hC hk gv2 dL_isGreediest_10 (by decide) (fun _ hk => ?_) (fun _ hk => ?_)
  · refine lv_iload_n hC.1 hC.2.1 dL_isGreediest_13 rfl (lv_at hl 0 rfl) ?_
    refine lv_bipush (v := tw_I (-99)) hC.1 hC.2.1 dL_isGreediest_14 (by decide) ?_
    refine tw_cne (tgt := 23) hC hk gv1 ((tw_rgL rfl)) dL_isGreediest_16 (by decide) (fun _ hk => ?_) (fun _ hk => ?_)
    · refine lv_iconst (v := tw_I 1) hC.1 hC.2.1 dL_isGreediest_19 rfl ?_
      refine lv_goto (tgt := 24) hC.1 hC.2.1 dL_isGreediest_20 (by decide) ?_
      cases hk
      exact tw_zret hC hR hL rfl rfl dL_isGreediest_24
    · refine lv_iconst (v := tw_I 0) hC.1 hC.2.1 dL_isGreediest_23 rfl ?_
      cases hk
      exact tw_zret hC hR hL rfl rfl dL_isGreediest_24
  · refine lv_aload_n hC.1 hC.2.1 dL_isGreediest_25 rfl (lv_at hl 1 rfl) ?_
    refine kL_print hC hR hL hk mlL_30 ⟨by decide, by decide⟩ hl.1 (Nat.le_of_ble_eq_true rfl) ⟨Nat.zero_le _, Nat.zero_le _⟩ dL_isGreediest_26 (fun v3 h3 H locs hR hL hk => ?_)
    refine lv_lstore_n (lv' := [(2, .long v3), (1, .int (tw_I v1)), (0, .ref a1)]) hC.1 hC.2.1 dL_isGreediest_29 rfl hl (by decide) rfl (fun ls hl => ?_)
    refine lv_iconst (v := tw_I (-1)) hC.1 hC.2.1 dL_isGreediest_30 rfl ?_
    refine lv_istore (lv' := [(4, .int (tw_I ((-1)))), (2, .long v3), (1, .int (tw_I v1)), (0, .ref a1)]) hC.1 hC.2.1 dL_isGreediest_31 hl (by decide) rfl (fun ls hl => ?_)
    refine lv_bipush (v := tw_I (-99)) hC.1 hC.2.1 dL_isGreediest_33 (by decide) ?_
    refine lv_istore (lv' := [(5, .int (tw_I ((-99)))), (4, .int (tw_I ((-1)))), (2, .long v3), (1, .int (tw_I v1)), (0, .ref a1)]) hC.1 hC.2.1 dL_isGreediest_35 hl (by decide) rfl (fun ls hl => ?_)
    refine lv_iconst (v := tw_I 1) hC.1 hC.2.1 dL_isGreediest_37 rfl ?_
    refine lv_istore (lv' := [(6, .int (tw_I 1)), (5, .int (tw_I ((-99)))), (4, .int (tw_I ((-1)))), (2, .long v3), (1, .int (tw_I v1)), (0, .ref a1)]) hC.1 hC.2.1 dL_isGreediest_38 hl (by decide) rfl (fun ls hl => ?_)
    refine lv_iconst (v := tw_I 0) hC.1 hC.2.1 dL_isGreediest_40 rfl ?_
    refine lv_istore (lv' := [(7, .int (tw_I 0)), (6, .int (tw_I 1)), (5, .int (tw_I ((-99)))), (4, .int (tw_I ((-1)))), (2, .long v3), (1, .int (tw_I v1)), (0, .ref a1)]) hC.1 hC.2.1 dL_isGreediest_41 hl (by decide) rfl (fun ls hl => ?_)
    exact sL_isGreediest_L43 G sz hC a1 v1 v3 ((-1)) ((-99)) 1 0 h3 gv1 ((tw_rgL rfl)) ((tw_rgL rfl)) ((tw_rgL rfl)) ((tw_rgL rfl)) out hk H locs _ hR hL (lv_sub hl [6, 5, 4, 3, 2, 1, 0] rfl)
set_option maxRecDepth 100000 in
theorem kL_isGreediest {l : Launch} {p : Program} {e : Env} {R : Room} {s : State} {m : MethodId} {args : Array Value} {below : List Frame} {meth : Method} {c : Code} {H : Heap} {locs : List Loc} {cells slots : Nat} {Q : State → Prop} {cc : ByteArray} {pc nL idx : Nat} {ls : Array Slot} {rest : List Value} {G : tw_G} {h : tm_H} {own : String} {ret : Option FieldType} {α : Type} {x : α} {sz : Nat} {a1 : Nat} (hC : tw_C G p s m args meth c own cc nL ret) (hR : tw_Rel G sz h H) (hL : tw_L G locs) {F : Int × tm_H → Option α} (hk : (fL_isGreediest a1 h).bind F = some x)  (hl : tw_mL own idx yL_isGreediest) (hRm : rmL_isGreediest.frames + 1 ≤ R.frames ∧ 8 + (9 + 11) + rmL_isGreediest.locals ≤ R.locals) (hsz : ls.size = nL) (hW : (rest.map fun v => v.category).sum ≤ 8) (hf : cells + 0 ≤ R.cells ∧ slots + 0 ≤ R.slots) (hdg : decode cc pc = .ok (.invokestatic idx, 3)) (kk : ∀ (r : Int) (h1 : tm_H) (H1 : Heap) (locs1 : List Loc), tw_Rel G sz h1 H1 → tw_L G locs1 → tm_rg r → F (r, h1) = some x → W p l e R s m args below meth c H1 locs1 (cells + 0) (slots + 0) Q (F0 m (pc + 3) ls (.int (tw_I r) :: rest))) : W p l e R s m args below meth c H locs cells slots Q (F0 m pc ls (.ref a1 :: rest)) := by
  obtain ⟨r, hr, hF⟩ := Option.bind_eq_some_iff.mp hk
  exact tw_backi (tw_runS hC hR (cL_isGreediest_ok l G sz a1  h r hr) (n := 1) ⟨tw_in_TB 637 (by decide +kernel) rfl, tw_in_TB 8 (by decide +kernel) rfl, by decide +kernel⟩ (tw_in_TB 636 (by decide +kernel) rfl) hl ⟨rfl, rfl⟩ hRm rfl hsz rfl hW hdg hf) hL (fun H1 locs1 a b g => kk r.1 r.2 H1 locs1 a b g hF)
def rmL_acts : Room := { frames := 8, cells := 0, slots := 0, locals := 184 }
set_option maxRecDepth 100000 in
set_option maxHeartbeats 4000000 in
theorem sL_acts_L122 {l : Launch} {p : Program} {e : Env} {s : State} {m : MethodId} {args : Array Value} {below : List Frame} {meth : Method} {c : Code} (G : tw_G) (sz : Nat) (hC : tw_C G p s m args meth c RL cL_acts 6 (some .int)) (a1 : Nat) (a2 : Int) (a3 : Int) (ga2 : tm_rg a2) (ga3 : tm_rg a3) (s0 : Nat) (s1 : Int) (s2 : Int) (h : tm_H) (gs1 : tm_rg s1) (gs2 : tm_rg s2) (out : Int × tm_H) (hk : fL_acts_L122 a1 a2 a3 s0 s1 s2 h = some out) (H : Heap) (locs : List Loc) (ls : Array Slot) (hR : tw_Rel G sz h H) (hL : tw_L G locs) (hl : lv_has ls 6 [(0, .ref a1), (1, .int (tw_I a2)), (2, .int (tw_I a3))]) : W p l e rmL_acts s m args below meth c H locs 0 0 (MQ below (tw_Qi G sz out.1 out.2) args s 0 0 (tw_F G)) (F0 m 122 ls [.int (tw_I s2), .int (tw_I s1), .ref s0]) := by
  unfold fL_acts_L122 at hk
  refine lv_iconst (v := tw_I (-1)) hC.1 hC.2.1 dL_acts_122 rfl ?_
  refine lv_iconst (v := tw_I (-1)) hC.1 hC.2.1 dL_acts_123 rfl ?_
  refine kX8_addTerm hC hR hL hk gs1 gs2 ((tw_rgL rfl)) ((tw_rgL rfl)) mlL_48 ⟨by decide, by decide⟩ hl.1 (Nat.le_of_ble_eq_true rfl) ⟨Nat.zero_le _, Nat.zero_le _⟩ dL_acts_124 (fun v49 h49 H locs hR hL gv49 hk => ?_)
  cases hk
  exact tw_iret hC hR hL gv49 rfl rfl dL_acts_127
set_option maxRecDepth 100000 in
set_option maxHeartbeats 4000000 in
theorem cL_acts_ok (l : Launch) (G : tw_G) (sz : Nat) (a1 : Nat) (a2 : Int) (a3 : Int) (ga2 : tm_rg a2) (ga3 : tm_rg a3) (h : tm_H) (out : Int × tm_H) (hk : fL_acts a1 a2 a3 h = some out) : Met l yL_acts (tw_WS yL_acts cL_acts 6 (some .int)) rmL_acts (va_Pc [.ref a1, .int (tw_I a2), .int (tw_I a3)] (tw_Pre G sz h)) (tw_Qi G sz out.1 out.2) 0 0 (tw_F G) := by
  refine tw_met (by decide +kernel) (Nat.le_of_ble_eq_true rfl) ?_
  intro p e s m args below meth c H ls hC hnm hR hl
  unfold fL_acts at hk
  have hl : lv_has ls 6 [(0, .ref a1), (1, .int (tw_I a2)), (2, .int (tw_I a3))] := hl
  have hL : tw_L G [] := fun q z => by cases z
  generalize hlc : ([] : List Loc) = locs at hL ⊢
  refine lv_iload_n hC.1 hC.2.1 dL_acts_0 rfl (lv_at hl 2 rfl) ?_
  refine lv_iconst (v := tw_I 2) hC.1 hC.2.1 dL_acts_1 rfl ?_
  refine kL_low hC hR hL hk ga3 ((tw_rgL rfl)) mlL_96 ⟨by decide, by decide⟩ hl.1 (Nat.le_of_ble_eq_true rfl) ⟨Nat.zero_le _, Nat.zero_le _⟩ dL_acts_2 (fun v1 H locs hR hL gv1 hk => ?_)
  refine lv_iconst (v := tw_I 3) hC.1 hC.2.1 dL_acts_5 rfl ?_
  refine tw_imul hC dL_acts_6 ?_
  refine lv_istore_n (lv' := [(3, .int (tw_I (tm_wr (v1 * 3)))), (0, .ref a1), (1, .int (tw_I a2)), (2, .int (tw_I a3))]) hC.1 hC.2.1 dL_acts_7 rfl hl (by decide) rfl (fun ls hl => ?_)
  refine lv_aload_n hC.1 hC.2.1 dL_acts_8 rfl (lv_at hl 1 rfl) ?_
  refine lv_iload_n hC.1 hC.2.1 dL_acts_9 rfl (lv_at hl 0 rfl) ?_
  refine kL_size hC hR hL hk ((tm_wr_rg _)) mlL_88 ⟨by decide, by decide⟩ hl.1 (Nat.le_of_ble_eq_true rfl) ⟨Nat.zero_le _, Nat.zero_le _⟩ dL_acts_10 (fun v2 h2 H locs hR hL gv2 hk => ?_)
  refine lv_istore (lv' := [(4, .int (tw_I v2)), (3, .int (tw_I (tm_wr (v1 * 3)))), (0, .ref a1), (1, .int (tw_I a2)), (2, .int (tw_I a3))]) hC.1 hC.2.1 dL_acts_13 hl (by decide) rfl (fun ls hl => ?_)
  refine lv_iload_n hC.1 hC.2.1 dL_acts_15 rfl (lv_at hl 4 rfl) ?_
  refine lv_iconst (v := tw_I 3) hC.1 hC.2.1 dL_acts_16 rfl ?_
  refine tw_ishr hC dL_acts_17 ?_
  refine lv_iconst (v := tw_I 5) hC.1 hC.2.1 dL_acts_18 rfl ?_
  refine kL_low hC hR hL hk ((tm_shr_rg _ _)) ((tw_rgL rfl)) mlL_96 ⟨by decide, by decide⟩ hl.1 (Nat.le_of_ble_eq_true rfl) ⟨Nat.zero_le _, Nat.zero_le _⟩ dL_acts_19 (fun v3 H locs hR hL gv3 hk => ?_)
  refine lv_istore (lv' := [(5, .int (tw_I v3)), (4, .int (tw_I v2)), (3, .int (tw_I (tm_wr (v1 * 3)))), (0, .ref a1), (1, .int (tw_I a2)), (2, .int (tw_I a3))]) hC.1 hC.2.1 dL_acts_22 hl (by decide) rfl (fun ls hl => ?_)
  refine lv_iload_n hC.1 hC.2.1 dL_acts_24 rfl (lv_at hl 4 rfl) ?_
  refine lv_bipush (v := tw_I 18) hC.1 hC.2.1 dL_acts_25 (by decide) ?_
  refine kL_low hC hR hL hk ga2 ((tw_rgL rfl)) mlL_96 ⟨by decide, by decide⟩ hl.1 (Nat.le_of_ble_eq_true rfl) ⟨Nat.zero_le _, Nat.zero_le _⟩ dL_acts_27 (fun v4 H locs hR hL gv4 hk => ?_)
  by_cases q7 : v4 = 0
  · rw [if_pos q7] at hk
    refine tw_tsIn (tgt := 96) hC 0 q7 (tw_rgL rfl) dL_acts_30 (by decide) (by decide) rfl (by decide) ?_
    refine lv_aload_n hC.1 hC.2.1 dL_acts_96 rfl (lv_at hl 3 rfl) ?_
    refine lv_iload hC.1 hC.2.1 dL_acts_97 (lv_at hl 0 rfl) ?_
    refine lv_iload_n hC.1 hC.2.1 dL_acts_99 rfl (lv_at hl 5 rfl) ?_
    refine lv_bipush (v := tw_I 6) hC.1 hC.2.1 dL_acts_100 (by decide) ?_
    refine tw_ishr hC dL_acts_102 ?_
    refine lv_iconst (v := tw_I 2) hC.1 hC.2.1 dL_acts_103 rfl ?_
    refine kL_low hC hR hL hk ((tm_shr_rg _ _)) ((tw_rgL rfl)) mlL_96 ⟨by decide, by decide⟩ hl.1 (Nat.le_of_ble_eq_true rfl) ⟨Nat.zero_le _, Nat.zero_le _⟩ dL_acts_104 (fun v5 H locs hR hL gv5 hk => ?_)
    refine tw_zne (tgt := 114) hC hk gv5 dL_acts_107 (by decide) (fun _ hk => ?_) (fun _ hk => ?_)
    · refine lv_iconst (v := tw_I (-1)) hC.1 hC.2.1 dL_acts_110 rfl ?_
      refine lv_goto (tgt := 122) hC.1 hC.2.1 dL_acts_111 (by decide) ?_
      exact sL_acts_L122 G sz hC a1 a2 a3 ga2 ga3 a1 v3 ((-1)) h2 gv3 ((tw_rgL rfl)) out hk H locs _ hR hL (lv_sub hl [3, 4, 5] rfl)
    · refine lv_iload_n hC.1 hC.2.1 dL_acts_114 rfl (lv_at hl 5 rfl) ?_
      refine lv_bipush (v := tw_I 7) hC.1 hC.2.1 dL_acts_115 (by decide) ?_
      refine tw_ishr hC dL_acts_117 ?_
      refine lv_iconst (v := tw_I 5) hC.1 hC.2.1 dL_acts_118 rfl ?_
      refine kL_low hC hR hL hk ((tm_shr_rg _ _)) ((tw_rgL rfl)) mlL_96 ⟨by decide, by decide⟩ hl.1 (Nat.le_of_ble_eq_true rfl) ⟨Nat.zero_le _, Nat.zero_le _⟩ dL_acts_119 (fun v6 H locs hR hL gv6 hk => ?_)
      exact sL_acts_L122 G sz hC a1 a2 a3 ga2 ga3 a1 v3 v6 h2 gv3 gv6 out hk H locs _ hR hL (lv_sub hl [3, 4, 5] rfl)
  · rw [if_neg q7] at hk
    by_cases q10 : v4 = 1
    · rw [if_pos q10] at hk
      refine tw_tsIn (tgt := 96) hC 1 q10 (tw_rgL rfl) dL_acts_30 (by decide) (by decide) rfl (by decide) ?_
      refine lv_aload_n hC.1 hC.2.1 dL_acts_96 rfl (lv_at hl 3 rfl) ?_
      refine lv_iload hC.1 hC.2.1 dL_acts_97 (lv_at hl 0 rfl) ?_
      refine lv_iload_n hC.1 hC.2.1 dL_acts_99 rfl (lv_at hl 5 rfl) ?_
      refine lv_bipush (v := tw_I 6) hC.1 hC.2.1 dL_acts_100 (by decide) ?_
      refine tw_ishr hC dL_acts_102 ?_
      refine lv_iconst (v := tw_I 2) hC.1 hC.2.1 dL_acts_103 rfl ?_
      refine kL_low hC hR hL hk ((tm_shr_rg _ _)) ((tw_rgL rfl)) mlL_96 ⟨by decide, by decide⟩ hl.1 (Nat.le_of_ble_eq_true rfl) ⟨Nat.zero_le _, Nat.zero_le _⟩ dL_acts_104 (fun v8 H locs hR hL gv8 hk => ?_)
      refine tw_zne (tgt := 114) hC hk gv8 dL_acts_107 (by decide) (fun _ hk => ?_) (fun _ hk => ?_)
      · refine lv_iconst (v := tw_I (-1)) hC.1 hC.2.1 dL_acts_110 rfl ?_
        refine lv_goto (tgt := 122) hC.1 hC.2.1 dL_acts_111 (by decide) ?_
        exact sL_acts_L122 G sz hC a1 a2 a3 ga2 ga3 a1 v3 ((-1)) h2 gv3 ((tw_rgL rfl)) out hk H locs _ hR hL (lv_sub hl [3, 4, 5] rfl)
      · refine lv_iload_n hC.1 hC.2.1 dL_acts_114 rfl (lv_at hl 5 rfl) ?_
        refine lv_bipush (v := tw_I 7) hC.1 hC.2.1 dL_acts_115 (by decide) ?_
        refine tw_ishr hC dL_acts_117 ?_
        refine lv_iconst (v := tw_I 5) hC.1 hC.2.1 dL_acts_118 rfl ?_
        refine kL_low hC hR hL hk ((tm_shr_rg _ _)) ((tw_rgL rfl)) mlL_96 ⟨by decide, by decide⟩ hl.1 (Nat.le_of_ble_eq_true rfl) ⟨Nat.zero_le _, Nat.zero_le _⟩ dL_acts_119 (fun v9 H locs hR hL gv9 hk => ?_)
        exact sL_acts_L122 G sz hC a1 a2 a3 ga2 ga3 a1 v3 v9 h2 gv3 gv9 out hk H locs _ hR hL (lv_sub hl [3, 4, 5] rfl)
    · rw [if_neg q10] at hk
      by_cases q13 : v4 = 2
      · rw [if_pos q13] at hk
        refine tw_tsIn (tgt := 96) hC 2 q13 (tw_rgL rfl) dL_acts_30 (by decide) (by decide) rfl (by decide) ?_
        refine lv_aload_n hC.1 hC.2.1 dL_acts_96 rfl (lv_at hl 3 rfl) ?_
        refine lv_iload hC.1 hC.2.1 dL_acts_97 (lv_at hl 0 rfl) ?_
        refine lv_iload_n hC.1 hC.2.1 dL_acts_99 rfl (lv_at hl 5 rfl) ?_
        refine lv_bipush (v := tw_I 6) hC.1 hC.2.1 dL_acts_100 (by decide) ?_
        refine tw_ishr hC dL_acts_102 ?_
        refine lv_iconst (v := tw_I 2) hC.1 hC.2.1 dL_acts_103 rfl ?_
        refine kL_low hC hR hL hk ((tm_shr_rg _ _)) ((tw_rgL rfl)) mlL_96 ⟨by decide, by decide⟩ hl.1 (Nat.le_of_ble_eq_true rfl) ⟨Nat.zero_le _, Nat.zero_le _⟩ dL_acts_104 (fun v11 H locs hR hL gv11 hk => ?_)
        refine tw_zne (tgt := 114) hC hk gv11 dL_acts_107 (by decide) (fun _ hk => ?_) (fun _ hk => ?_)
        · refine lv_iconst (v := tw_I (-1)) hC.1 hC.2.1 dL_acts_110 rfl ?_
          refine lv_goto (tgt := 122) hC.1 hC.2.1 dL_acts_111 (by decide) ?_
          exact sL_acts_L122 G sz hC a1 a2 a3 ga2 ga3 a1 v3 ((-1)) h2 gv3 ((tw_rgL rfl)) out hk H locs _ hR hL (lv_sub hl [3, 4, 5] rfl)
        · refine lv_iload_n hC.1 hC.2.1 dL_acts_114 rfl (lv_at hl 5 rfl) ?_
          refine lv_bipush (v := tw_I 7) hC.1 hC.2.1 dL_acts_115 (by decide) ?_
          refine tw_ishr hC dL_acts_117 ?_
          refine lv_iconst (v := tw_I 5) hC.1 hC.2.1 dL_acts_118 rfl ?_
          refine kL_low hC hR hL hk ((tm_shr_rg _ _)) ((tw_rgL rfl)) mlL_96 ⟨by decide, by decide⟩ hl.1 (Nat.le_of_ble_eq_true rfl) ⟨Nat.zero_le _, Nat.zero_le _⟩ dL_acts_119 (fun v12 H locs hR hL gv12 hk => ?_)
          exact sL_acts_L122 G sz hC a1 a2 a3 ga2 ga3 a1 v3 v12 h2 gv3 gv12 out hk H locs _ hR hL (lv_sub hl [3, 4, 5] rfl)
      · rw [if_neg q13] at hk
        by_cases q16 : v4 = 3
        · rw [if_pos q16] at hk
          refine tw_tsIn (tgt := 128) hC 3 q16 (tw_rgL rfl) dL_acts_30 (by decide) (by decide) rfl (by decide) ?_
          refine lv_aload_n hC.1 hC.2.1 dL_acts_128 rfl (lv_at hl 3 rfl) ?_
          refine lv_iload_n hC.1 hC.2.1 dL_acts_129 rfl (lv_at hl 5 rfl) ?_
          refine lv_iconst (v := tw_I 2) hC.1 hC.2.1 dL_acts_130 rfl ?_
          refine tw_ishr hC dL_acts_131 ?_
          refine lv_bipush (v := tw_I 13) hC.1 hC.2.1 dL_acts_132 (by decide) ?_
          refine kL_low hC hR hL hk ((tm_shr_rg _ _)) ((tw_rgL rfl)) mlL_96 ⟨by decide, by decide⟩ hl.1 (Nat.le_of_ble_eq_true rfl) ⟨Nat.zero_le _, Nat.zero_le _⟩ dL_acts_134 (fun v14 H locs hR hL gv14 hk => ?_)
          refine kX8_removeTerm hC hR hL hk gv14 mlL_52 ⟨by decide, by decide⟩ hl.1 (Nat.le_of_ble_eq_true rfl) ⟨Nat.zero_le _, Nat.zero_le _⟩ dL_acts_137 (fun v15 h15 H locs hR hL gv15 hk => ?_)
          cases hk
          exact tw_iret hC hR hL gv15 rfl rfl dL_acts_140
        · rw [if_neg q16] at hk
          by_cases q20 : v4 = 4
          · rw [if_pos q20] at hk
            refine tw_tsIn (tgt := 141) hC 4 q20 (tw_rgL rfl) dL_acts_30 (by decide) (by decide) rfl (by decide) ?_
            refine lv_aload_n hC.1 hC.2.1 dL_acts_141 rfl (lv_at hl 3 rfl) ?_
            refine lv_iload_n hC.1 hC.2.1 dL_acts_142 rfl (lv_at hl 5 rfl) ?_
            refine lv_iconst (v := tw_I 2) hC.1 hC.2.1 dL_acts_143 rfl ?_
            refine tw_ishr hC dL_acts_144 ?_
            refine lv_bipush (v := tw_I 8) hC.1 hC.2.1 dL_acts_145 (by decide) ?_
            refine kL_low hC hR hL hk ((tm_shr_rg _ _)) ((tw_rgL rfl)) mlL_96 ⟨by decide, by decide⟩ hl.1 (Nat.le_of_ble_eq_true rfl) ⟨Nat.zero_le _, Nat.zero_le _⟩ dL_acts_147 (fun v17 H locs hR hL gv17 hk => ?_)
            refine lv_iload_n hC.1 hC.2.1 dL_acts_150 rfl (lv_at hl 5 rfl) ?_
            refine lv_iconst (v := tw_I 2) hC.1 hC.2.1 dL_acts_151 rfl ?_
            refine kL_low hC hR hL hk ga3 ((tw_rgL rfl)) mlL_96 ⟨by decide, by decide⟩ hl.1 (Nat.le_of_ble_eq_true rfl) ⟨Nat.zero_le _, Nat.zero_le _⟩ dL_acts_152 (fun v18 H locs hR hL gv18 hk => ?_)
            refine kX8_setQuiet hC hR hL hk gv17 gv18 mlL_55 ⟨by decide, by decide⟩ hl.1 (Nat.le_of_ble_eq_true rfl) ⟨Nat.zero_le _, Nat.zero_le _⟩ dL_acts_155 (fun v19 h19 H locs hR hL gv19 hk => ?_)
            cases hk
            exact tw_iret hC hR hL gv19 rfl rfl dL_acts_158
          · rw [if_neg q20] at hk
            by_cases q23 : v4 = 5
            · rw [if_pos q23] at hk
              refine tw_tsIn (tgt := 159) hC 5 q23 (tw_rgL rfl) dL_acts_30 (by decide) (by decide) rfl (by decide) ?_
              refine lv_aload_n hC.1 hC.2.1 dL_acts_159 rfl (lv_at hl 3 rfl) ?_
              refine lv_iload hC.1 hC.2.1 dL_acts_160 (lv_at hl 0 rfl) ?_
              refine lv_iload_n hC.1 hC.2.1 dL_acts_162 rfl (lv_at hl 5 rfl) ?_
              refine lv_bipush (v := tw_I 6) hC.1 hC.2.1 dL_acts_163 (by decide) ?_
              refine tw_ishr hC dL_acts_165 ?_
              refine lv_bipush (v := tw_I 6) hC.1 hC.2.1 dL_acts_166 (by decide) ?_
              refine kL_low hC hR hL hk ((tm_shr_rg _ _)) ((tw_rgL rfl)) mlL_96 ⟨by decide, by decide⟩ hl.1 (Nat.le_of_ble_eq_true rfl) ⟨Nat.zero_le _, Nat.zero_le _⟩ dL_acts_168 (fun v21 H locs hR hL gv21 hk => ?_)
              refine kX8_setBase hC hR hL hk gv3 gv21 mlL_58 ⟨by decide, by decide⟩ hl.1 (Nat.le_of_ble_eq_true rfl) ⟨Nat.zero_le _, Nat.zero_le _⟩ dL_acts_171 (fun v22 h22 H locs hR hL gv22 hk => ?_)
              cases hk
              exact tw_iret hC hR hL gv22 rfl rfl dL_acts_174
            · rw [if_neg q23] at hk
              by_cases q26 : v4 = 6
              · rw [if_pos q26] at hk
                refine tw_tsIn (tgt := 159) hC 6 q26 (tw_rgL rfl) dL_acts_30 (by decide) (by decide) rfl (by decide) ?_
                refine lv_aload_n hC.1 hC.2.1 dL_acts_159 rfl (lv_at hl 3 rfl) ?_
                refine lv_iload hC.1 hC.2.1 dL_acts_160 (lv_at hl 0 rfl) ?_
                refine lv_iload_n hC.1 hC.2.1 dL_acts_162 rfl (lv_at hl 5 rfl) ?_
                refine lv_bipush (v := tw_I 6) hC.1 hC.2.1 dL_acts_163 (by decide) ?_
                refine tw_ishr hC dL_acts_165 ?_
                refine lv_bipush (v := tw_I 6) hC.1 hC.2.1 dL_acts_166 (by decide) ?_
                refine kL_low hC hR hL hk ((tm_shr_rg _ _)) ((tw_rgL rfl)) mlL_96 ⟨by decide, by decide⟩ hl.1 (Nat.le_of_ble_eq_true rfl) ⟨Nat.zero_le _, Nat.zero_le _⟩ dL_acts_168 (fun v24 H locs hR hL gv24 hk => ?_)
                refine kX8_setBase hC hR hL hk gv3 gv24 mlL_58 ⟨by decide, by decide⟩ hl.1 (Nat.le_of_ble_eq_true rfl) ⟨Nat.zero_le _, Nat.zero_le _⟩ dL_acts_171 (fun v25 h25 H locs hR hL gv25 hk => ?_)
                cases hk
                exact tw_iret hC hR hL gv25 rfl rfl dL_acts_174
              · rw [if_neg q26] at hk
                by_cases q31 : v4 = 7
                · rw [if_pos q31] at hk
                  refine tw_tsIn (tgt := 175) hC 7 q31 (tw_rgL rfl) dL_acts_30 (by decide) (by decide) rfl (by decide) ?_
                  refine lv_aload_n hC.1 hC.2.1 dL_acts_175 rfl (lv_at hl 3 rfl) ?_
                  refine lv_iload_n hC.1 hC.2.1 dL_acts_176 rfl (lv_at hl 2 rfl) ?_
                  refine lv_iload_n hC.1 hC.2.1 dL_acts_177 rfl (lv_at hl 5 rfl) ?_
                  refine lv_iconst (v := tw_I 4) hC.1 hC.2.1 dL_acts_178 rfl ?_
                  refine tw_ishr hC dL_acts_179 ?_
                  refine lv_iload hC.1 hC.2.1 dL_acts_180 (lv_at hl 1 rfl) ?_
                  refine lv_iconst (v := tw_I 1) hC.1 hC.2.1 dL_acts_182 rfl ?_
                  refine tw_iadd hC dL_acts_183 ?_
                  refine kL_low hC hR hL hk ((tm_shr_rg _ _)) ((tm_wr_rg _)) mlL_96 ⟨by decide, by decide⟩ hl.1 (Nat.le_of_ble_eq_true rfl) ⟨Nat.zero_le _, Nat.zero_le _⟩ dL_acts_184 (fun v27 H locs hR hL gv27 hk => ?_)
                  refine lv_iload_n hC.1 hC.2.1 dL_acts_187 rfl (lv_at hl 5 rfl) ?_
                  refine lv_iconst (v := tw_I 4) hC.1 hC.2.1 dL_acts_188 rfl ?_
                  refine tw_ishr hC dL_acts_189 ?_
                  refine lv_iload hC.1 hC.2.1 dL_acts_190 (lv_at hl 1 rfl) ?_
                  refine lv_iconst (v := tw_I 1) hC.1 hC.2.1 dL_acts_192 rfl ?_
                  refine tw_iadd hC dL_acts_193 ?_
                  refine kL_low hC hR hL hk ((tm_shr_rg _ _)) ((tm_wr_rg _)) mlL_96 ⟨by decide, by decide⟩ hl.1 (Nat.le_of_ble_eq_true rfl) ⟨Nat.zero_le _, Nat.zero_le _⟩ dL_acts_194 (fun v28 H locs hR hL gv28 hk => ?_)
                  refine lv_iload_n hC.1 hC.2.1 dL_acts_197 rfl (lv_at hl 5 rfl) ?_
                  refine lv_bipush (v := tw_I 9) hC.1 hC.2.1 dL_acts_198 (by decide) ?_
                  refine tw_ishr hC dL_acts_200 ?_
                  refine lv_iconst (v := tw_I 2) hC.1 hC.2.1 dL_acts_201 rfl ?_
                  refine kL_low hC hR hL hk ((tm_shr_rg _ _)) ((tw_rgL rfl)) mlL_96 ⟨by decide, by decide⟩ hl.1 (Nat.le_of_ble_eq_true rfl) ⟨Nat.zero_le _, Nat.zero_le _⟩ dL_acts_202 (fun v29 H locs hR hL gv29 hk => ?_)
                  refine tw_iadd hC dL_acts_205 ?_
                  refine kX8_delete hC hR hL hk ((tm_wr_rg _)) gv27 ((tm_wr_rg _)) mlL_39 ⟨by decide, by decide⟩ hl.1 (Nat.le_of_ble_eq_true rfl) ⟨Nat.zero_le _, Nat.zero_le _⟩ dL_acts_206 (fun v30 h30 H locs hR hL gv30 hk => ?_)
                  cases hk
                  exact tw_iret hC hR hL gv30 rfl rfl dL_acts_209
                · rw [if_neg q31] at hk
                  by_cases q34 : v4 = 8
                  · rw [if_pos q34] at hk
                    refine tw_tsIn (tgt := 210) hC 8 q34 (tw_rgL rfl) dL_acts_30 (by decide) (by decide) rfl (by decide) ?_
                    refine lv_aload_n hC.1 hC.2.1 dL_acts_210 rfl (lv_at hl 3 rfl) ?_
                    refine lv_iload hC.1 hC.2.1 dL_acts_211 (lv_at hl 0 rfl) ?_
                    refine lv_iload_n hC.1 hC.2.1 dL_acts_213 rfl (lv_at hl 5 rfl) ?_
                    refine lv_bipush (v := tw_I 6) hC.1 hC.2.1 dL_acts_214 (by decide) ?_
                    refine tw_ishr hC dL_acts_216 ?_
                    refine lv_bipush (v := tw_I 6) hC.1 hC.2.1 dL_acts_217 (by decide) ?_
                    refine kL_low hC hR hL hk ((tm_shr_rg _ _)) ((tw_rgL rfl)) mlL_96 ⟨by decide, by decide⟩ hl.1 (Nat.le_of_ble_eq_true rfl) ⟨Nat.zero_le _, Nat.zero_le _⟩ dL_acts_219 (fun v32 H locs hR hL gv32 hk => ?_)
                    refine kX8_replace hC hR hL hk gv3 gv32 mlL_42 ⟨by decide, by decide⟩ hl.1 (Nat.le_of_ble_eq_true rfl) ⟨Nat.zero_le _, Nat.zero_le _⟩ dL_acts_222 (fun v33 h33 H locs hR hL gv33 hk => ?_)
                    cases hk
                    exact tw_iret hC hR hL gv33 rfl rfl dL_acts_225
                  · rw [if_neg q34] at hk
                    by_cases q38 : v4 = 9
                    · rw [if_pos q38] at hk
                      refine tw_tsIn (tgt := 226) hC 9 q38 (tw_rgL rfl) dL_acts_30 (by decide) (by decide) rfl (by decide) ?_
                      refine lv_aload_n hC.1 hC.2.1 dL_acts_226 rfl (lv_at hl 3 rfl) ?_
                      refine lv_iload_n hC.1 hC.2.1 dL_acts_227 rfl (lv_at hl 5 rfl) ?_
                      refine lv_bipush (v := tw_I 6) hC.1 hC.2.1 dL_acts_228 (by decide) ?_
                      refine kL_low hC hR hL hk ga3 ((tw_rgL rfl)) mlL_96 ⟨by decide, by decide⟩ hl.1 (Nat.le_of_ble_eq_true rfl) ⟨Nat.zero_le _, Nat.zero_le _⟩ dL_acts_230 (fun v35 H locs hR hL gv35 hk => ?_)
                      refine lv_iload_n hC.1 hC.2.1 dL_acts_233 rfl (lv_at hl 5 rfl) ?_
                      refine lv_iconst (v := tw_I 3) hC.1 hC.2.1 dL_acts_234 rfl ?_
                      refine tw_ishr hC dL_acts_235 ?_
                      refine lv_bipush (v := tw_I 6) hC.1 hC.2.1 dL_acts_236 (by decide) ?_
                      refine kL_low hC hR hL hk ((tm_shr_rg _ _)) ((tw_rgL rfl)) mlL_96 ⟨by decide, by decide⟩ hl.1 (Nat.le_of_ble_eq_true rfl) ⟨Nat.zero_le _, Nat.zero_le _⟩ dL_acts_238 (fun v36 H locs hR hL gv36 hk => ?_)
                      refine kX8_swap hC hR hL hk gv35 gv36 mlL_45 ⟨by decide, by decide⟩ hl.1 (Nat.le_of_ble_eq_true rfl) ⟨Nat.zero_le _, Nat.zero_le _⟩ dL_acts_241 (fun v37 h37 H locs hR hL gv37 hk => ?_)
                      cases hk
                      exact tw_iret hC hR hL gv37 rfl rfl dL_acts_244
                    · rw [if_neg q38] at hk
                      by_cases q41 : v4 = 10
                      · rw [if_pos q41] at hk
                        refine tw_tsIn (tgt := 245) hC 10 q41 (tw_rgL rfl) dL_acts_30 (by decide) (by decide) rfl (by decide) ?_
                        refine lv_aload_n hC.1 hC.2.1 dL_acts_245 rfl (lv_at hl 3 rfl) ?_
                        refine lv_iload_n hC.1 hC.2.1 dL_acts_246 rfl (lv_at hl 5 rfl) ?_
                        refine lv_iconst (v := tw_I 2) hC.1 hC.2.1 dL_acts_247 rfl ?_
                        refine kL_low hC hR hL hk ga3 ((tw_rgL rfl)) mlL_96 ⟨by decide, by decide⟩ hl.1 (Nat.le_of_ble_eq_true rfl) ⟨Nat.zero_le _, Nat.zero_le _⟩ dL_acts_248 (fun v39 H locs hR hL gv39 hk => ?_)
                        refine kX8_take hC hR hL hk gv39 mlL_61 ⟨by decide, by decide⟩ hl.1 (Nat.le_of_ble_eq_true rfl) ⟨Nat.zero_le _, Nat.zero_le _⟩ dL_acts_251 (fun v40 h40 H locs hR hL gv40 hk => ?_)
                        cases hk
                        exact tw_iret hC hR hL gv40 rfl rfl dL_acts_254
                      · rw [if_neg q41] at hk
                        by_cases q44 : v4 = 11
                        · rw [if_pos q44] at hk
                          refine tw_tsIn (tgt := 255) hC 11 q44 (tw_rgL rfl) dL_acts_30 (by decide) (by decide) rfl (by decide) ?_
                          refine lv_aload_n hC.1 hC.2.1 dL_acts_255 rfl (lv_at hl 3 rfl) ?_
                          refine lv_iload_n hC.1 hC.2.1 dL_acts_256 rfl (lv_at hl 5 rfl) ?_
                          refine lv_iconst (v := tw_I 2) hC.1 hC.2.1 dL_acts_257 rfl ?_
                          refine kL_low hC hR hL hk ga3 ((tw_rgL rfl)) mlL_96 ⟨by decide, by decide⟩ hl.1 (Nat.le_of_ble_eq_true rfl) ⟨Nat.zero_le _, Nat.zero_le _⟩ dL_acts_258 (fun v42 H locs hR hL gv42 hk => ?_)
                          refine kX8_restore hC hR hL hk gv42 mlL_64 ⟨by decide, by decide⟩ hl.1 (Nat.le_of_ble_eq_true rfl) ⟨Nat.zero_le _, Nat.zero_le _⟩ dL_acts_261 (fun v43 h43 H locs hR hL gv43 hk => ?_)
                          cases hk
                          exact tw_iret hC hR hL gv43 rfl rfl dL_acts_264
                        · rw [if_neg q44] at hk
                          by_cases q46 : v4 = 12
                          · rw [if_pos q46] at hk
                            refine tw_tsIn (tgt := 265) hC 12 q46 (tw_rgL rfl) dL_acts_30 (by decide) (by decide) rfl (by decide) ?_
                            refine lv_aload_n hC.1 hC.2.1 dL_acts_265 rfl (lv_at hl 3 rfl) ?_
                            refine kX8_undo hC hR hL hk mlL_99 ⟨by decide, by decide⟩ hl.1 (Nat.le_of_ble_eq_true rfl) ⟨Nat.zero_le _, Nat.zero_le _⟩ dL_acts_266 (fun v45 h45 H locs hR hL gv45 hk => ?_)
                            cases hk
                            exact tw_iret hC hR hL gv45 rfl rfl dL_acts_269
                          · rw [if_neg q46] at hk
                            refine tw_tsOut (tgt := 270) hC gv4 dL_acts_30 (by omega) (by decide) ?_
                            refine lv_aload_n hC.1 hC.2.1 dL_acts_270 rfl (lv_at hl 3 rfl) ?_
                            refine lv_iload_n hC.1 hC.2.1 dL_acts_271 rfl (lv_at hl 2 rfl) ?_
                            refine lv_iload_n hC.1 hC.2.1 dL_acts_272 rfl (lv_at hl 5 rfl) ?_
                            refine lv_iconst (v := tw_I 4) hC.1 hC.2.1 dL_acts_273 rfl ?_
                            refine tw_ishr hC dL_acts_274 ?_
                            refine lv_iload hC.1 hC.2.1 dL_acts_275 (lv_at hl 1 rfl) ?_
                            refine lv_iconst (v := tw_I 1) hC.1 hC.2.1 dL_acts_277 rfl ?_
                            refine tw_iadd hC dL_acts_278 ?_
                            refine kL_low hC hR hL hk ((tm_shr_rg _ _)) ((tm_wr_rg _)) mlL_96 ⟨by decide, by decide⟩ hl.1 (Nat.le_of_ble_eq_true rfl) ⟨Nat.zero_le _, Nat.zero_le _⟩ dL_acts_279 (fun v47 H locs hR hL gv47 hk => ?_)
                            refine lv_iload hC.1 hC.2.1 dL_acts_282 (lv_at hl 0 rfl) ?_
                            refine kX8_insert hC hR hL hk ((tm_wr_rg _)) gv47 gv3 mlL_36 ⟨by decide, by decide⟩ hl.1 (Nat.le_of_ble_eq_true rfl) ⟨Nat.zero_le _, Nat.zero_le _⟩ dL_acts_284 (fun v48 h48 H locs hR hL gv48 hk => ?_)
                            cases hk
                            exact tw_iret hC hR hL gv48 rfl rfl dL_acts_287
set_option maxRecDepth 100000 in
theorem kL_acts {l : Launch} {p : Program} {e : Env} {R : Room} {s : State} {m : MethodId} {args : Array Value} {below : List Frame} {meth : Method} {c : Code} {H : Heap} {locs : List Loc} {cells slots : Nat} {Q : State → Prop} {cc : ByteArray} {pc nL idx : Nat} {ls : Array Slot} {rest : List Value} {G : tw_G} {h : tm_H} {own : String} {ret : Option FieldType} {α : Type} {x : α} {sz : Nat} {a1 : Nat} {a2 : Int} {a3 : Int} (hC : tw_C G p s m args meth c own cc nL ret) (hR : tw_Rel G sz h H) (hL : tw_L G locs) {F : Int × tm_H → Option α} (hk : (fL_acts a1 a2 a3 h).bind F = some x) (ga2 : tm_rg a2) (ga3 : tm_rg a3) (hl : tw_mL own idx yL_acts) (hRm : rmL_acts.frames + 1 ≤ R.frames ∧ 8 + (6 + 11) + rmL_acts.locals ≤ R.locals) (hsz : ls.size = nL) (hW : (rest.map fun v => v.category).sum ≤ 8) (hf : cells + 0 ≤ R.cells ∧ slots + 0 ≤ R.slots) (hdg : decode cc pc = .ok (.invokestatic idx, 3)) (kk : ∀ (r : Int) (h1 : tm_H) (H1 : Heap) (locs1 : List Loc), tw_Rel G sz h1 H1 → tw_L G locs1 → tm_rg r → F (r, h1) = some x → W p l e R s m args below meth c H1 locs1 (cells + 0) (slots + 0) Q (F0 m (pc + 3) ls (.int (tw_I r) :: rest))) : W p l e R s m args below meth c H locs cells slots Q (F0 m pc ls (.int (tw_I a3) :: .int (tw_I a2) :: .ref a1 :: rest)) := by
  obtain ⟨r, hr, hF⟩ := Option.bind_eq_some_iff.mp hk
  exact tw_backi (tw_runS hC hR (cL_acts_ok l G sz a1 a2 a3 ga2 ga3 h r hr) (n := 3) ⟨tw_in_TB 644 (by decide +kernel) rfl, tw_in_TB 8 (by decide +kernel) rfl, by decide +kernel⟩ (tw_in_TB 643 (by decide +kernel) rfl) hl ⟨rfl, rfl⟩ hRm rfl hsz rfl hW hdg hf) hL (fun H1 locs1 a b g => kk r.1 r.2 H1 locs1 a b g hF)
set_option maxRecDepth 100000 in
set_option maxHeartbeats 4000000 in
theorem sL_law_L331 {l : Launch} {p : Program} {e : Env} {s : State} {m : MethodId} {args : Array Value} {below : List Frame} {meth : Method} {c : Code} (G : tw_G) (sz : Nat) (hC : tw_C G p s m args meth c RL cL_law 12 (some .boolean)) (scr : tm_Xs) (gscr : scr = tw_xs G) (x1 : Nat) (x2 : Int) (h : tm_H) (gx2 : tm_rg x2) (out : Int) (hk : fL_law_L331 scr x1 x2 h = some out) (H : Heap) (locs : List Loc) (ls : Array Slot) (hR : tw_Rel G sz h H) (hL : tw_L G locs) (hl : lv_has ls 12 [(0, .ref (tw_xb G)), (1, .ref x1), (2, .int (tw_I x2))]) : W p l e room_1 s m args below meth c H locs 441 8919 (MQ below (tw_Qo out) args s 441 8919 (tw_F G)) (F0 m 331 ls []) := by
  unfold fL_law_L331 at hk
  refine lv_iload_n hC.1 hC.2.1 dL_law_331 rfl (lv_at hl 2 rfl) ?_
  refine tw_zeq (tgt := 360) hC hk gx2 dL_law_332 (by decide) (fun _ hk => ?_) (fun _ hk => ?_)
  · refine lv_iconst (v := tw_I 0) hC.1 hC.2.1 dL_law_360 rfl ?_
    cases hk
    exact tw_oret hC hL rfl dL_law_361
  · refine lv_aload_n hC.1 hC.2.1 dL_law_335 rfl (lv_at hl 1 rfl) ?_
    refine kL_refused hC hR hL hk mlL_107 ⟨by decide, by decide⟩ hl.1 (Nat.le_of_ble_eq_true rfl) ⟨by decide, by decide⟩ dL_law_336 (fun v29 h29 H locs hR hL gv29 hk => ?_)
    refine tw_zeq (tgt := 360) hC hk gv29 dL_law_339 (by decide) (fun _ hk => ?_) (fun _ hk => ?_)
    · refine lv_iconst (v := tw_I 0) hC.1 hC.2.1 dL_law_360 rfl ?_
      cases hk
      exact tw_oret hC hL rfl dL_law_361
    · refine lv_aload_n hC.1 hC.2.1 dL_law_342 rfl (lv_at hl 1 rfl) ?_
      refine kL_areReadings hC hR hL hk mlL_111 ⟨by decide, by decide⟩ hl.1 (Nat.le_of_ble_eq_true rfl) ⟨by decide, by decide⟩ dL_law_343 (fun v30 h30 H locs hR hL gv30 hk => ?_)
      refine tw_zeq (tgt := 360) hC hk gv30 dL_law_346 (by decide) (fun _ hk => ?_) (fun _ hk => ?_)
      · refine lv_iconst (v := tw_I 0) hC.1 hC.2.1 dL_law_360 rfl ?_
        cases hk
        exact tw_oret hC hL rfl dL_law_361
      · refine lv_aload_n hC.1 hC.2.1 dL_law_349 rfl (lv_at hl 1 rfl) ?_
        refine kL_areBases hC hR hL hk mlL_114 ⟨by decide, by decide⟩ hl.1 (Nat.le_of_ble_eq_true rfl) ⟨by decide, by decide⟩ dL_law_350 (fun v31 h31 H locs hR hL gv31 hk => ?_)
        refine tw_zeq (tgt := 360) hC hk gv31 dL_law_353 (by decide) (fun _ hk => ?_) (fun _ hk => ?_)
        · refine lv_iconst (v := tw_I 0) hC.1 hC.2.1 dL_law_360 rfl ?_
          cases hk
          exact tw_oret hC hL rfl dL_law_361
        · refine lv_iconst (v := tw_I 1) hC.1 hC.2.1 dL_law_356 rfl ?_
          refine lv_goto (tgt := 361) hC.1 hC.2.1 dL_law_357 (by decide) ?_
          cases hk
          exact tw_oret hC hL rfl dL_law_361
set_option maxRecDepth 100000 in
set_option maxHeartbeats 4000000 in
theorem sL_law_S1 {l : Launch} {p : Program} {e : Env} {s : State} {m : MethodId} {args : Array Value} {below : List Frame} {meth : Method} {c : Code} (G : tw_G) (sz : Nat) (hC : tw_C G p s m args meth c RL cL_law 12 (some .boolean)) (scr : tm_Xs) (gscr : scr = tw_xs G) : ∀ (k : Nat) (st : (Nat × Int × Int × tm_H) ⊕ (Nat × Int × Int × Int × Int64 × Int × tm_H) ⊕ (Nat × Int × Int × Int × Int64 × Int × tm_H) ⊕ (Nat × Int × Int × Int64 × Int × Int × tm_H) ⊕ (Nat × Int × Int × Int64 × Int × Int × Int × tm_H) ⊕ (Nat × Int × Int × Int64 × Int × Int × Int × tm_H) ⊕ (Nat × Int × Int × Int64 × Int × Int × Int × Int × tm_H) ⊕ (Nat × Int × Int × tm_H) ⊕ (Nat × Int × Int × Int × tm_H) ⊕ (Nat × Int × Int × Int × tm_H) ⊕ (Nat × Int × Int × tm_H) ⊕ (Nat × Int × tm_H) ⊕ (Nat × Int × tm_H) ⊕ (Nat × Int × tm_H) ⊕ (Nat × Int × tm_H) ⊕ (Nat × Int × Int × tm_H)) (out : Int), tm_wit (fL_law_S1 scr) k st = some out → match st with
    | .inl ((x1, x2, x3, h)) => ∀ (H : Heap) (locs : List Loc) (ls : Array Slot), tm_rg x2 → tm_rg x3 → tw_Rel G sz h H → tw_L G locs → lv_has ls 12 [(0, .ref (tw_xb G)), (1, .ref x1), (2, .int (tw_I x2)), (3, .int (tw_I x3))] → W p l e room_1 s m args below meth c H locs 441 8919 (MQ below (tw_Qo out) args s 441 8919 (tw_F G)) (F0 m 46 ls [])
    | .inr (.inl ((x1, x3, x4, x5, x6, x8, h))) => ∀ (H : Heap) (locs : List Loc) (ls : Array Slot), tm_rg x3 → tm_rg x4 → tm_rg x5 → tm_rg x8 → tw_Rel G sz h H → tw_L G locs → lv_has ls 12 [(0, .ref (tw_xb G)), (1, .ref x1), (3, .int (tw_I x3)), (4, .int (tw_I x4)), (5, .int (tw_I x5)), (6, .long x6), (8, .int (tw_I x8))] → W p l e room_1 s m args below meth c H locs 441 8919 (MQ below (tw_Qo out) args s 441 8919 (tw_F G)) (F0 m 108 ls [])
    | .inr (.inr (.inl ((x1, x3, x4, x5, x6, x8, h)))) => ∀ (H : Heap) (locs : List Loc) (ls : Array Slot), tm_rg x3 → tm_rg x4 → tm_rg x5 → tm_rg x8 → tw_Rel G sz h H → tw_L G locs → lv_has ls 12 [(0, .ref (tw_xb G)), (1, .ref x1), (3, .int (tw_I x3)), (4, .int (tw_I x4)), (5, .int (tw_I x5)), (6, .long x6), (8, .int (tw_I x8))] → W p l e room_1 s m args below meth c H locs 441 8919 (MQ below (tw_Qo out) args s 441 8919 (tw_F G)) (F0 m 126 ls [])
    | .inr (.inr (.inr (.inl ((x1, x3, x5, x6, x8, s0, h))))) => ∀ (H : Heap) (locs : List Loc) (ls : Array Slot), tm_rg x3 → tm_rg x5 → tm_rg x8 → tm_rg s0 → tw_Rel G sz h H → tw_L G locs → lv_has ls 12 [(0, .ref (tw_xb G)), (1, .ref x1), (3, .int (tw_I x3)), (5, .int (tw_I x5)), (6, .long x6), (8, .int (tw_I x8))] → W p l e room_1 s m args below meth c H locs 441 8919 (MQ below (tw_Qo out) args s 441 8919 (tw_F G)) (F0 m 128 ls [.int (tw_I s0)])
    | .inr (.inr (.inr (.inr (.inl ((x1, x3, x5, x6, x8, x10, x11, h)))))) => ∀ (H : Heap) (locs : List Loc) (ls : Array Slot), tm_rg x3 → tm_rg x5 → tm_rg x8 → tm_rg x10 → tm_rg x11 → tw_Rel G sz h H → tw_L G locs → lv_has ls 12 [(0, .ref (tw_xb G)), (1, .ref x1), (3, .int (tw_I x3)), (5, .int (tw_I x5)), (6, .long x6), (8, .int (tw_I x8)), (10, .int (tw_I x10)), (11, .int (tw_I x11))] → W p l e room_1 s m args below meth c H locs 441 8919 (MQ below (tw_Qo out) args s 441 8919 (tw_F G)) (F0 m 177 ls [])
    | .inr (.inr (.inr (.inr (.inr (.inl ((x1, x3, x5, x6, x8, x10, x11, h))))))) => ∀ (H : Heap) (locs : List Loc) (ls : Array Slot), tm_rg x3 → tm_rg x5 → tm_rg x8 → tm_rg x10 → tm_rg x11 → tw_Rel G sz h H → tw_L G locs → lv_has ls 12 [(0, .ref (tw_xb G)), (1, .ref x1), (3, .int (tw_I x3)), (5, .int (tw_I x5)), (6, .long x6), (8, .int (tw_I x8)), (10, .int (tw_I x10)), (11, .int (tw_I x11))] → W p l e room_1 s m args below meth c H locs 441 8919 (MQ below (tw_Qo out) args s 441 8919 (tw_F G)) (F0 m 181 ls [])
    | .inr (.inr (.inr (.inr (.inr (.inr (.inl ((x1, x3, x5, x6, x8, x10, x11, s0, h)))))))) => ∀ (H : Heap) (locs : List Loc) (ls : Array Slot), tm_rg x3 → tm_rg x5 → tm_rg x8 → tm_rg x10 → tm_rg x11 → tm_rg s0 → tw_Rel G sz h H → tw_L G locs → lv_has ls 12 [(0, .ref (tw_xb G)), (1, .ref x1), (3, .int (tw_I x3)), (5, .int (tw_I x5)), (6, .long x6), (8, .int (tw_I x8)), (10, .int (tw_I x10)), (11, .int (tw_I x11))] → W p l e room_1 s m args below meth c H locs 441 8919 (MQ below (tw_Qo out) args s 441 8919 (tw_F G)) (F0 m 182 ls [.int (tw_I s0)])
    | .inr (.inr (.inr (.inr (.inr (.inr (.inr (.inl ((x1, x3, x5, h))))))))) => ∀ (H : Heap) (locs : List Loc) (ls : Array Slot), tm_rg x3 → tm_rg x5 → tw_Rel G sz h H → tw_L G locs → lv_has ls 12 [(0, .ref (tw_xb G)), (1, .ref x1), (3, .int (tw_I x3)), (5, .int (tw_I x5))] → W p l e room_1 s m args below meth c H locs 441 8919 (MQ below (tw_Qo out) args s 441 8919 (tw_F G)) (F0 m 230 ls [])
    | .inr (.inr (.inr (.inr (.inr (.inr (.inr (.inr (.inl ((x1, x3, x5, s0, h)))))))))) => ∀ (H : Heap) (locs : List Loc) (ls : Array Slot), tm_rg x3 → tm_rg x5 → tm_rg s0 → tw_Rel G sz h H → tw_L G locs → lv_has ls 12 [(0, .ref (tw_xb G)), (1, .ref x1), (3, .int (tw_I x3)), (5, .int (tw_I x5))] → W p l e room_1 s m args below meth c H locs 441 8919 (MQ below (tw_Qo out) args s 441 8919 (tw_F G)) (F0 m 231 ls [.int (tw_I s0)])
    | .inr (.inr (.inr (.inr (.inr (.inr (.inr (.inr (.inr (.inl ((x1, x2, x3, x5, h))))))))))) => ∀ (H : Heap) (locs : List Loc) (ls : Array Slot), tm_rg x2 → tm_rg x3 → tm_rg x5 → tw_Rel G sz h H → tw_L G locs → lv_has ls 12 [(0, .ref (tw_xb G)), (1, .ref x1), (2, .int (tw_I x2)), (3, .int (tw_I x3)), (5, .int (tw_I x5))] → W p l e room_1 s m args below meth c H locs 441 8919 (MQ below (tw_Qo out) args s 441 8919 (tw_F G)) (F0 m 232 ls [])
    | .inr (.inr (.inr (.inr (.inr (.inr (.inr (.inr (.inr (.inr (.inl ((x1, x3, x5, h)))))))))))) => ∀ (H : Heap) (locs : List Loc) (ls : Array Slot), tm_rg x3 → tm_rg x5 → tw_Rel G sz h H → tw_L G locs → lv_has ls 12 [(0, .ref (tw_xb G)), (1, .ref x1), (3, .int (tw_I x3)), (5, .int (tw_I x5))] → W p l e room_1 s m args below meth c H locs 441 8919 (MQ below (tw_Qo out) args s 441 8919 (tw_F G)) (F0 m 269 ls [])
    | .inr (.inr (.inr (.inr (.inr (.inr (.inr (.inr (.inr (.inr (.inr (.inl ((x1, x3, h))))))))))))) => ∀ (H : Heap) (locs : List Loc) (ls : Array Slot), tm_rg x3 → tw_Rel G sz h H → tw_L G locs → lv_has ls 12 [(0, .ref (tw_xb G)), (1, .ref x1), (3, .int (tw_I x3))] → W p l e room_1 s m args below meth c H locs 441 8919 (MQ below (tw_Qo out) args s 441 8919 (tw_F G)) (F0 m 287 ls [])
    | .inr (.inr (.inr (.inr (.inr (.inr (.inr (.inr (.inr (.inr (.inr (.inr (.inl ((x1, x3, h)))))))))))))) => ∀ (H : Heap) (locs : List Loc) (ls : Array Slot), tm_rg x3 → tw_Rel G sz h H → tw_L G locs → lv_has ls 12 [(0, .ref (tw_xb G)), (1, .ref x1), (3, .int (tw_I x3))] → W p l e room_1 s m args below meth c H locs 441 8919 (MQ below (tw_Qo out) args s 441 8919 (tw_F G)) (F0 m 303 ls [])
    | .inr (.inr (.inr (.inr (.inr (.inr (.inr (.inr (.inr (.inr (.inr (.inr (.inr (.inl ((x1, x3, h))))))))))))))) => ∀ (H : Heap) (locs : List Loc) (ls : Array Slot), tm_rg x3 → tw_Rel G sz h H → tw_L G locs → lv_has ls 12 [(0, .ref (tw_xb G)), (1, .ref x1), (3, .int (tw_I x3))] → W p l e room_1 s m args below meth c H locs 441 8919 (MQ below (tw_Qo out) args s 441 8919 (tw_F G)) (F0 m 319 ls [])
    | .inr (.inr (.inr (.inr (.inr (.inr (.inr (.inr (.inr (.inr (.inr (.inr (.inr (.inr (.inl ((x1, x3, h)))))))))))))))) => ∀ (H : Heap) (locs : List Loc) (ls : Array Slot), tm_rg x3 → tw_Rel G sz h H → tw_L G locs → lv_has ls 12 [(0, .ref (tw_xb G)), (1, .ref x1), (3, .int (tw_I x3))] → W p l e room_1 s m args below meth c H locs 441 8919 (MQ below (tw_Qo out) args s 441 8919 (tw_F G)) (F0 m 323 ls [])
    | .inr (.inr (.inr (.inr (.inr (.inr (.inr (.inr (.inr (.inr (.inr (.inr (.inr (.inr (.inr ((x1, x3, s0, h)))))))))))))))) => ∀ (H : Heap) (locs : List Loc) (ls : Array Slot), tm_rg x3 → tm_rg s0 → tw_Rel G sz h H → tw_L G locs → lv_has ls 12 [(0, .ref (tw_xb G)), (1, .ref x1), (3, .int (tw_I x3))] → W p l e room_1 s m args below meth c H locs 441 8919 (MQ below (tw_Qo out) args s 441 8919 (tw_F G)) (F0 m 324 ls [.int (tw_I s0)]) := by
  intro k
  induction k with
  | zero =>
    intro st out hk
    exact absurd hk (by unfold tm_wit; exact fun z => by cases z)
  | succ k ih =>
    intro st out hk
    obtain ⟨X, hk, hf⟩ := tm_wit_succ hk
    obtain ⟨x1, x2, x3, h⟩ | ⟨x1, x3, x4, x5, x6, x8, h⟩ | ⟨x1, x3, x4, x5, x6, x8, h⟩ | ⟨x1, x3, x5, x6, x8, s0, h⟩ | ⟨x1, x3, x5, x6, x8, x10, x11, h⟩ | ⟨x1, x3, x5, x6, x8, x10, x11, h⟩ | ⟨x1, x3, x5, x6, x8, x10, x11, s0, h⟩ | ⟨x1, x3, x5, h⟩ | ⟨x1, x3, x5, s0, h⟩ | ⟨x1, x2, x3, x5, h⟩ | ⟨x1, x3, x5, h⟩ | ⟨x1, x3, h⟩ | ⟨x1, x3, h⟩ | ⟨x1, x3, h⟩ | ⟨x1, x3, h⟩ | ⟨x1, x3, s0, h⟩ := st
    · intro H locs ls gx2 gx3 hR hL hl
      dsimp only [fL_law_S1] at hk
      refine lv_iload_n hC.1 hC.2.1 dL_law_46 rfl (lv_at hl 3 rfl) ?_
      refine lv_bipush (v := tw_I 50) hC.1 hC.2.1 dL_law_47 (by decide) ?_
      refine tw_cge (tgt := 331) hC hk gx3 ((tw_rgL rfl)) dL_law_49 (by decide) (fun _ hk => ?_) (fun _ hk => ?_)
      · refine lv_iload_n hC.1 hC.2.1 dL_law_52 rfl (lv_at hl 2 rfl) ?_
        refine tw_zeq (tgt := 331) hC hk gx2 dL_law_53 (by decide) (fun _ hk => ?_) (fun _ hk => ?_)
        · obtain ⟨r, hk2, hX⟩ := tm_out_some hk
          rw [hX] at hf
          have hr : r = out := Option.some.inj hf
          rw [hr] at hk2
          exact sL_law_L331 G sz hC scr gscr x1 x2 h gx2 out hk2 H locs _ hR hL (lv_sub hl [0, 1, 2] rfl)
        · refine lv_aload_n hC.1 hC.2.1 dL_law_56 rfl (lv_at hl 0 rfl) ?_
          refine lv_iconst (v := tw_I 2) hC.1 hC.2.1 dL_law_57 rfl ?_
          refine lv_iload_n hC.1 hC.2.1 dL_law_58 rfl (lv_at hl 3 rfl) ?_
          refine tw_imul hC dL_law_59 ?_
          refine kL_cell hC hR hL hk gscr ((tm_wr_rg _)) mlL_117 ⟨by decide, by decide⟩ hl.1 (Nat.le_of_ble_eq_true rfl) ⟨by decide, by decide⟩ dL_law_60 (fun v7 H locs hR hL gv7 hk => ?_)
          refine lv_istore (lv' := [(4, .int (tw_I v7)), (0, .ref (tw_xb G)), (1, .ref x1), (2, .int (tw_I x2)), (3, .int (tw_I x3))]) hC.1 hC.2.1 dL_law_63 hl (by decide) rfl (fun ls hl => ?_)
          refine lv_aload_n hC.1 hC.2.1 dL_law_65 rfl (lv_at hl 1 rfl) ?_
          refine lv_iconst (v := tw_I 2) hC.1 hC.2.1 dL_law_66 rfl ?_
          refine lv_iload_n hC.1 hC.2.1 dL_law_67 rfl (lv_at hl 4 rfl) ?_
          refine tw_imul hC dL_law_68 ?_
          refine lv_iconst (v := tw_I 1) hC.1 hC.2.1 dL_law_69 rfl ?_
          refine tw_iadd hC dL_law_70 ?_
          refine kL_cell hC hR hL hk gscr ((tm_wr_rg _)) mlL_117 ⟨by decide, by decide⟩ hl.1 (Nat.le_of_ble_eq_true rfl) ⟨by decide, by decide⟩ dL_law_71 (fun v8 H locs hR hL gv8 hk => ?_)
          refine lv_istore (lv' := [(5, .int (tw_I v8)), (4, .int (tw_I v7)), (0, .ref (tw_xb G)), (1, .ref x1), (2, .int (tw_I x2)), (3, .int (tw_I x3))]) hC.1 hC.2.1 dL_law_74 hl (by decide) rfl (fun ls hl => ?_)
          refine lv_aload_n hC.1 hC.2.1 dL_law_76 rfl (lv_at hl 3 rfl) ?_
          refine kL_print hC hR hL hk mlL_30 ⟨by decide, by decide⟩ hl.1 (Nat.le_of_ble_eq_true rfl) ⟨by decide, by decide⟩ dL_law_77 (fun v9 h9 H locs hR hL hk => ?_)
          refine lv_lstore (lv' := [(6, .long v9), (5, .int (tw_I v8)), (4, .int (tw_I v7)), (0, .ref (tw_xb G)), (1, .ref x1), (2, .int (tw_I x2)), (3, .int (tw_I x3))]) hC.1 hC.2.1 dL_law_80 hl (by decide) rfl (fun ls hl => ?_)
          refine lv_aload_n hC.1 hC.2.1 dL_law_82 rfl (lv_at hl 4 rfl) ?_
          refine lv_bipush (v := tw_I 8) hC.1 hC.2.1 dL_law_83 (by decide) ?_
          refine kX8_count hC hR hL hk ((tw_rgL rfl)) mlL_13 ⟨by decide, by decide⟩ hl.1 (Nat.le_of_ble_eq_true rfl) ⟨by decide, by decide⟩ dL_law_85 (fun v10 h10 H locs hR hL gv10 hk => ?_)
          refine lv_istore (lv' := [(8, .int (tw_I v10)), (6, .long v9), (5, .int (tw_I v8)), (4, .int (tw_I v7)), (0, .ref (tw_xb G)), (1, .ref x1), (2, .int (tw_I x2)), (3, .int (tw_I x3))]) hC.1 hC.2.1 dL_law_88 hl (by decide) rfl (fun ls hl => ?_)
          refine lv_iload_n hC.1 hC.2.1 dL_law_90 rfl (lv_at hl 7 rfl) ?_
          refine lv_bipush (v := tw_I 10) hC.1 hC.2.1 dL_law_91 (by decide) ?_
          refine tw_clt (tgt := 108) hC hk gx3 ((tw_rgL rfl)) dL_law_93 (by decide) (fun _ hk => ?_) (fun _ hk => ?_)
          · cases hk
            exact ih _ out hf H locs _ gx3 gv7 gv8 gv10 hR hL (lv_sub hl [4, 5, 7, 3, 2, 1, 0] rfl)
          · refine lv_iload_n hC.1 hC.2.1 dL_law_96 rfl (lv_at hl 7 rfl) ?_
            refine lv_bipush (v := tw_I 18) hC.1 hC.2.1 dL_law_97 (by decide) ?_
            refine tw_clt (tgt := 126) hC hk gx3 ((tw_rgL rfl)) dL_law_99 (by decide) (fun _ hk => ?_) (fun _ hk => ?_)
            · cases hk
              exact ih _ out hf H locs _ gx3 gv7 gv8 gv10 hR hL (lv_sub hl [4, 5, 7, 3, 2, 1, 0] rfl)
            · refine lv_iload_n hC.1 hC.2.1 dL_law_102 rfl (lv_at hl 7 rfl) ?_
              refine lv_bipush (v := tw_I 23) hC.1 hC.2.1 dL_law_103 (by decide) ?_
              refine tw_cge (tgt := 126) hC hk gx3 ((tw_rgL rfl)) dL_law_105 (by decide) (fun _ hk => ?_) (fun _ hk => ?_)
              · cases hk
                exact ih _ out hf H locs _ gx3 gv7 gv8 gv10 hR hL (lv_sub hl [4, 5, 7, 3, 2, 1, 0] rfl)
              · cases hk
                exact ih _ out hf H locs _ gx3 gv7 gv8 gv10 hR hL (lv_sub hl [4, 5, 7, 3, 2, 1, 0] rfl)
      · obtain ⟨r, hk2, hX⟩ := tm_out_some hk
        rw [hX] at hf
        have hr : r = out := Option.some.inj hf
        rw [hr] at hk2
        exact sL_law_L331 G sz hC scr gscr x1 x2 h gx2 out hk2 H locs _ hR hL (lv_sub hl [0, 1, 2] rfl)
    · intro H locs ls gx3 gx4 gx5 gx8 hR hL hl
      dsimp only [fL_law_S1] at hk
      refine lv_bipush (v := tw_I 18) hC.1 hC.2.1 dL_law_108 (by decide) ?_
      refine lv_iload hC.1 hC.2.1 dL_law_110 (lv_at hl 3 rfl) ?_
      refine lv_iconst (v := tw_I 5) hC.1 hC.2.1 dL_law_112 rfl ?_
      refine tw_ishr hC dL_law_113 ?_
      refine tw_ldc (z := 999999) (v := 999999) hC (tw_in_TB 645 (by decide +kernel) rfl) (by decide) dL_law_114 ?_
      refine kL_low hC hR hL hk ((tm_shr_rg _ _)) ((tw_rgL rfl)) mlL_96 ⟨by decide, by decide⟩ hl.1 (Nat.le_of_ble_eq_true rfl) ⟨by decide, by decide⟩ dL_law_116 (fun v28 H locs hR hL gv28 hk => ?_)
      refine tw_imul hC dL_law_119 ?_
      refine lv_bipush (v := tw_I 13) hC.1 hC.2.1 dL_law_120 (by decide) ?_
      refine tw_iadd hC dL_law_122 ?_
      refine lv_goto (tgt := 128) hC.1 hC.2.1 dL_law_123 (by decide) ?_
      cases hk
      exact ih _ out hf H locs _ gx3 gx5 gx8 ((tm_wr_rg _)) hR hL (lv_sub hl [0, 1, 2, 4, 5, 6] rfl)
    · intro H locs ls gx3 gx4 gx5 gx8 hR hL hl
      dsimp only [fL_law_S1] at hk
      refine lv_iload hC.1 hC.2.1 dL_law_126 (lv_at hl 3 rfl) ?_
      cases hk
      exact ih _ out hf H locs _ gx3 gx5 gx8 gx4 hR hL (lv_sub hl [0, 1, 2, 4, 5, 6] rfl)
    · intro H locs ls gx3 gx5 gx8 gs0 hR hL hl
      dsimp only [fL_law_S1] at hk
      refine lv_istore (lv' := [(9, .int (tw_I s0)), (0, .ref (tw_xb G)), (1, .ref x1), (3, .int (tw_I x3)), (5, .int (tw_I x5)), (6, .long x6), (8, .int (tw_I x8))]) hC.1 hC.2.1 dL_law_128 hl (by decide) rfl (fun ls hl => ?_)
      refine lv_aload_n hC.1 hC.2.1 dL_law_130 rfl (lv_at hl 2 rfl) ?_
      refine lv_iload hC.1 hC.2.1 dL_law_131 (lv_at hl 0 rfl) ?_
      refine lv_iload hC.1 hC.2.1 dL_law_133 (lv_at hl 4 rfl) ?_
      refine kL_acts hC hR hL hk gs0 gx5 mlL_122 ⟨by decide, by decide⟩ hl.1 (Nat.le_of_ble_eq_true rfl) ⟨by decide, by decide⟩ dL_law_135 (fun v11 h11 H locs hR hL gv11 hk => ?_)
      refine lv_istore (lv' := [(10, .int (tw_I v11)), (9, .int (tw_I s0)), (0, .ref (tw_xb G)), (1, .ref x1), (3, .int (tw_I x3)), (5, .int (tw_I x5)), (6, .long x6), (8, .int (tw_I x8))]) hC.1 hC.2.1 dL_law_138 hl (by decide) rfl (fun ls hl => ?_)
      refine lv_aload_n hC.1 hC.2.1 dL_law_140 rfl (lv_at hl 3 rfl) ?_
      refine lv_bipush (v := tw_I 8) hC.1 hC.2.1 dL_law_141 (by decide) ?_
      refine kX8_count hC hR hL hk ((tw_rgL rfl)) mlL_13 ⟨by decide, by decide⟩ hl.1 (Nat.le_of_ble_eq_true rfl) ⟨by decide, by decide⟩ dL_law_143 (fun v12 h12 H locs hR hL gv12 hk => ?_)
      refine lv_istore (lv' := [(11, .int (tw_I v12)), (10, .int (tw_I v11)), (9, .int (tw_I s0)), (0, .ref (tw_xb G)), (1, .ref x1), (3, .int (tw_I x3)), (5, .int (tw_I x5)), (6, .long x6), (8, .int (tw_I x8))]) hC.1 hC.2.1 dL_law_146 hl (by decide) rfl (fun ls hl => ?_)
      refine lv_iload hC.1 hC.2.1 dL_law_148 (lv_at hl 1 rfl) ?_
      refine tw_zge (tgt := 177) hC hk gv11 dL_law_150 (by decide) (fun _ hk => ?_) (fun _ hk => ?_)
      · refine lv_iload hC.1 hC.2.1 dL_law_153 (lv_at hl 1 rfl) ?_
        refine lv_bipush (v := tw_I (-3)) hC.1 hC.2.1 dL_law_155 (by decide) ?_
        refine tw_clt (tgt := 181) hC hk gv11 ((tw_rgL rfl)) dL_law_157 (by decide) (fun _ hk => ?_) (fun _ hk => ?_)
        · cases hk
          exact ih _ out hf H locs _ gx3 gx5 gx8 gv11 gv12 hR hL (lv_sub hl [3, 4, 5, 6, 7, 8, 1, 0] rfl)
        · refine lv_aload_n hC.1 hC.2.1 dL_law_160 rfl (lv_at hl 4 rfl) ?_
          refine kL_print hC hR hL hk mlL_30 ⟨by decide, by decide⟩ hl.1 (Nat.le_of_ble_eq_true rfl) ⟨by decide, by decide⟩ dL_law_161 (fun v13 h13 H locs hR hL hk => ?_)
          refine lv_lload hC.1 hC.2.1 dL_law_164 (lv_at hl 7 rfl) ?_
          refine tw_lcmp hC dL_law_166 ?_
          refine tw_zne (tgt := 181) hC hk ((tm_lcmp_rg _ _)) dL_law_167 (by decide) (fun _ hk => ?_) (fun _ hk => ?_)
          · refine lv_iload hC.1 hC.2.1 dL_law_170 (lv_at hl 0 rfl) ?_
            refine lv_iload hC.1 hC.2.1 dL_law_172 (lv_at hl 8 rfl) ?_
            refine tw_cne (tgt := 181) hC hk gv12 gx8 dL_law_174 (by decide) (fun _ hk => ?_) (fun _ hk => ?_)
            · cases hk
              exact ih _ out hf H locs _ gx3 gx5 gx8 gv11 gv12 hR hL (lv_sub hl [3, 4, 5, 6, 7, 8, 1, 0] rfl)
            · cases hk
              exact ih _ out hf H locs _ gx3 gx5 gx8 gv11 gv12 hR hL (lv_sub hl [3, 4, 5, 6, 7, 8, 1, 0] rfl)
          · cases hk
            exact ih _ out hf H locs _ gx3 gx5 gx8 gv11 gv12 hR hL (lv_sub hl [3, 4, 5, 6, 7, 8, 1, 0] rfl)
      · cases hk
        exact ih _ out hf H locs _ gx3 gx5 gx8 gv11 gv12 hR hL (lv_sub hl [3, 4, 5, 6, 7, 8, 1, 0] rfl)
    · intro H locs ls gx3 gx5 gx8 gx10 gx11 hR hL hl
      dsimp only [fL_law_S1] at hk
      refine lv_iconst (v := tw_I 1) hC.1 hC.2.1 dL_law_177 rfl ?_
      refine lv_goto (tgt := 182) hC.1 hC.2.1 dL_law_178 (by decide) ?_
      cases hk
      exact ih _ out hf H locs _ gx3 gx5 gx8 gx10 gx11 ((tw_rgL rfl)) hR hL (lv_sub hl [0, 1, 2, 3, 4, 5, 6, 7] rfl)
    · intro H locs ls gx3 gx5 gx8 gx10 gx11 hR hL hl
      dsimp only [fL_law_S1] at hk
      refine lv_iconst (v := tw_I 0) hC.1 hC.2.1 dL_law_181 rfl ?_
      cases hk
      exact ih _ out hf H locs _ gx3 gx5 gx8 gx10 gx11 ((tw_rgL rfl)) hR hL (lv_sub hl [0, 1, 2, 3, 4, 5, 6, 7] rfl)
    · intro H locs ls gx3 gx5 gx8 gx10 gx11 gs0 hR hL hl
      dsimp only [fL_law_S1] at hk
      refine lv_istore_n (lv' := [(2, .int (tw_I s0)), (0, .ref (tw_xb G)), (1, .ref x1), (3, .int (tw_I x3)), (5, .int (tw_I x5)), (6, .long x6), (8, .int (tw_I x8)), (10, .int (tw_I x10)), (11, .int (tw_I x11))]) hC.1 hC.2.1 dL_law_182 rfl hl (by decide) rfl (fun ls hl => ?_)
      refine lv_iload_n hC.1 hC.2.1 dL_law_183 rfl (lv_at hl 0 rfl) ?_
      refine tw_zeq (tgt := 232) hC hk gs0 dL_law_184 (by decide) (fun _ hk => ?_) (fun _ hk => ?_)
      · cases hk
        exact ih _ out hf H locs _ gs0 gx3 gx5 hR hL (lv_sub hl [1, 2, 0, 3, 4] rfl)
      · refine lv_iload hC.1 hC.2.1 dL_law_187 (lv_at hl 7 rfl) ?_
        refine tw_zlt (tgt := 232) hC hk gx10 dL_law_189 (by decide) (fun _ hk => ?_) (fun _ hk => ?_)
        · cases hk
          exact ih _ out hf H locs _ gs0 gx3 gx5 hR hL (lv_sub hl [1, 2, 0, 3, 4] rfl)
        · refine lv_iload_n hC.1 hC.2.1 dL_law_192 rfl (lv_at hl 3 rfl) ?_
          refine lv_bipush (v := tw_I 6) hC.1 hC.2.1 dL_law_193 (by decide) ?_
          refine tw_irem hC ((tw_rgL rfl)) hk dL_law_195 (fun v14 gv14 hk => ?_)
          refine lv_iconst (v := tw_I 5) hC.1 hC.2.1 dL_law_196 rfl ?_
          refine tw_cne (tgt := 232) hC hk gv14 ((tw_rgL rfl)) dL_law_197 (by decide) (fun _ hk => ?_) (fun _ hk => ?_)
          · refine lv_iload hC.1 hC.2.1 dL_law_200 (lv_at hl 8 rfl) ?_
            refine lv_iload hC.1 hC.2.1 dL_law_202 (lv_at hl 6 rfl) ?_
            refine tw_cle (tgt := 232) hC hk gx11 gx8 dL_law_204 (by decide) (fun _ hk => ?_) (fun _ hk => ?_)
            · refine lv_aload_n hC.1 hC.2.1 dL_law_207 rfl (lv_at hl 2 rfl) ?_
              refine kX8_undo hC hR hL hk mlL_99 ⟨by decide, by decide⟩ hl.1 (Nat.le_of_ble_eq_true rfl) ⟨by decide, by decide⟩ dL_law_208 (fun v15 h15 H locs hR hL gv15 hk => ?_)
              refine lv_iload hC.1 hC.2.1 dL_law_211 (lv_at hl 6 rfl) ?_
              refine tw_cne (tgt := 230) hC hk gv15 gx8 dL_law_213 (by decide) (fun _ hk => ?_) (fun _ hk => ?_)
              · refine lv_aload_n hC.1 hC.2.1 dL_law_216 rfl (lv_at hl 2 rfl) ?_
                refine kL_print hC hR hL hk mlL_30 ⟨by decide, by decide⟩ hl.1 (Nat.le_of_ble_eq_true rfl) ⟨by decide, by decide⟩ dL_law_217 (fun v16 h16 H locs hR hL hk => ?_)
                refine lv_lload hC.1 hC.2.1 dL_law_220 (lv_at hl 5 rfl) ?_
                refine tw_lcmp hC dL_law_222 ?_
                refine tw_zne (tgt := 230) hC hk ((tm_lcmp_rg _ _)) dL_law_223 (by decide) (fun _ hk => ?_) (fun _ hk => ?_)
                · refine lv_iconst (v := tw_I 1) hC.1 hC.2.1 dL_law_226 rfl ?_
                  refine lv_goto (tgt := 231) hC.1 hC.2.1 dL_law_227 (by decide) ?_
                  cases hk
                  exact ih _ out hf H locs _ gx3 gx5 ((tw_rgL rfl)) hR hL (lv_sub hl [1, 2, 3, 4] rfl)
                · cases hk
                  exact ih _ out hf H locs _ gx3 gx5 hR hL (lv_sub hl [1, 2, 3, 4] rfl)
              · cases hk
                exact ih _ out hf H locs _ gx3 gx5 hR hL (lv_sub hl [1, 2, 3, 4] rfl)
            · cases hk
              exact ih _ out hf H locs _ gs0 gx3 gx5 hR hL (lv_sub hl [1, 2, 0, 3, 4] rfl)
          · cases hk
            exact ih _ out hf H locs _ gs0 gx3 gx5 hR hL (lv_sub hl [1, 2, 0, 3, 4] rfl)
    · intro H locs ls gx3 gx5 hR hL hl
      dsimp only [fL_law_S1] at hk
      refine lv_iconst (v := tw_I 0) hC.1 hC.2.1 dL_law_230 rfl ?_
      cases hk
      exact ih _ out hf H locs _ gx3 gx5 ((tw_rgL rfl)) hR hL (lv_sub hl [0, 1, 2, 3] rfl)
    · intro H locs ls gx3 gx5 gs0 hR hL hl
      dsimp only [fL_law_S1] at hk
      refine lv_istore_n (lv' := [(2, .int (tw_I s0)), (0, .ref (tw_xb G)), (1, .ref x1), (3, .int (tw_I x3)), (5, .int (tw_I x5))]) hC.1 hC.2.1 dL_law_231 rfl hl (by decide) rfl (fun ls hl => ?_)
      cases hk
      exact ih _ out hf H locs _ gs0 gx3 gx5 hR hL (lv_sub hl [1, 2, 0, 3, 4] rfl)
    · intro H locs ls gx2 gx3 gx5 hR hL hl
      dsimp only [fL_law_S1] at hk
      refine lv_iload_n hC.1 hC.2.1 dL_law_232 rfl (lv_at hl 2 rfl) ?_
      refine tw_zeq (tgt := 323) hC hk gx2 dL_law_233 (by decide) (fun _ hk => ?_) (fun _ hk => ?_)
      · cases hk
        exact ih _ out hf H locs _ gx3 hR hL (lv_sub hl [0, 1, 3] rfl)
      · refine lv_aload_n hC.1 hC.2.1 dL_law_236 rfl (lv_at hl 1 rfl) ?_
        refine kL_areReadings hC hR hL hk mlL_111 ⟨by decide, by decide⟩ hl.1 (Nat.le_of_ble_eq_true rfl) ⟨by decide, by decide⟩ dL_law_237 (fun v17 h17 H locs hR hL gv17 hk => ?_)
        refine tw_zeq (tgt := 323) hC hk gv17 dL_law_240 (by decide) (fun _ hk => ?_) (fun _ hk => ?_)
        · cases hk
          exact ih _ out hf H locs _ gx3 hR hL (lv_sub hl [0, 1, 3] rfl)
        · refine lv_aload_n hC.1 hC.2.1 dL_law_243 rfl (lv_at hl 1 rfl) ?_
          refine lv_iconst (v := tw_I 3) hC.1 hC.2.1 dL_law_244 rfl ?_
          refine lv_iload_n hC.1 hC.2.1 dL_law_245 rfl (lv_at hl 3 rfl) ?_
          refine lv_iconst (v := tw_I 2) hC.1 hC.2.1 dL_law_246 rfl ?_
          refine tw_irem hC ((tw_rgL rfl)) hk dL_law_247 (fun v18 gv18 hk => ?_)
          refine tw_imul hC dL_law_248 ?_
          refine kL_areReasons hC hR hL hk ((tm_wr_rg _)) mlL_125 ⟨by decide, by decide⟩ hl.1 (Nat.le_of_ble_eq_true rfl) ⟨by decide, by decide⟩ dL_law_249 (fun v19 h19 H locs hR hL gv19 hk => ?_)
          refine tw_zeq (tgt := 323) hC hk gv19 dL_law_252 (by decide) (fun _ hk => ?_) (fun _ hk => ?_)
          · cases hk
            exact ih _ out hf H locs _ gx3 hR hL (lv_sub hl [0, 1, 3] rfl)
          · refine lv_iload_n hC.1 hC.2.1 dL_law_255 rfl (lv_at hl 3 rfl) ?_
            refine lv_iconst (v := tw_I 5) hC.1 hC.2.1 dL_law_256 rfl ?_
            refine tw_irem hC ((tw_rgL rfl)) hk dL_law_257 (fun v20 gv20 hk => ?_)
            refine lv_iconst (v := tw_I 2) hC.1 hC.2.1 dL_law_258 rfl ?_
            refine tw_cne (tgt := 269) hC hk gv20 ((tw_rgL rfl)) dL_law_259 (by decide) (fun _ hk => ?_) (fun _ hk => ?_)
            · refine lv_aload_n hC.1 hC.2.1 dL_law_262 rfl (lv_at hl 1 rfl) ?_
              refine kL_areBases hC hR hL hk mlL_114 ⟨by decide, by decide⟩ hl.1 (Nat.le_of_ble_eq_true rfl) ⟨by decide, by decide⟩ dL_law_263 (fun v21 h21 H locs hR hL gv21 hk => ?_)
              refine tw_zeq (tgt := 323) hC hk gv21 dL_law_266 (by decide) (fun _ hk => ?_) (fun _ hk => ?_)
              · cases hk
                exact ih _ out hf H locs _ gx3 hR hL (lv_sub hl [0, 1, 3] rfl)
              · cases hk
                exact ih _ out hf H locs _ gx3 gx5 hR hL (lv_sub hl [0, 1, 3, 4] rfl)
            · cases hk
              exact ih _ out hf H locs _ gx3 gx5 hR hL (lv_sub hl [0, 1, 3, 4] rfl)
    · intro H locs ls gx3 gx5 hR hL hl
      dsimp only [fL_law_S1] at hk
      refine lv_iload_n hC.1 hC.2.1 dL_law_269 rfl (lv_at hl 2 rfl) ?_
      refine lv_iconst (v := tw_I 4) hC.1 hC.2.1 dL_law_270 rfl ?_
      refine tw_irem hC ((tw_rgL rfl)) hk dL_law_271 (fun v22 gv22 hk => ?_)
      refine lv_iconst (v := tw_I 1) hC.1 hC.2.1 dL_law_272 rfl ?_
      refine tw_cne (tgt := 287) hC hk gv22 ((tw_rgL rfl)) dL_law_273 (by decide) (fun _ hk => ?_) (fun _ hk => ?_)
      · refine lv_aload_n hC.1 hC.2.1 dL_law_276 rfl (lv_at hl 1 rfl) ?_
        refine lv_iload hC.1 hC.2.1 dL_law_277 (lv_at hl 3 rfl) ?_
        refine lv_iconst (v := tw_I 1) hC.1 hC.2.1 dL_law_279 rfl ?_
        refine tw_ishr hC dL_law_280 ?_
        refine kL_isGain hC hR hL hk ((tm_shr_rg _ _)) mlL_129 ⟨by decide, by decide⟩ hl.1 (Nat.le_of_ble_eq_true rfl) ⟨by decide, by decide⟩ dL_law_281 (fun v23 h23 H locs hR hL gv23 hk => ?_)
        refine tw_zeq (tgt := 323) hC hk gv23 dL_law_284 (by decide) (fun _ hk => ?_) (fun _ hk => ?_)
        · cases hk
          exact ih _ out hf H locs _ gx3 hR hL (lv_sub hl [0, 1, 2] rfl)
        · cases hk
          exact ih _ out hf H locs _ gx3 hR hL (lv_sub hl [0, 1, 2] rfl)
      · cases hk
        exact ih _ out hf H locs _ gx3 hR hL (lv_sub hl [0, 1, 2] rfl)
    · intro H locs ls gx3 hR hL hl
      dsimp only [fL_law_S1] at hk
      refine lv_iload_n hC.1 hC.2.1 dL_law_287 rfl (lv_at hl 2 rfl) ?_
      refine lv_bipush (v := tw_I 9) hC.1 hC.2.1 dL_law_288 (by decide) ?_
      refine tw_irem hC ((tw_rgL rfl)) hk dL_law_290 (fun v24 gv24 hk => ?_)
      refine lv_bipush (v := tw_I 7) hC.1 hC.2.1 dL_law_291 (by decide) ?_
      refine tw_cne (tgt := 303) hC hk gv24 ((tw_rgL rfl)) dL_law_293 (by decide) (fun _ hk => ?_) (fun _ hk => ?_)
      · refine lv_aload_n hC.1 hC.2.1 dL_law_296 rfl (lv_at hl 1 rfl) ?_
        refine kL_isGreediest hC hR hL hk mlL_132 ⟨by decide, by decide⟩ hl.1 (Nat.le_of_ble_eq_true rfl) ⟨by decide, by decide⟩ dL_law_297 (fun v25 h25 H locs hR hL gv25 hk => ?_)
        refine tw_zeq (tgt := 323) hC hk gv25 dL_law_300 (by decide) (fun _ hk => ?_) (fun _ hk => ?_)
        · cases hk
          exact ih _ out hf H locs _ gx3 hR hL (lv_sub hl [0, 1, 2] rfl)
        · cases hk
          exact ih _ out hf H locs _ gx3 hR hL (lv_sub hl [0, 1, 2] rfl)
      · cases hk
        exact ih _ out hf H locs _ gx3 hR hL (lv_sub hl [0, 1, 2] rfl)
    · intro H locs ls gx3 hR hL hl
      dsimp only [fL_law_S1] at hk
      refine lv_iload_n hC.1 hC.2.1 dL_law_303 rfl (lv_at hl 2 rfl) ?_
      refine lv_bipush (v := tw_I 8) hC.1 hC.2.1 dL_law_304 (by decide) ?_
      refine tw_irem hC ((tw_rgL rfl)) hk dL_law_306 (fun v26 gv26 hk => ?_)
      refine lv_bipush (v := tw_I 6) hC.1 hC.2.1 dL_law_307 (by decide) ?_
      refine tw_cne (tgt := 319) hC hk gv26 ((tw_rgL rfl)) dL_law_309 (by decide) (fun _ hk => ?_) (fun _ hk => ?_)
      · refine lv_aload_n hC.1 hC.2.1 dL_law_312 rfl (lv_at hl 1 rfl) ?_
        refine kL_refused hC hR hL hk mlL_107 ⟨by decide, by decide⟩ hl.1 (Nat.le_of_ble_eq_true rfl) ⟨by decide, by decide⟩ dL_law_313 (fun v27 h27 H locs hR hL gv27 hk => ?_)
        refine tw_zeq (tgt := 323) hC hk gv27 dL_law_316 (by decide) (fun _ hk => ?_) (fun _ hk => ?_)
        · cases hk
          exact ih _ out hf H locs _ gx3 hR hL (lv_sub hl [0, 1, 2] rfl)
        · cases hk
          exact ih _ out hf H locs _ gx3 hR hL (lv_sub hl [0, 1, 2] rfl)
      · cases hk
        exact ih _ out hf H locs _ gx3 hR hL (lv_sub hl [0, 1, 2] rfl)
    · intro H locs ls gx3 hR hL hl
      dsimp only [fL_law_S1] at hk
      refine lv_iconst (v := tw_I 1) hC.1 hC.2.1 dL_law_319 rfl ?_
      refine lv_goto (tgt := 324) hC.1 hC.2.1 dL_law_320 (by decide) ?_
      cases hk
      exact ih _ out hf H locs _ gx3 ((tw_rgL rfl)) hR hL (lv_sub hl [0, 1, 2] rfl)
    · intro H locs ls gx3 hR hL hl
      dsimp only [fL_law_S1] at hk
      refine lv_iconst (v := tw_I 0) hC.1 hC.2.1 dL_law_323 rfl ?_
      cases hk
      exact ih _ out hf H locs _ gx3 ((tw_rgL rfl)) hR hL (lv_sub hl [0, 1, 2] rfl)
    · intro H locs ls gx3 gs0 hR hL hl
      dsimp only [fL_law_S1] at hk
      refine lv_istore_n (lv' := [(2, .int (tw_I s0)), (0, .ref (tw_xb G)), (1, .ref x1), (3, .int (tw_I x3))]) hC.1 hC.2.1 dL_law_324 rfl hl (by decide) rfl (fun ls hl => ?_)
      refine tw_iinc (lv' := [(3, .int (tw_I (tm_wr (x3 + 1)))), (2, .int (tw_I s0)), (0, .ref (tw_xb G)), (1, .ref x1)]) hC dL_law_325 hl (k := 3) rfl (by decide) rfl (fun ls hl => ?_)
      refine lv_goto (tgt := 46) hC.1 hC.2.1 dL_law_328 (by decide) ?_
      cases hk
      exact ih _ out hf H locs _ gs0 ((tm_wr_rg _)) hR hL (lv_sub hl [2, 3, 1, 0] rfl)
theorem sL_law_L46 {l : Launch} {p : Program} {e : Env} {s : State} {m : MethodId} {args : Array Value} {below : List Frame} {meth : Method} {c : Code} (G : tw_G) (sz : Nat) (hC : tw_C G p s m args meth c RL cL_law 12 (some .boolean)) (scr : tm_Xs) (gscr : scr = tw_xs G) (x1 : Nat) (x2 : Int) (x3 : Int) (h : tm_H) (gx2 : tm_rg x2) (gx3 : tm_rg x3) (out : Int) (hk : fL_law_L46 scr x1 x2 x3 h = some out) (H : Heap) (locs : List Loc) (ls : Array Slot) (hR : tw_Rel G sz h H) (hL : tw_L G locs) (hl : lv_has ls 12 [(0, .ref (tw_xb G)), (1, .ref x1), (2, .int (tw_I x2)), (3, .int (tw_I x3))]) : W p l e room_1 s m args below meth c H locs 441 8919 (MQ below (tw_Qo out) args s 441 8919 (tw_F G)) (F0 m 46 ls []) := by
  obtain ⟨k, hk⟩ := tm_wl_iff.mp hk
  exact sL_law_S1 G sz hC scr gscr k (.inl ((x1, x2, x3, h))) out hk H locs ls gx2 gx3 hR hL hl
theorem sL_law_L108 {l : Launch} {p : Program} {e : Env} {s : State} {m : MethodId} {args : Array Value} {below : List Frame} {meth : Method} {c : Code} (G : tw_G) (sz : Nat) (hC : tw_C G p s m args meth c RL cL_law 12 (some .boolean)) (scr : tm_Xs) (gscr : scr = tw_xs G) (x1 : Nat) (x3 : Int) (x4 : Int) (x5 : Int) (x6 : Int64) (x8 : Int) (h : tm_H) (gx3 : tm_rg x3) (gx4 : tm_rg x4) (gx5 : tm_rg x5) (gx8 : tm_rg x8) (out : Int) (hk : fL_law_L108 scr x1 x3 x4 x5 x6 x8 h = some out) (H : Heap) (locs : List Loc) (ls : Array Slot) (hR : tw_Rel G sz h H) (hL : tw_L G locs) (hl : lv_has ls 12 [(0, .ref (tw_xb G)), (1, .ref x1), (3, .int (tw_I x3)), (4, .int (tw_I x4)), (5, .int (tw_I x5)), (6, .long x6), (8, .int (tw_I x8))]) : W p l e room_1 s m args below meth c H locs 441 8919 (MQ below (tw_Qo out) args s 441 8919 (tw_F G)) (F0 m 108 ls []) := by
  obtain ⟨k, hk⟩ := tm_wl_iff.mp hk
  exact sL_law_S1 G sz hC scr gscr k (.inr (.inl ((x1, x3, x4, x5, x6, x8, h)))) out hk H locs ls gx3 gx4 gx5 gx8 hR hL hl
theorem sL_law_L126 {l : Launch} {p : Program} {e : Env} {s : State} {m : MethodId} {args : Array Value} {below : List Frame} {meth : Method} {c : Code} (G : tw_G) (sz : Nat) (hC : tw_C G p s m args meth c RL cL_law 12 (some .boolean)) (scr : tm_Xs) (gscr : scr = tw_xs G) (x1 : Nat) (x3 : Int) (x4 : Int) (x5 : Int) (x6 : Int64) (x8 : Int) (h : tm_H) (gx3 : tm_rg x3) (gx4 : tm_rg x4) (gx5 : tm_rg x5) (gx8 : tm_rg x8) (out : Int) (hk : fL_law_L126 scr x1 x3 x4 x5 x6 x8 h = some out) (H : Heap) (locs : List Loc) (ls : Array Slot) (hR : tw_Rel G sz h H) (hL : tw_L G locs) (hl : lv_has ls 12 [(0, .ref (tw_xb G)), (1, .ref x1), (3, .int (tw_I x3)), (4, .int (tw_I x4)), (5, .int (tw_I x5)), (6, .long x6), (8, .int (tw_I x8))]) : W p l e room_1 s m args below meth c H locs 441 8919 (MQ below (tw_Qo out) args s 441 8919 (tw_F G)) (F0 m 126 ls []) := by
  obtain ⟨k, hk⟩ := tm_wl_iff.mp hk
  exact sL_law_S1 G sz hC scr gscr k (.inr (.inr (.inl ((x1, x3, x4, x5, x6, x8, h))))) out hk H locs ls gx3 gx4 gx5 gx8 hR hL hl
theorem sL_law_L128 {l : Launch} {p : Program} {e : Env} {s : State} {m : MethodId} {args : Array Value} {below : List Frame} {meth : Method} {c : Code} (G : tw_G) (sz : Nat) (hC : tw_C G p s m args meth c RL cL_law 12 (some .boolean)) (scr : tm_Xs) (gscr : scr = tw_xs G) (x1 : Nat) (x3 : Int) (x5 : Int) (x6 : Int64) (x8 : Int) (s0 : Int) (h : tm_H) (gx3 : tm_rg x3) (gx5 : tm_rg x5) (gx8 : tm_rg x8) (gs0 : tm_rg s0) (out : Int) (hk : fL_law_L128 scr x1 x3 x5 x6 x8 s0 h = some out) (H : Heap) (locs : List Loc) (ls : Array Slot) (hR : tw_Rel G sz h H) (hL : tw_L G locs) (hl : lv_has ls 12 [(0, .ref (tw_xb G)), (1, .ref x1), (3, .int (tw_I x3)), (5, .int (tw_I x5)), (6, .long x6), (8, .int (tw_I x8))]) : W p l e room_1 s m args below meth c H locs 441 8919 (MQ below (tw_Qo out) args s 441 8919 (tw_F G)) (F0 m 128 ls [.int (tw_I s0)]) := by
  obtain ⟨k, hk⟩ := tm_wl_iff.mp hk
  exact sL_law_S1 G sz hC scr gscr k (.inr (.inr (.inr (.inl ((x1, x3, x5, x6, x8, s0, h)))))) out hk H locs ls gx3 gx5 gx8 gs0 hR hL hl
theorem sL_law_L177 {l : Launch} {p : Program} {e : Env} {s : State} {m : MethodId} {args : Array Value} {below : List Frame} {meth : Method} {c : Code} (G : tw_G) (sz : Nat) (hC : tw_C G p s m args meth c RL cL_law 12 (some .boolean)) (scr : tm_Xs) (gscr : scr = tw_xs G) (x1 : Nat) (x3 : Int) (x5 : Int) (x6 : Int64) (x8 : Int) (x10 : Int) (x11 : Int) (h : tm_H) (gx3 : tm_rg x3) (gx5 : tm_rg x5) (gx8 : tm_rg x8) (gx10 : tm_rg x10) (gx11 : tm_rg x11) (out : Int) (hk : fL_law_L177 scr x1 x3 x5 x6 x8 x10 x11 h = some out) (H : Heap) (locs : List Loc) (ls : Array Slot) (hR : tw_Rel G sz h H) (hL : tw_L G locs) (hl : lv_has ls 12 [(0, .ref (tw_xb G)), (1, .ref x1), (3, .int (tw_I x3)), (5, .int (tw_I x5)), (6, .long x6), (8, .int (tw_I x8)), (10, .int (tw_I x10)), (11, .int (tw_I x11))]) : W p l e room_1 s m args below meth c H locs 441 8919 (MQ below (tw_Qo out) args s 441 8919 (tw_F G)) (F0 m 177 ls []) := by
  obtain ⟨k, hk⟩ := tm_wl_iff.mp hk
  exact sL_law_S1 G sz hC scr gscr k (.inr (.inr (.inr (.inr (.inl ((x1, x3, x5, x6, x8, x10, x11, h))))))) out hk H locs ls gx3 gx5 gx8 gx10 gx11 hR hL hl
theorem sL_law_L181 {l : Launch} {p : Program} {e : Env} {s : State} {m : MethodId} {args : Array Value} {below : List Frame} {meth : Method} {c : Code} (G : tw_G) (sz : Nat) (hC : tw_C G p s m args meth c RL cL_law 12 (some .boolean)) (scr : tm_Xs) (gscr : scr = tw_xs G) (x1 : Nat) (x3 : Int) (x5 : Int) (x6 : Int64) (x8 : Int) (x10 : Int) (x11 : Int) (h : tm_H) (gx3 : tm_rg x3) (gx5 : tm_rg x5) (gx8 : tm_rg x8) (gx10 : tm_rg x10) (gx11 : tm_rg x11) (out : Int) (hk : fL_law_L181 scr x1 x3 x5 x6 x8 x10 x11 h = some out) (H : Heap) (locs : List Loc) (ls : Array Slot) (hR : tw_Rel G sz h H) (hL : tw_L G locs) (hl : lv_has ls 12 [(0, .ref (tw_xb G)), (1, .ref x1), (3, .int (tw_I x3)), (5, .int (tw_I x5)), (6, .long x6), (8, .int (tw_I x8)), (10, .int (tw_I x10)), (11, .int (tw_I x11))]) : W p l e room_1 s m args below meth c H locs 441 8919 (MQ below (tw_Qo out) args s 441 8919 (tw_F G)) (F0 m 181 ls []) := by
  obtain ⟨k, hk⟩ := tm_wl_iff.mp hk
  exact sL_law_S1 G sz hC scr gscr k (.inr (.inr (.inr (.inr (.inr (.inl ((x1, x3, x5, x6, x8, x10, x11, h)))))))) out hk H locs ls gx3 gx5 gx8 gx10 gx11 hR hL hl
theorem sL_law_L182 {l : Launch} {p : Program} {e : Env} {s : State} {m : MethodId} {args : Array Value} {below : List Frame} {meth : Method} {c : Code} (G : tw_G) (sz : Nat) (hC : tw_C G p s m args meth c RL cL_law 12 (some .boolean)) (scr : tm_Xs) (gscr : scr = tw_xs G) (x1 : Nat) (x3 : Int) (x5 : Int) (x6 : Int64) (x8 : Int) (x10 : Int) (x11 : Int) (s0 : Int) (h : tm_H) (gx3 : tm_rg x3) (gx5 : tm_rg x5) (gx8 : tm_rg x8) (gx10 : tm_rg x10) (gx11 : tm_rg x11) (gs0 : tm_rg s0) (out : Int) (hk : fL_law_L182 scr x1 x3 x5 x6 x8 x10 x11 s0 h = some out) (H : Heap) (locs : List Loc) (ls : Array Slot) (hR : tw_Rel G sz h H) (hL : tw_L G locs) (hl : lv_has ls 12 [(0, .ref (tw_xb G)), (1, .ref x1), (3, .int (tw_I x3)), (5, .int (tw_I x5)), (6, .long x6), (8, .int (tw_I x8)), (10, .int (tw_I x10)), (11, .int (tw_I x11))]) : W p l e room_1 s m args below meth c H locs 441 8919 (MQ below (tw_Qo out) args s 441 8919 (tw_F G)) (F0 m 182 ls [.int (tw_I s0)]) := by
  obtain ⟨k, hk⟩ := tm_wl_iff.mp hk
  exact sL_law_S1 G sz hC scr gscr k (.inr (.inr (.inr (.inr (.inr (.inr (.inl ((x1, x3, x5, x6, x8, x10, x11, s0, h))))))))) out hk H locs ls gx3 gx5 gx8 gx10 gx11 gs0 hR hL hl
theorem sL_law_L230 {l : Launch} {p : Program} {e : Env} {s : State} {m : MethodId} {args : Array Value} {below : List Frame} {meth : Method} {c : Code} (G : tw_G) (sz : Nat) (hC : tw_C G p s m args meth c RL cL_law 12 (some .boolean)) (scr : tm_Xs) (gscr : scr = tw_xs G) (x1 : Nat) (x3 : Int) (x5 : Int) (h : tm_H) (gx3 : tm_rg x3) (gx5 : tm_rg x5) (out : Int) (hk : fL_law_L230 scr x1 x3 x5 h = some out) (H : Heap) (locs : List Loc) (ls : Array Slot) (hR : tw_Rel G sz h H) (hL : tw_L G locs) (hl : lv_has ls 12 [(0, .ref (tw_xb G)), (1, .ref x1), (3, .int (tw_I x3)), (5, .int (tw_I x5))]) : W p l e room_1 s m args below meth c H locs 441 8919 (MQ below (tw_Qo out) args s 441 8919 (tw_F G)) (F0 m 230 ls []) := by
  obtain ⟨k, hk⟩ := tm_wl_iff.mp hk
  exact sL_law_S1 G sz hC scr gscr k (.inr (.inr (.inr (.inr (.inr (.inr (.inr (.inl ((x1, x3, x5, h)))))))))) out hk H locs ls gx3 gx5 hR hL hl
theorem sL_law_L231 {l : Launch} {p : Program} {e : Env} {s : State} {m : MethodId} {args : Array Value} {below : List Frame} {meth : Method} {c : Code} (G : tw_G) (sz : Nat) (hC : tw_C G p s m args meth c RL cL_law 12 (some .boolean)) (scr : tm_Xs) (gscr : scr = tw_xs G) (x1 : Nat) (x3 : Int) (x5 : Int) (s0 : Int) (h : tm_H) (gx3 : tm_rg x3) (gx5 : tm_rg x5) (gs0 : tm_rg s0) (out : Int) (hk : fL_law_L231 scr x1 x3 x5 s0 h = some out) (H : Heap) (locs : List Loc) (ls : Array Slot) (hR : tw_Rel G sz h H) (hL : tw_L G locs) (hl : lv_has ls 12 [(0, .ref (tw_xb G)), (1, .ref x1), (3, .int (tw_I x3)), (5, .int (tw_I x5))]) : W p l e room_1 s m args below meth c H locs 441 8919 (MQ below (tw_Qo out) args s 441 8919 (tw_F G)) (F0 m 231 ls [.int (tw_I s0)]) := by
  obtain ⟨k, hk⟩ := tm_wl_iff.mp hk
  exact sL_law_S1 G sz hC scr gscr k (.inr (.inr (.inr (.inr (.inr (.inr (.inr (.inr (.inl ((x1, x3, x5, s0, h))))))))))) out hk H locs ls gx3 gx5 gs0 hR hL hl
theorem sL_law_L232 {l : Launch} {p : Program} {e : Env} {s : State} {m : MethodId} {args : Array Value} {below : List Frame} {meth : Method} {c : Code} (G : tw_G) (sz : Nat) (hC : tw_C G p s m args meth c RL cL_law 12 (some .boolean)) (scr : tm_Xs) (gscr : scr = tw_xs G) (x1 : Nat) (x2 : Int) (x3 : Int) (x5 : Int) (h : tm_H) (gx2 : tm_rg x2) (gx3 : tm_rg x3) (gx5 : tm_rg x5) (out : Int) (hk : fL_law_L232 scr x1 x2 x3 x5 h = some out) (H : Heap) (locs : List Loc) (ls : Array Slot) (hR : tw_Rel G sz h H) (hL : tw_L G locs) (hl : lv_has ls 12 [(0, .ref (tw_xb G)), (1, .ref x1), (2, .int (tw_I x2)), (3, .int (tw_I x3)), (5, .int (tw_I x5))]) : W p l e room_1 s m args below meth c H locs 441 8919 (MQ below (tw_Qo out) args s 441 8919 (tw_F G)) (F0 m 232 ls []) := by
  obtain ⟨k, hk⟩ := tm_wl_iff.mp hk
  exact sL_law_S1 G sz hC scr gscr k (.inr (.inr (.inr (.inr (.inr (.inr (.inr (.inr (.inr (.inl ((x1, x2, x3, x5, h)))))))))))) out hk H locs ls gx2 gx3 gx5 hR hL hl
theorem sL_law_L269 {l : Launch} {p : Program} {e : Env} {s : State} {m : MethodId} {args : Array Value} {below : List Frame} {meth : Method} {c : Code} (G : tw_G) (sz : Nat) (hC : tw_C G p s m args meth c RL cL_law 12 (some .boolean)) (scr : tm_Xs) (gscr : scr = tw_xs G) (x1 : Nat) (x3 : Int) (x5 : Int) (h : tm_H) (gx3 : tm_rg x3) (gx5 : tm_rg x5) (out : Int) (hk : fL_law_L269 scr x1 x3 x5 h = some out) (H : Heap) (locs : List Loc) (ls : Array Slot) (hR : tw_Rel G sz h H) (hL : tw_L G locs) (hl : lv_has ls 12 [(0, .ref (tw_xb G)), (1, .ref x1), (3, .int (tw_I x3)), (5, .int (tw_I x5))]) : W p l e room_1 s m args below meth c H locs 441 8919 (MQ below (tw_Qo out) args s 441 8919 (tw_F G)) (F0 m 269 ls []) := by
  obtain ⟨k, hk⟩ := tm_wl_iff.mp hk
  exact sL_law_S1 G sz hC scr gscr k (.inr (.inr (.inr (.inr (.inr (.inr (.inr (.inr (.inr (.inr (.inl ((x1, x3, x5, h))))))))))))) out hk H locs ls gx3 gx5 hR hL hl
theorem sL_law_L287 {l : Launch} {p : Program} {e : Env} {s : State} {m : MethodId} {args : Array Value} {below : List Frame} {meth : Method} {c : Code} (G : tw_G) (sz : Nat) (hC : tw_C G p s m args meth c RL cL_law 12 (some .boolean)) (scr : tm_Xs) (gscr : scr = tw_xs G) (x1 : Nat) (x3 : Int) (h : tm_H) (gx3 : tm_rg x3) (out : Int) (hk : fL_law_L287 scr x1 x3 h = some out) (H : Heap) (locs : List Loc) (ls : Array Slot) (hR : tw_Rel G sz h H) (hL : tw_L G locs) (hl : lv_has ls 12 [(0, .ref (tw_xb G)), (1, .ref x1), (3, .int (tw_I x3))]) : W p l e room_1 s m args below meth c H locs 441 8919 (MQ below (tw_Qo out) args s 441 8919 (tw_F G)) (F0 m 287 ls []) := by
  obtain ⟨k, hk⟩ := tm_wl_iff.mp hk
  exact sL_law_S1 G sz hC scr gscr k (.inr (.inr (.inr (.inr (.inr (.inr (.inr (.inr (.inr (.inr (.inr (.inl ((x1, x3, h)))))))))))))) out hk H locs ls gx3 hR hL hl
theorem sL_law_L303 {l : Launch} {p : Program} {e : Env} {s : State} {m : MethodId} {args : Array Value} {below : List Frame} {meth : Method} {c : Code} (G : tw_G) (sz : Nat) (hC : tw_C G p s m args meth c RL cL_law 12 (some .boolean)) (scr : tm_Xs) (gscr : scr = tw_xs G) (x1 : Nat) (x3 : Int) (h : tm_H) (gx3 : tm_rg x3) (out : Int) (hk : fL_law_L303 scr x1 x3 h = some out) (H : Heap) (locs : List Loc) (ls : Array Slot) (hR : tw_Rel G sz h H) (hL : tw_L G locs) (hl : lv_has ls 12 [(0, .ref (tw_xb G)), (1, .ref x1), (3, .int (tw_I x3))]) : W p l e room_1 s m args below meth c H locs 441 8919 (MQ below (tw_Qo out) args s 441 8919 (tw_F G)) (F0 m 303 ls []) := by
  obtain ⟨k, hk⟩ := tm_wl_iff.mp hk
  exact sL_law_S1 G sz hC scr gscr k (.inr (.inr (.inr (.inr (.inr (.inr (.inr (.inr (.inr (.inr (.inr (.inr (.inl ((x1, x3, h))))))))))))))) out hk H locs ls gx3 hR hL hl
theorem sL_law_L319 {l : Launch} {p : Program} {e : Env} {s : State} {m : MethodId} {args : Array Value} {below : List Frame} {meth : Method} {c : Code} (G : tw_G) (sz : Nat) (hC : tw_C G p s m args meth c RL cL_law 12 (some .boolean)) (scr : tm_Xs) (gscr : scr = tw_xs G) (x1 : Nat) (x3 : Int) (h : tm_H) (gx3 : tm_rg x3) (out : Int) (hk : fL_law_L319 scr x1 x3 h = some out) (H : Heap) (locs : List Loc) (ls : Array Slot) (hR : tw_Rel G sz h H) (hL : tw_L G locs) (hl : lv_has ls 12 [(0, .ref (tw_xb G)), (1, .ref x1), (3, .int (tw_I x3))]) : W p l e room_1 s m args below meth c H locs 441 8919 (MQ below (tw_Qo out) args s 441 8919 (tw_F G)) (F0 m 319 ls []) := by
  obtain ⟨k, hk⟩ := tm_wl_iff.mp hk
  exact sL_law_S1 G sz hC scr gscr k (.inr (.inr (.inr (.inr (.inr (.inr (.inr (.inr (.inr (.inr (.inr (.inr (.inr (.inl ((x1, x3, h)))))))))))))))) out hk H locs ls gx3 hR hL hl
theorem sL_law_L323 {l : Launch} {p : Program} {e : Env} {s : State} {m : MethodId} {args : Array Value} {below : List Frame} {meth : Method} {c : Code} (G : tw_G) (sz : Nat) (hC : tw_C G p s m args meth c RL cL_law 12 (some .boolean)) (scr : tm_Xs) (gscr : scr = tw_xs G) (x1 : Nat) (x3 : Int) (h : tm_H) (gx3 : tm_rg x3) (out : Int) (hk : fL_law_L323 scr x1 x3 h = some out) (H : Heap) (locs : List Loc) (ls : Array Slot) (hR : tw_Rel G sz h H) (hL : tw_L G locs) (hl : lv_has ls 12 [(0, .ref (tw_xb G)), (1, .ref x1), (3, .int (tw_I x3))]) : W p l e room_1 s m args below meth c H locs 441 8919 (MQ below (tw_Qo out) args s 441 8919 (tw_F G)) (F0 m 323 ls []) := by
  obtain ⟨k, hk⟩ := tm_wl_iff.mp hk
  exact sL_law_S1 G sz hC scr gscr k (.inr (.inr (.inr (.inr (.inr (.inr (.inr (.inr (.inr (.inr (.inr (.inr (.inr (.inr (.inl ((x1, x3, h))))))))))))))))) out hk H locs ls gx3 hR hL hl
theorem sL_law_L324 {l : Launch} {p : Program} {e : Env} {s : State} {m : MethodId} {args : Array Value} {below : List Frame} {meth : Method} {c : Code} (G : tw_G) (sz : Nat) (hC : tw_C G p s m args meth c RL cL_law 12 (some .boolean)) (scr : tm_Xs) (gscr : scr = tw_xs G) (x1 : Nat) (x3 : Int) (s0 : Int) (h : tm_H) (gx3 : tm_rg x3) (gs0 : tm_rg s0) (out : Int) (hk : fL_law_L324 scr x1 x3 s0 h = some out) (H : Heap) (locs : List Loc) (ls : Array Slot) (hR : tw_Rel G sz h H) (hL : tw_L G locs) (hl : lv_has ls 12 [(0, .ref (tw_xb G)), (1, .ref x1), (3, .int (tw_I x3))]) : W p l e room_1 s m args below meth c H locs 441 8919 (MQ below (tw_Qo out) args s 441 8919 (tw_F G)) (F0 m 324 ls [.int (tw_I s0)]) := by
  obtain ⟨k, hk⟩ := tm_wl_iff.mp hk
  exact sL_law_S1 G sz hC scr gscr k (.inr (.inr (.inr (.inr (.inr (.inr (.inr (.inr (.inr (.inr (.inr (.inr (.inr (.inr (.inr ((x1, x3, s0, h))))))))))))))))) out hk H locs ls gx3 gs0 hR hL hl
set_option maxRecDepth 100000 in
set_option maxHeartbeats 4000000 in
theorem sL_law_L43 {l : Launch} {p : Program} {e : Env} {s : State} {m : MethodId} {args : Array Value} {below : List Frame} {meth : Method} {c : Code} (G : tw_G) (sz : Nat) (hC : tw_C G p s m args meth c RL cL_law 12 (some .boolean)) (scr : tm_Xs) (gscr : scr = tw_xs G) (x1 : Nat) (s0 : Int) (h : tm_H) (gs0 : tm_rg s0) (out : Int) (hk : fL_law_L43 scr x1 s0 h = some out) (H : Heap) (locs : List Loc) (ls : Array Slot) (hR : tw_Rel G sz h H) (hL : tw_L G locs) (hl : lv_has ls 12 [(0, .ref (tw_xb G)), (1, .ref x1)]) : W p l e room_1 s m args below meth c H locs 441 8919 (MQ below (tw_Qo out) args s 441 8919 (tw_F G)) (F0 m 43 ls [.int (tw_I s0)]) := by
  unfold fL_law_L43 at hk
  refine lv_istore_n (lv' := [(2, .int (tw_I s0)), (0, .ref (tw_xb G)), (1, .ref x1)]) hC.1 hC.2.1 dL_law_43 rfl hl (by decide) rfl (fun ls hl => ?_)
  refine lv_iconst (v := tw_I 0) hC.1 hC.2.1 dL_law_44 rfl ?_
  refine lv_istore_n (lv' := [(3, .int (tw_I 0)), (2, .int (tw_I s0)), (0, .ref (tw_xb G)), (1, .ref x1)]) hC.1 hC.2.1 dL_law_45 rfl hl (by decide) rfl (fun ls hl => ?_)
  exact sL_law_L46 G sz hC scr gscr x1 s0 0 h gs0 ((tw_rgL rfl)) out hk H locs _ hR hL (lv_sub hl [2, 3, 1, 0] rfl)
set_option maxRecDepth 100000 in
set_option maxHeartbeats 4000000 in
theorem sL_law_L42 {l : Launch} {p : Program} {e : Env} {s : State} {m : MethodId} {args : Array Value} {below : List Frame} {meth : Method} {c : Code} (G : tw_G) (sz : Nat) (hC : tw_C G p s m args meth c RL cL_law 12 (some .boolean)) (scr : tm_Xs) (gscr : scr = tw_xs G) (x1 : Nat) (h : tm_H)  (out : Int) (hk : fL_law_L42 scr x1 h = some out) (H : Heap) (locs : List Loc) (ls : Array Slot) (hR : tw_Rel G sz h H) (hL : tw_L G locs) (hl : lv_has ls 12 [(0, .ref (tw_xb G)), (1, .ref x1)]) : W p l e room_1 s m args below meth c H locs 441 8919 (MQ below (tw_Qo out) args s 441 8919 (tw_F G)) (F0 m 42 ls []) := by
  unfold fL_law_L42 at hk
  refine lv_iconst (v := tw_I 0) hC.1 hC.2.1 dL_law_42 rfl ?_
  exact sL_law_L43 G sz hC scr gscr x1 0 h ((tw_rgL rfl)) out hk H locs _ hR hL (lv_sub hl [0, 1] rfl)
set_option maxRecDepth 100000 in
set_option maxHeartbeats 8000000 in
theorem wL_law {l : Launch} {p : Program} {e : Env} {s : State} {m : MethodId} {args : Array Value} {below : List Frame} {meth : Method} {c : Code} (G : tw_G) (n : Nat) (hC : tw_C G p s m args meth c RL cL_law 12 (some .boolean)) (scr : tm_Xs) (gscr : scr = tw_xs G) (h : tm_H) (out : Int) (hk : fL_law scr h n = some out) (H : Heap) (ls : Array Slot) (hR : tw_Rel G n h H) (hl : lv_has ls 12 [(0, .ref (tw_xb G))]) : W p l e room_1 s m args below meth c H [] 0 0 (MQ below (tw_Qo out) args s 441 8919 (tw_F G)) (F0 m 0 ls []) := by
  unfold fL_law at hk
  have hL : tw_L G [] := fun q z => by cases z
  generalize hlc : ([] : List Loc) = locs at hL ⊢
  refine tw_new hC hR nwL_14 hk ⟨by decide, by decide⟩ dL_law_0 (fun h1 H hR hk => ?_)
  refine lv_dup hC.1 hC.2.1 dL_law_3 rfl ?_
  refine kX8_init hC hR hL hk mlL_106 ⟨by decide, by decide⟩ hl.1 (Nat.le_of_ble_eq_true rfl) ⟨by decide, by decide⟩ dL_law_4 (fun h2 n2 H locs hR hL hk => ?_)
  refine lv_astore_n (lv' := [(1, .ref n), (0, .ref (tw_xb G))]) hC.1 hC.2.1 dL_law_7 rfl hl (by decide) rfl (fun ls hl => ?_)
  refine lv_aload_n hC.1 hC.2.1 dL_law_8 rfl (lv_at hl 0 rfl) ?_
  refine kX8_undo hC hR hL hk mlL_99 ⟨by decide, by decide⟩ hl.1 (Nat.le_of_ble_eq_true rfl) ⟨by decide, by decide⟩ dL_law_9 (fun v3 h3 H locs hR hL gv3 hk => ?_)
  refine lv_bipush (v := tw_I (-2)) hC.1 hC.2.1 dL_law_12 (by decide) ?_
  refine tw_cne (tgt := 42) hC hk gv3 ((tw_rgL rfl)) dL_law_14 (by decide) (fun _ hk => ?_) (fun _ hk => ?_)
  · refine lv_aload_n hC.1 hC.2.1 dL_law_17 rfl (lv_at hl 0 rfl) ?_
    refine kL_refused hC hR hL hk mlL_107 ⟨by decide, by decide⟩ hl.1 (Nat.le_of_ble_eq_true rfl) ⟨by decide, by decide⟩ dL_law_18 (fun v4 h4 H locs hR hL gv4 hk => ?_)
    refine tw_zeq (tgt := 42) hC hk gv4 dL_law_21 (by decide) (fun _ hk => ?_) (fun _ hk => ?_)
    · exact sL_law_L42 G n2 hC scr gscr n h4 out hk H locs _ hR hL (lv_sub hl [1, 0] rfl)
    · refine lv_aload_n hC.1 hC.2.1 dL_law_24 rfl (lv_at hl 0 rfl) ?_
      refine kL_areReadings hC hR hL hk mlL_111 ⟨by decide, by decide⟩ hl.1 (Nat.le_of_ble_eq_true rfl) ⟨by decide, by decide⟩ dL_law_25 (fun v5 h5 H locs hR hL gv5 hk => ?_)
      refine tw_zeq (tgt := 42) hC hk gv5 dL_law_28 (by decide) (fun _ hk => ?_) (fun _ hk => ?_)
      · exact sL_law_L42 G n2 hC scr gscr n h5 out hk H locs _ hR hL (lv_sub hl [1, 0] rfl)
      · refine lv_aload_n hC.1 hC.2.1 dL_law_31 rfl (lv_at hl 0 rfl) ?_
        refine kL_areBases hC hR hL hk mlL_114 ⟨by decide, by decide⟩ hl.1 (Nat.le_of_ble_eq_true rfl) ⟨by decide, by decide⟩ dL_law_32 (fun v6 h6 H locs hR hL gv6 hk => ?_)
        refine tw_zeq (tgt := 42) hC hk gv6 dL_law_35 (by decide) (fun _ hk => ?_) (fun _ hk => ?_)
        · exact sL_law_L42 G n2 hC scr gscr n h6 out hk H locs _ hR hL (lv_sub hl [1, 0] rfl)
        · refine lv_iconst (v := tw_I 1) hC.1 hC.2.1 dL_law_38 rfl ?_
          refine lv_goto (tgt := 43) hC.1 hC.2.1 dL_law_39 (by decide) ?_
          exact sL_law_L43 G n2 hC scr gscr n 1 h6 ((tw_rgL rfl)) out hk H locs _ hR hL (lv_sub hl [1, 0] rfl)
  · exact sL_law_L42 G n2 hC scr gscr n h3 out hk H locs _ hR hL (lv_sub hl [1, 0] rfl)
