/-! THE LAW'S OWN WALK -/
section TWL
variable {p : Program} {l : Launch} {e : Env} {R : Room} {s : State} {m : MethodId} {args : Array Value} {below : List Frame} {meth : Method} {c : Code} {H : Heap} {locs : List Loc} {cells slots : Nat} {Q : State → Prop}
variable {cc : ByteArray} {pc nL idx : Nat} {ls : Array Slot} {rest : List Value} {a b L : Nat} {G : tw_G} {sz : Nat} {h : tm_H} {own : String} {ret : Option FieldType} {α : Type} {x : α} {xs32 : Nat → Int32}
theorem tw_scld (C : tw_C G p s m args meth c own cc nL ret) (hR : tw_Rel G sz h H) (hX : va_X b L xs32 s G.2.2.2.1) (hbb : b < G.2.2.1) (hLg : tm_rg (L : Int)) {i : Int} {F : Int → Option α} (hk : (tm_sx (fun j => (xs32 j).toInt) L i).bind F = some x) (hdg : decode cc pc = .ok (.iaload, 1))
    (kk : ∀ v, tm_rg v → F v = some x → W p l e R s m args below meth c H locs cells slots Q (F0 m (pc + 1) ls (.int (tw_I v) :: rest))) : W p l e R s m args below meth c H locs cells slots Q (F0 m pc ls (.int (tw_I i) :: .ref b :: rest)) := by
  obtain ⟨v, hv, hF⟩ := Option.bind_eq_some_iff.mp hk
  unfold tm_sx at hv
  by_cases hi : 0 ≤ i ∧ i < L
  · rw [if_pos hi] at hv
    cases hv
    obtain ⟨scr, h1, h2, h3, h4, h5⟩ := hX
    have hLg2 : (L : Int) < 2147483648 := hLg.2
    have hc : (tw_I i).toNatClampNeg = i.toNat := Int32.toNatClampNeg_ofInt_of_le (by omega) (by omega)
    have key : vp_in (tw_I i) L ∧ (tw_I i).toNatClampNeg = i.toNat := by
      refine ⟨fun z => ?_, hc⟩
      rcases z with z | z
      · rw [← tw_I_zero, tw_I_lt (by unfold tm_rg; omega) tw_rg0] at z
        omega
      · rw [hc] at z; omega
    have hw := kk ((xs32 i.toNat).toInt) (tm_i32_rg _) hF
    rw [tw_I_of] at hw
    exact W.iald (v := .int (xs32 i.toNat)) C.1 C.2.1 (by rw [hR.2.2.1 b hbb]; exact h1) h2 h3 (by rw [h4]; exact key.1) (by rw [key.2]; exact h5 _ (by omega)) rfl rfl hdg hw
  · rw [if_neg hi] at hv
    cases hv
theorem tw_scl (C : tw_C G p s m args meth c own cc nL ret) (hR : tw_Rel G sz h H) (hX : va_X b L xs32 s G.2.2.2.1) (hbb : b < G.2.2.1) (hdg : decode cc pc = .ok (.arraylength, 1))
    (kk : W p l e R s m args below meth c H locs cells slots Q (F0 m (pc + 1) ls (.int (tw_I (L : Int)) :: rest))) : W p l e R s m args below meth c H locs cells slots Q (F0 m pc ls (.ref b :: rest)) := by
  obtain ⟨scr, h1, h2, h3, h4, h5⟩ := hX
  exact W.alen (n := Int32.ofNat L) C.1 C.2.1 (by rw [hR.2.2.1 b hbb]; exact h1) h2 (by rw [h4] <;> rfl) rfl rfl hdg (by rw [show Int32.ofNat L = tw_I (L : Int) from (Int32.ofInt_eq_ofNat).symm]; exact kk)
theorem tw_lawend {k n : Nat} (C : tw_C G p s m #[Value.ref b] meth c R_law code 4 (some .boolean)) (hL : tw_L G locs) (hbase : G.2.2.1 = s.heap.size) (hdg : decode code pc = .ok (.ireturn, 1)) (hk : k ≤ 600000 := by omega) (hn : n ≤ 7302250 := by omega) : W p l e room_1 s m #[Value.ref b] below meth c H locs k n (lw_Z below #[Value.ref b] s) (F0 m pc ls [.int (tw_I 1)]) := by
  refine va_forget (fun q hq => by rw [← hbase]; exact hL q hq) ?_
  refine W.widen (k := 600000) (n := 7302250) hk hn ?_
  rw [show tw_I 1 = 1 by decide]
  exact lw_ret C.1 C.2.1 C.2.2.2.2.2.1 C.2.2.2.2.2.2.1 hdg
end TWL
theorem nwL_7 : tw_nwS RL 7 8 6 [.inr none, .inr none, .inr none, .inr none, .inr none, .inr none] := ⟨RX8, TX8, tyX8, rfl, cinX8, tyX8_ok, tw_in_TB 68 (by decide +kernel) rfl, tw_in_TB 69 (by decide +kernel) rfl, tw_in_TB 53 (by decide +kernel) rfl, by decide +kernel, (List.forall_mem_cons.mpr ⟨trivial, (List.forall_mem_cons.mpr ⟨trivial, (List.forall_mem_cons.mpr ⟨trivial, (List.forall_mem_cons.mpr ⟨trivial, (List.forall_mem_cons.mpr ⟨trivial, (List.forall_mem_cons.mpr ⟨trivial, (fun _ h => absurd h List.not_mem_nil)⟩)⟩)⟩)⟩)⟩)⟩)⟩
theorem nwL_10 : tw_nwS RL 10 9 15 [.inr none, .inr none, .inr none, .inl 0, .inr none, .inl 0, .inr none, .inr none, .inr none, .inr none, .inr none, .inl 0, .inl 0, .inr none, .inl 0] := ⟨RX9, TX9, tyX9, rfl, cinX9, tyX9_ok, tw_in_TB 787 (by decide +kernel) rfl, tw_in_TB 788 (by decide +kernel) rfl, tw_in_TB 62 (by decide +kernel) rfl, by decide +kernel, (List.forall_mem_cons.mpr ⟨trivial, (List.forall_mem_cons.mpr ⟨trivial, (List.forall_mem_cons.mpr ⟨trivial, (List.forall_mem_cons.mpr ⟨tw_rg0, (List.forall_mem_cons.mpr ⟨trivial, (List.forall_mem_cons.mpr ⟨tw_rg0, (List.forall_mem_cons.mpr ⟨trivial, (List.forall_mem_cons.mpr ⟨trivial, (List.forall_mem_cons.mpr ⟨trivial, (List.forall_mem_cons.mpr ⟨trivial, (List.forall_mem_cons.mpr ⟨trivial, (List.forall_mem_cons.mpr ⟨tw_rg0, (List.forall_mem_cons.mpr ⟨tw_rg0, (List.forall_mem_cons.mpr ⟨trivial, (List.forall_mem_cons.mpr ⟨tw_rg0, (fun _ h => absurd h List.not_mem_nil)⟩)⟩)⟩)⟩)⟩)⟩)⟩)⟩)⟩)⟩)⟩)⟩)⟩)⟩)⟩)⟩
theorem mlL_9 : tw_mL RL 9 yX8_init := Or.inl (tw_in_TB 70 (by decide +kernel) rfl)
theorem mlL_12 : tw_mL RL 12 yX9_init := Or.inl (tw_in_TB 789 (by decide +kernel) rfl)
theorem mlL_13 : tw_mL RL 13 yX8_insert := Or.inl (tw_in_TB 274 (by decide +kernel) rfl)
theorem mlL_17 : tw_mL RL 17 yX9_insert := Or.inl (tw_in_TB 843 (by decide +kernel) rfl)
theorem mlL_18 : tw_mL RL 18 yX8_delete := Or.inl (tw_in_TB 324 (by decide +kernel) rfl)
theorem mlL_21 : tw_mL RL 21 yX9_delete := Or.inl (tw_in_TB 868 (by decide +kernel) rfl)
theorem mlL_22 : tw_mL RL 22 yX8_replace := Or.inl (tw_in_TB 337 (by decide +kernel) rfl)
theorem mlL_26 : tw_mL RL 26 yX9_replace := Or.inl (tw_in_TB 872 (by decide +kernel) rfl)
theorem mlL_27 : tw_mL RL 27 yX8_swap := Or.inl (tw_in_TB 345 (by decide +kernel) rfl)
theorem mlL_30 : tw_mL RL 30 yX9_swap := Or.inl (tw_in_TB 876 (by decide +kernel) rfl)
theorem mlL_31 : tw_mL RL 31 yX8_addTerm := Or.inl (tw_in_TB 417 (by decide +kernel) rfl)
theorem mlL_35 : tw_mL RL 35 yX9_addTerm := Or.inl (tw_in_TB 908 (by decide +kernel) rfl)
theorem mlL_36 : tw_mL RL 36 yX8_removeTerm := Or.inl (tw_in_TB 442 (by decide +kernel) rfl)
theorem mlL_40 : tw_mL RL 40 yX9_removeTerm := Or.inl (tw_in_TB 928 (by decide +kernel) rfl)
theorem mlL_41 : tw_mL RL 41 yX8_setQuiet := Or.inl (tw_in_TB 451 (by decide +kernel) rfl)
theorem mlL_44 : tw_mL RL 44 yX9_setQuiet := Or.inl (tw_in_TB 936 (by decide +kernel) rfl)
theorem mlL_45 : tw_mL RL 45 yX8_setBase := Or.inl (tw_in_TB 459 (by decide +kernel) rfl)
theorem mlL_48 : tw_mL RL 48 yX9_setBase := Or.inl (tw_in_TB 940 (by decide +kernel) rfl)
theorem mlL_49 : tw_mL RL 49 yX8_take := Or.inl (tw_in_TB 487 (by decide +kernel) rfl)
theorem mlL_52 : tw_mL RL 52 yX9_take := Or.inl (tw_in_TB 952 (by decide +kernel) rfl)
theorem mlL_53 : tw_mL RL 53 yX8_restore := Or.inl (tw_in_TB 504 (by decide +kernel) rfl)
theorem mlL_56 : tw_mL RL 56 yX9_restore := Or.inl (tw_in_TB 963 (by decide +kernel) rfl)
theorem mlL_57 : tw_mL RL 57 yX8_undo := Or.inl (tw_in_TB 517 (by decide +kernel) rfl)
theorem mlL_61 : tw_mL RL 61 yX9_undo := Or.inl (tw_in_TB 839 (by decide +kernel) rfl)
theorem mlL_62 : tw_mL RL 62 yX8_append := Or.inl (tw_in_TB 529 (by decide +kernel) rfl)
theorem mlL_65 : tw_mL RL 65 yX9_append := Or.inl (tw_in_TB 967 (by decide +kernel) rfl)
theorem mlL_66 : tw_mL RL 66 yX8_clearText := Or.inl (tw_in_TB 541 (by decide +kernel) rfl)
theorem mlL_69 : tw_mL RL 69 yX9_clearText := Or.inl (tw_in_TB 971 (by decide +kernel) rfl)
theorem mlL_70 : tw_mL RL 70 yX8_load := Or.inl (tw_in_TB 549 (by decide +kernel) rfl)
theorem mlL_73 : tw_mL RL 73 yX9_load := Or.inl (tw_in_TB 975 (by decide +kernel) rfl)
theorem mlL_74 : tw_mL RL 74 yX8_count := Or.inl (tw_in_TB 671 (by decide +kernel) rfl)
theorem mlL_77 : tw_mL RL 77 yX9_count := Or.inl (tw_in_TB 1023 (by decide +kernel) rfl)
theorem mlL_78 : tw_mL RL 78 yX8_letter := Or.inl (tw_in_TB 695 (by decide +kernel) rfl)
theorem mlL_81 : tw_mL RL 81 yX9_letter := Or.inl (tw_in_TB 1043 (by decide +kernel) rfl)
theorem mlL_82 : tw_mL RL 82 yX8_base := Or.inl (tw_in_TB 703 (by decide +kernel) rfl)
theorem mlL_85 : tw_mL RL 85 yX9_base := Or.inl (tw_in_TB 1047 (by decide +kernel) rfl)
theorem mlL_86 : tw_mL RL 86 yX8_place := Or.inl (tw_in_TB 707 (by decide +kernel) rfl)
theorem mlL_89 : tw_mL RL 89 yX9_place := Or.inl (tw_in_TB 1051 (by decide +kernel) rfl)
theorem mlL_90 : tw_mL RL 90 yX8_term := Or.inl (tw_in_TB 727 (by decide +kernel) rfl)
theorem mlL_93 : tw_mL RL 93 yX9_term := Or.inl (tw_in_TB 1055 (by decide +kernel) rfl)
theorem mlL_94 : tw_mL RL 94 yX8_firstUse := Or.inl (tw_in_TB 746 (by decide +kernel) rfl)
theorem mlL_97 : tw_mL RL 97 yX9_firstUse := Or.inl (tw_in_TB 1071 (by decide +kernel) rfl)
theorem mlL_98 : tw_mL RL 98 yX8_mark := Or.inl (tw_in_TB 754 (by decide +kernel) rfl)
theorem mlL_101 : tw_mL RL 101 yX9_mark := Or.inl (tw_in_TB 1075 (by decide +kernel) rfl)
theorem mlL_102 : tw_mL RL 102 yX8_why := Or.inl (tw_in_TB 762 (by decide +kernel) rfl)
theorem mlL_105 : tw_mL RL 105 yX9_why := Or.inl (tw_in_TB 1079 (by decide +kernel) rfl)
theorem mlL_106 : tw_mL RL 106 yX8_nested := Or.inl (tw_in_TB 767 (by decide +kernel) rfl)
theorem mlL_109 : tw_mL RL 109 yX9_nested := Or.inl (tw_in_TB 1083 (by decide +kernel) rfl)
theorem mlL_110 : tw_mL RL 110 yX8_gain := Or.inl (tw_in_TB 779 (by decide +kernel) rfl)
theorem mlL_113 : tw_mL RL 113 yX9_gain := Or.inl (tw_in_TB 1087 (by decide +kernel) rfl)
theorem mlL_114 : tw_mL RL 114 yX8_greediest := Or.inl (tw_in_TB 783 (by decide +kernel) rfl)
theorem mlL_117 : tw_mL RL 117 yX9_greediest := Or.inl (tw_in_TB 1091 (by decide +kernel) rfl)
set_option maxRecDepth 100000 in
set_option maxHeartbeats 8000000 in
theorem sL_law_S {l : Launch} {p : Program} {e : Env} {s : State} {m : MethodId} {b L : Nat} {xs32 : Nat → Int32} {below : List Frame} {meth : Method} {c : Code} {G : tw_G} (hC : tw_C G p s m #[Value.ref b] meth c R_law code 4 (some .boolean)) (hX : va_X b L xs32 s G.2.2.2.1) (hbb : b < G.2.2.1) (hLg : tm_rg (L : Int)) (hbase : G.2.2.1 = s.heap.size) (sz : Nat) : ∀ (k : Nat) (st : Nat × Nat × Int × tm_H) (out : Int), tm_wit (fL_law_S (fun j => (xs32 j).toInt) L) k st = some out → out = 1 → match st with
    | (x1, x2, x3, h) => ∀ (H : Heap) (locs : List Loc) (ls : Array Slot), tm_rg x3 → tw_Rel G sz h H → tw_L G locs → lv_has ls 4 [(0, .ref b), (1, .ref x1), (2, .ref x2), (3, .int (tw_I x3))] → W p l e room_1 s m #[Value.ref b] below meth c H locs 452 15837 (lw_Z below #[Value.ref b] s) (F0 m 18 ls []) := by
  intro k
  induction k with
  | zero =>
    intro st out hk
    exact absurd hk (by unfold tm_wit; exact fun z => by cases z)
  | succ k ih =>
    intro st out hk hone
    obtain ⟨X, hk, hf⟩ := tm_wit_succ hk
    obtain ⟨x1, x2, x3, h⟩ := st
    intro H locs ls gx3 hR hL hl
    dsimp only [fL_law_S] at hk
    refine lv_iload_n hC.1 hC.2.1 dL_law_18 rfl (lv_at hl 3 rfl) ?_
    refine lv_aload_n hC.1 hC.2.1 dL_law_19 rfl (lv_at hl 0 rfl) ?_
    refine tw_scl hC hR hX hbb dL_law_20 ?_
    refine lv_iconst (v := tw_I 5) hC.1 hC.2.1 dL_law_21 rfl ?_
    refine tw_isub hC dL_law_22 ?_
    refine tw_cgt (tgt := 919) hC hk gx3 ((tm_wr_rg _)) dL_law_23 (by decide) (fun _ hk => ?_) (fun _ hk => ?_)
    · refine lv_iconst (v := tw_I 1) hC.1 hC.2.1 dL_law_919 rfl ?_
      cases hk
      cases hf
      exact tw_lawend hC hL hbase dL_law_920
    · refine lv_aload_n hC.1 hC.2.1 dL_law_26 rfl (lv_at hl 0 rfl) ?_
      refine lv_iload_n hC.1 hC.2.1 dL_law_27 rfl (lv_at hl 3 rfl) ?_
      refine tw_scld hC hR hX hbb hLg hk dL_law_28 (fun v5 gv5 hk => ?_)
      refine lv_bipush (v := tw_I 31) hC.1 hC.2.1 dL_law_29 (by decide) ?_
      refine tw_iand hC dL_law_31 ?_
      by_cases q14 : tm_and v5 31 = 0
      · rw [if_pos q14] at hk
        refine tw_tsIn (tgt := 148) hC 0 q14 (tw_rgL rfl) dL_law_32 (by decide) (by decide) rfl (by decide) ?_
        refine lv_aload_n hC.1 hC.2.1 dL_law_148 rfl (lv_at hl 1 rfl) ?_
        refine lv_aload_n hC.1 hC.2.1 dL_law_149 rfl (lv_at hl 0 rfl) ?_
        refine lv_iload_n hC.1 hC.2.1 dL_law_150 rfl (lv_at hl 3 rfl) ?_
        refine lv_iconst (v := tw_I 1) hC.1 hC.2.1 dL_law_151 rfl ?_
        refine tw_iadd hC dL_law_152 ?_
        refine tw_scld hC hR hX hbb hLg hk dL_law_153 (fun v6 gv6 hk => ?_)
        refine lv_aload_n hC.1 hC.2.1 dL_law_154 rfl (lv_at hl 0 rfl) ?_
        refine lv_iload_n hC.1 hC.2.1 dL_law_155 rfl (lv_at hl 3 rfl) ?_
        refine lv_iconst (v := tw_I 2) hC.1 hC.2.1 dL_law_156 rfl ?_
        refine tw_iadd hC dL_law_157 ?_
        refine tw_scld hC hR hX hbb hLg hk dL_law_158 (fun v7 gv7 hk => ?_)
        refine lv_aload_n hC.1 hC.2.1 dL_law_159 rfl (lv_at hl 0 rfl) ?_
        refine lv_iload_n hC.1 hC.2.1 dL_law_160 rfl (lv_at hl 3 rfl) ?_
        refine lv_iconst (v := tw_I 3) hC.1 hC.2.1 dL_law_161 rfl ?_
        refine tw_iadd hC dL_law_162 ?_
        refine tw_scld hC hR hX hbb hLg hk dL_law_163 (fun v8 gv8 hk => ?_)
        refine kX8_insert hC hR hL hk gv6 gv7 gv8 mlL_13 ⟨by decide, by decide⟩ hl.1 (Nat.le_of_ble_eq_true rfl) ⟨by decide, by decide⟩ dL_law_164 (fun v9 h9 H locs hR hL gv9 hk => ?_)
        refine lv_aload_n hC.1 hC.2.1 dL_law_167 rfl (lv_at hl 2 rfl) ?_
        refine lv_aload_n hC.1 hC.2.1 dL_law_168 rfl (lv_at hl 0 rfl) ?_
        refine lv_iload_n hC.1 hC.2.1 dL_law_169 rfl (lv_at hl 3 rfl) ?_
        refine lv_iconst (v := tw_I 1) hC.1 hC.2.1 dL_law_170 rfl ?_
        refine tw_iadd hC dL_law_171 ?_
        refine tw_scld hC hR hX hbb hLg hk dL_law_172 (fun v10 gv10 hk => ?_)
        refine lv_aload_n hC.1 hC.2.1 dL_law_173 rfl (lv_at hl 0 rfl) ?_
        refine lv_iload_n hC.1 hC.2.1 dL_law_174 rfl (lv_at hl 3 rfl) ?_
        refine lv_iconst (v := tw_I 2) hC.1 hC.2.1 dL_law_175 rfl ?_
        refine tw_iadd hC dL_law_176 ?_
        refine tw_scld hC hR hX hbb hLg hk dL_law_177 (fun v11 gv11 hk => ?_)
        refine lv_aload_n hC.1 hC.2.1 dL_law_178 rfl (lv_at hl 0 rfl) ?_
        refine lv_iload_n hC.1 hC.2.1 dL_law_179 rfl (lv_at hl 3 rfl) ?_
        refine lv_iconst (v := tw_I 3) hC.1 hC.2.1 dL_law_180 rfl ?_
        refine tw_iadd hC dL_law_181 ?_
        refine tw_scld hC hR hX hbb hLg hk dL_law_182 (fun v12 gv12 hk => ?_)
        refine kX9_insert hC hR hL hk gv10 gv11 gv12 mlL_17 ⟨by decide, by decide⟩ hl.1 (Nat.le_of_ble_eq_true rfl) ⟨by decide, by decide⟩ dL_law_183 (fun v13 h13 H locs hR hL gv13 hk => ?_)
        refine tw_ceq (tgt := 913) hC hk gv9 gv13 dL_law_186 (by decide) (fun _ hk => ?_) (fun _ hk => ?_)
        · refine tw_iinc (lv' := [(3, .int (tw_I (tm_wr (x3 + 5)))), (0, .ref b), (1, .ref x1), (2, .ref x2)]) hC dL_law_913 hl (k := 3) rfl (by decide) rfl (fun ls hl => ?_)
          refine lv_goto (tgt := 18) hC.1 hC.2.1 dL_law_916 (by decide) ?_
          cases hk
          exact ih _ out hf hone H locs _ ((tm_wr_rg _)) hR hL (lv_sub hl [1, 2, 3, 0] rfl)
        · refine lv_iconst (v := tw_I 0) hC.1 hC.2.1 dL_law_189 rfl ?_
          cases hk
          cases hf
          exact absurd hone (by decide)
      · rw [if_neg q14] at hk
        by_cases q23 : tm_and v5 31 = 1
        · rw [if_pos q23] at hk
          refine tw_tsIn (tgt := 191) hC 1 q23 (tw_rgL rfl) dL_law_32 (by decide) (by decide) rfl (by decide) ?_
          refine lv_aload_n hC.1 hC.2.1 dL_law_191 rfl (lv_at hl 1 rfl) ?_
          refine lv_aload_n hC.1 hC.2.1 dL_law_192 rfl (lv_at hl 0 rfl) ?_
          refine lv_iload_n hC.1 hC.2.1 dL_law_193 rfl (lv_at hl 3 rfl) ?_
          refine lv_iconst (v := tw_I 1) hC.1 hC.2.1 dL_law_194 rfl ?_
          refine tw_iadd hC dL_law_195 ?_
          refine tw_scld hC hR hX hbb hLg hk dL_law_196 (fun v15 gv15 hk => ?_)
          refine lv_aload_n hC.1 hC.2.1 dL_law_197 rfl (lv_at hl 0 rfl) ?_
          refine lv_iload_n hC.1 hC.2.1 dL_law_198 rfl (lv_at hl 3 rfl) ?_
          refine lv_iconst (v := tw_I 2) hC.1 hC.2.1 dL_law_199 rfl ?_
          refine tw_iadd hC dL_law_200 ?_
          refine tw_scld hC hR hX hbb hLg hk dL_law_201 (fun v16 gv16 hk => ?_)
          refine lv_aload_n hC.1 hC.2.1 dL_law_202 rfl (lv_at hl 0 rfl) ?_
          refine lv_iload_n hC.1 hC.2.1 dL_law_203 rfl (lv_at hl 3 rfl) ?_
          refine lv_iconst (v := tw_I 3) hC.1 hC.2.1 dL_law_204 rfl ?_
          refine tw_iadd hC dL_law_205 ?_
          refine tw_scld hC hR hX hbb hLg hk dL_law_206 (fun v17 gv17 hk => ?_)
          refine kX8_delete hC hR hL hk gv15 gv16 gv17 mlL_18 ⟨by decide, by decide⟩ hl.1 (Nat.le_of_ble_eq_true rfl) ⟨by decide, by decide⟩ dL_law_207 (fun v18 h18 H locs hR hL gv18 hk => ?_)
          refine lv_aload_n hC.1 hC.2.1 dL_law_210 rfl (lv_at hl 2 rfl) ?_
          refine lv_aload_n hC.1 hC.2.1 dL_law_211 rfl (lv_at hl 0 rfl) ?_
          refine lv_iload_n hC.1 hC.2.1 dL_law_212 rfl (lv_at hl 3 rfl) ?_
          refine lv_iconst (v := tw_I 1) hC.1 hC.2.1 dL_law_213 rfl ?_
          refine tw_iadd hC dL_law_214 ?_
          refine tw_scld hC hR hX hbb hLg hk dL_law_215 (fun v19 gv19 hk => ?_)
          refine lv_aload_n hC.1 hC.2.1 dL_law_216 rfl (lv_at hl 0 rfl) ?_
          refine lv_iload_n hC.1 hC.2.1 dL_law_217 rfl (lv_at hl 3 rfl) ?_
          refine lv_iconst (v := tw_I 2) hC.1 hC.2.1 dL_law_218 rfl ?_
          refine tw_iadd hC dL_law_219 ?_
          refine tw_scld hC hR hX hbb hLg hk dL_law_220 (fun v20 gv20 hk => ?_)
          refine lv_aload_n hC.1 hC.2.1 dL_law_221 rfl (lv_at hl 0 rfl) ?_
          refine lv_iload_n hC.1 hC.2.1 dL_law_222 rfl (lv_at hl 3 rfl) ?_
          refine lv_iconst (v := tw_I 3) hC.1 hC.2.1 dL_law_223 rfl ?_
          refine tw_iadd hC dL_law_224 ?_
          refine tw_scld hC hR hX hbb hLg hk dL_law_225 (fun v21 gv21 hk => ?_)
          refine kX9_delete hC hR hL hk gv19 gv20 gv21 mlL_21 ⟨by decide, by decide⟩ hl.1 (Nat.le_of_ble_eq_true rfl) ⟨by decide, by decide⟩ dL_law_226 (fun v22 h22 H locs hR hL gv22 hk => ?_)
          refine tw_ceq (tgt := 913) hC hk gv18 gv22 dL_law_229 (by decide) (fun _ hk => ?_) (fun _ hk => ?_)
          · refine tw_iinc (lv' := [(3, .int (tw_I (tm_wr (x3 + 5)))), (0, .ref b), (1, .ref x1), (2, .ref x2)]) hC dL_law_913 hl (k := 3) rfl (by decide) rfl (fun ls hl => ?_)
            refine lv_goto (tgt := 18) hC.1 hC.2.1 dL_law_916 (by decide) ?_
            cases hk
            exact ih _ out hf hone H locs _ ((tm_wr_rg _)) hR hL (lv_sub hl [1, 2, 3, 0] rfl)
          · refine lv_iconst (v := tw_I 0) hC.1 hC.2.1 dL_law_232 rfl ?_
            cases hk
            cases hf
            exact absurd hone (by decide)
        · rw [if_neg q23] at hk
          by_cases q30 : tm_and v5 31 = 2
          · rw [if_pos q30] at hk
            refine tw_tsIn (tgt := 234) hC 2 q30 (tw_rgL rfl) dL_law_32 (by decide) (by decide) rfl (by decide) ?_
            refine lv_aload_n hC.1 hC.2.1 dL_law_234 rfl (lv_at hl 1 rfl) ?_
            refine lv_aload_n hC.1 hC.2.1 dL_law_235 rfl (lv_at hl 0 rfl) ?_
            refine lv_iload_n hC.1 hC.2.1 dL_law_236 rfl (lv_at hl 3 rfl) ?_
            refine lv_iconst (v := tw_I 1) hC.1 hC.2.1 dL_law_237 rfl ?_
            refine tw_iadd hC dL_law_238 ?_
            refine tw_scld hC hR hX hbb hLg hk dL_law_239 (fun v24 gv24 hk => ?_)
            refine lv_aload_n hC.1 hC.2.1 dL_law_240 rfl (lv_at hl 0 rfl) ?_
            refine lv_iload_n hC.1 hC.2.1 dL_law_241 rfl (lv_at hl 3 rfl) ?_
            refine lv_iconst (v := tw_I 2) hC.1 hC.2.1 dL_law_242 rfl ?_
            refine tw_iadd hC dL_law_243 ?_
            refine tw_scld hC hR hX hbb hLg hk dL_law_244 (fun v25 gv25 hk => ?_)
            refine kX8_replace hC hR hL hk gv24 gv25 mlL_22 ⟨by decide, by decide⟩ hl.1 (Nat.le_of_ble_eq_true rfl) ⟨by decide, by decide⟩ dL_law_245 (fun v26 h26 H locs hR hL gv26 hk => ?_)
            refine lv_aload_n hC.1 hC.2.1 dL_law_248 rfl (lv_at hl 2 rfl) ?_
            refine lv_aload_n hC.1 hC.2.1 dL_law_249 rfl (lv_at hl 0 rfl) ?_
            refine lv_iload_n hC.1 hC.2.1 dL_law_250 rfl (lv_at hl 3 rfl) ?_
            refine lv_iconst (v := tw_I 1) hC.1 hC.2.1 dL_law_251 rfl ?_
            refine tw_iadd hC dL_law_252 ?_
            refine tw_scld hC hR hX hbb hLg hk dL_law_253 (fun v27 gv27 hk => ?_)
            refine lv_aload_n hC.1 hC.2.1 dL_law_254 rfl (lv_at hl 0 rfl) ?_
            refine lv_iload_n hC.1 hC.2.1 dL_law_255 rfl (lv_at hl 3 rfl) ?_
            refine lv_iconst (v := tw_I 2) hC.1 hC.2.1 dL_law_256 rfl ?_
            refine tw_iadd hC dL_law_257 ?_
            refine tw_scld hC hR hX hbb hLg hk dL_law_258 (fun v28 gv28 hk => ?_)
            refine kX9_replace hC hR hL hk gv27 gv28 mlL_26 ⟨by decide, by decide⟩ hl.1 (Nat.le_of_ble_eq_true rfl) ⟨by decide, by decide⟩ dL_law_259 (fun v29 h29 H locs hR hL gv29 hk => ?_)
            refine tw_ceq (tgt := 913) hC hk gv26 gv29 dL_law_262 (by decide) (fun _ hk => ?_) (fun _ hk => ?_)
            · refine tw_iinc (lv' := [(3, .int (tw_I (tm_wr (x3 + 5)))), (0, .ref b), (1, .ref x1), (2, .ref x2)]) hC dL_law_913 hl (k := 3) rfl (by decide) rfl (fun ls hl => ?_)
              refine lv_goto (tgt := 18) hC.1 hC.2.1 dL_law_916 (by decide) ?_
              cases hk
              exact ih _ out hf hone H locs _ ((tm_wr_rg _)) hR hL (lv_sub hl [1, 2, 3, 0] rfl)
            · refine lv_iconst (v := tw_I 0) hC.1 hC.2.1 dL_law_265 rfl ?_
              cases hk
              cases hf
              exact absurd hone (by decide)
          · rw [if_neg q30] at hk
            by_cases q37 : tm_and v5 31 = 3
            · rw [if_pos q37] at hk
              refine tw_tsIn (tgt := 267) hC 3 q37 (tw_rgL rfl) dL_law_32 (by decide) (by decide) rfl (by decide) ?_
              refine lv_aload_n hC.1 hC.2.1 dL_law_267 rfl (lv_at hl 1 rfl) ?_
              refine lv_aload_n hC.1 hC.2.1 dL_law_268 rfl (lv_at hl 0 rfl) ?_
              refine lv_iload_n hC.1 hC.2.1 dL_law_269 rfl (lv_at hl 3 rfl) ?_
              refine lv_iconst (v := tw_I 1) hC.1 hC.2.1 dL_law_270 rfl ?_
              refine tw_iadd hC dL_law_271 ?_
              refine tw_scld hC hR hX hbb hLg hk dL_law_272 (fun v31 gv31 hk => ?_)
              refine lv_aload_n hC.1 hC.2.1 dL_law_273 rfl (lv_at hl 0 rfl) ?_
              refine lv_iload_n hC.1 hC.2.1 dL_law_274 rfl (lv_at hl 3 rfl) ?_
              refine lv_iconst (v := tw_I 2) hC.1 hC.2.1 dL_law_275 rfl ?_
              refine tw_iadd hC dL_law_276 ?_
              refine tw_scld hC hR hX hbb hLg hk dL_law_277 (fun v32 gv32 hk => ?_)
              refine kX8_swap hC hR hL hk gv31 gv32 mlL_27 ⟨by decide, by decide⟩ hl.1 (Nat.le_of_ble_eq_true rfl) ⟨by decide, by decide⟩ dL_law_278 (fun v33 h33 H locs hR hL gv33 hk => ?_)
              refine lv_aload_n hC.1 hC.2.1 dL_law_281 rfl (lv_at hl 2 rfl) ?_
              refine lv_aload_n hC.1 hC.2.1 dL_law_282 rfl (lv_at hl 0 rfl) ?_
              refine lv_iload_n hC.1 hC.2.1 dL_law_283 rfl (lv_at hl 3 rfl) ?_
              refine lv_iconst (v := tw_I 1) hC.1 hC.2.1 dL_law_284 rfl ?_
              refine tw_iadd hC dL_law_285 ?_
              refine tw_scld hC hR hX hbb hLg hk dL_law_286 (fun v34 gv34 hk => ?_)
              refine lv_aload_n hC.1 hC.2.1 dL_law_287 rfl (lv_at hl 0 rfl) ?_
              refine lv_iload_n hC.1 hC.2.1 dL_law_288 rfl (lv_at hl 3 rfl) ?_
              refine lv_iconst (v := tw_I 2) hC.1 hC.2.1 dL_law_289 rfl ?_
              refine tw_iadd hC dL_law_290 ?_
              refine tw_scld hC hR hX hbb hLg hk dL_law_291 (fun v35 gv35 hk => ?_)
              refine kX9_swap hC hR hL hk gv34 gv35 mlL_30 ⟨by decide, by decide⟩ hl.1 (Nat.le_of_ble_eq_true rfl) ⟨by decide, by decide⟩ dL_law_292 (fun v36 h36 H locs hR hL gv36 hk => ?_)
              refine tw_ceq (tgt := 913) hC hk gv33 gv36 dL_law_295 (by decide) (fun _ hk => ?_) (fun _ hk => ?_)
              · refine tw_iinc (lv' := [(3, .int (tw_I (tm_wr (x3 + 5)))), (0, .ref b), (1, .ref x1), (2, .ref x2)]) hC dL_law_913 hl (k := 3) rfl (by decide) rfl (fun ls hl => ?_)
                refine lv_goto (tgt := 18) hC.1 hC.2.1 dL_law_916 (by decide) ?_
                cases hk
                exact ih _ out hf hone H locs _ ((tm_wr_rg _)) hR hL (lv_sub hl [1, 2, 3, 0] rfl)
              · refine lv_iconst (v := tw_I 0) hC.1 hC.2.1 dL_law_298 rfl ?_
                cases hk
                cases hf
                exact absurd hone (by decide)
            · rw [if_neg q37] at hk
              by_cases q48 : tm_and v5 31 = 4
              · rw [if_pos q48] at hk
                refine tw_tsIn (tgt := 300) hC 4 q48 (tw_rgL rfl) dL_law_32 (by decide) (by decide) rfl (by decide) ?_
                refine lv_aload_n hC.1 hC.2.1 dL_law_300 rfl (lv_at hl 1 rfl) ?_
                refine lv_aload_n hC.1 hC.2.1 dL_law_301 rfl (lv_at hl 0 rfl) ?_
                refine lv_iload_n hC.1 hC.2.1 dL_law_302 rfl (lv_at hl 3 rfl) ?_
                refine lv_iconst (v := tw_I 1) hC.1 hC.2.1 dL_law_303 rfl ?_
                refine tw_iadd hC dL_law_304 ?_
                refine tw_scld hC hR hX hbb hLg hk dL_law_305 (fun v38 gv38 hk => ?_)
                refine lv_aload_n hC.1 hC.2.1 dL_law_306 rfl (lv_at hl 0 rfl) ?_
                refine lv_iload_n hC.1 hC.2.1 dL_law_307 rfl (lv_at hl 3 rfl) ?_
                refine lv_iconst (v := tw_I 2) hC.1 hC.2.1 dL_law_308 rfl ?_
                refine tw_iadd hC dL_law_309 ?_
                refine tw_scld hC hR hX hbb hLg hk dL_law_310 (fun v39 gv39 hk => ?_)
                refine lv_aload_n hC.1 hC.2.1 dL_law_311 rfl (lv_at hl 0 rfl) ?_
                refine lv_iload_n hC.1 hC.2.1 dL_law_312 rfl (lv_at hl 3 rfl) ?_
                refine lv_iconst (v := tw_I 3) hC.1 hC.2.1 dL_law_313 rfl ?_
                refine tw_iadd hC dL_law_314 ?_
                refine tw_scld hC hR hX hbb hLg hk dL_law_315 (fun v40 gv40 hk => ?_)
                refine lv_aload_n hC.1 hC.2.1 dL_law_316 rfl (lv_at hl 0 rfl) ?_
                refine lv_iload_n hC.1 hC.2.1 dL_law_317 rfl (lv_at hl 3 rfl) ?_
                refine lv_iconst (v := tw_I 4) hC.1 hC.2.1 dL_law_318 rfl ?_
                refine tw_iadd hC dL_law_319 ?_
                refine tw_scld hC hR hX hbb hLg hk dL_law_320 (fun v41 gv41 hk => ?_)
                refine kX8_addTerm hC hR hL hk gv38 gv39 gv40 gv41 mlL_31 ⟨by decide, by decide⟩ hl.1 (Nat.le_of_ble_eq_true rfl) ⟨by decide, by decide⟩ dL_law_321 (fun v42 h42 H locs hR hL gv42 hk => ?_)
                refine lv_aload_n hC.1 hC.2.1 dL_law_324 rfl (lv_at hl 2 rfl) ?_
                refine lv_aload_n hC.1 hC.2.1 dL_law_325 rfl (lv_at hl 0 rfl) ?_
                refine lv_iload_n hC.1 hC.2.1 dL_law_326 rfl (lv_at hl 3 rfl) ?_
                refine lv_iconst (v := tw_I 1) hC.1 hC.2.1 dL_law_327 rfl ?_
                refine tw_iadd hC dL_law_328 ?_
                refine tw_scld hC hR hX hbb hLg hk dL_law_329 (fun v43 gv43 hk => ?_)
                refine lv_aload_n hC.1 hC.2.1 dL_law_330 rfl (lv_at hl 0 rfl) ?_
                refine lv_iload_n hC.1 hC.2.1 dL_law_331 rfl (lv_at hl 3 rfl) ?_
                refine lv_iconst (v := tw_I 2) hC.1 hC.2.1 dL_law_332 rfl ?_
                refine tw_iadd hC dL_law_333 ?_
                refine tw_scld hC hR hX hbb hLg hk dL_law_334 (fun v44 gv44 hk => ?_)
                refine lv_aload_n hC.1 hC.2.1 dL_law_335 rfl (lv_at hl 0 rfl) ?_
                refine lv_iload_n hC.1 hC.2.1 dL_law_336 rfl (lv_at hl 3 rfl) ?_
                refine lv_iconst (v := tw_I 3) hC.1 hC.2.1 dL_law_337 rfl ?_
                refine tw_iadd hC dL_law_338 ?_
                refine tw_scld hC hR hX hbb hLg hk dL_law_339 (fun v45 gv45 hk => ?_)
                refine lv_aload_n hC.1 hC.2.1 dL_law_340 rfl (lv_at hl 0 rfl) ?_
                refine lv_iload_n hC.1 hC.2.1 dL_law_341 rfl (lv_at hl 3 rfl) ?_
                refine lv_iconst (v := tw_I 4) hC.1 hC.2.1 dL_law_342 rfl ?_
                refine tw_iadd hC dL_law_343 ?_
                refine tw_scld hC hR hX hbb hLg hk dL_law_344 (fun v46 gv46 hk => ?_)
                refine kX9_addTerm hC hR hL hk gv43 gv44 gv45 gv46 mlL_35 ⟨by decide, by decide⟩ hl.1 (Nat.le_of_ble_eq_true rfl) ⟨by decide, by decide⟩ dL_law_345 (fun v47 h47 H locs hR hL gv47 hk => ?_)
                refine tw_ceq (tgt := 913) hC hk gv42 gv47 dL_law_348 (by decide) (fun _ hk => ?_) (fun _ hk => ?_)
                · refine tw_iinc (lv' := [(3, .int (tw_I (tm_wr (x3 + 5)))), (0, .ref b), (1, .ref x1), (2, .ref x2)]) hC dL_law_913 hl (k := 3) rfl (by decide) rfl (fun ls hl => ?_)
                  refine lv_goto (tgt := 18) hC.1 hC.2.1 dL_law_916 (by decide) ?_
                  cases hk
                  exact ih _ out hf hone H locs _ ((tm_wr_rg _)) hR hL (lv_sub hl [1, 2, 3, 0] rfl)
                · refine lv_iconst (v := tw_I 0) hC.1 hC.2.1 dL_law_351 rfl ?_
                  cases hk
                  cases hf
                  exact absurd hone (by decide)
              · rw [if_neg q48] at hk
                by_cases q53 : tm_and v5 31 = 5
                · rw [if_pos q53] at hk
                  refine tw_tsIn (tgt := 353) hC 5 q53 (tw_rgL rfl) dL_law_32 (by decide) (by decide) rfl (by decide) ?_
                  refine lv_aload_n hC.1 hC.2.1 dL_law_353 rfl (lv_at hl 1 rfl) ?_
                  refine lv_aload_n hC.1 hC.2.1 dL_law_354 rfl (lv_at hl 0 rfl) ?_
                  refine lv_iload_n hC.1 hC.2.1 dL_law_355 rfl (lv_at hl 3 rfl) ?_
                  refine lv_iconst (v := tw_I 1) hC.1 hC.2.1 dL_law_356 rfl ?_
                  refine tw_iadd hC dL_law_357 ?_
                  refine tw_scld hC hR hX hbb hLg hk dL_law_358 (fun v49 gv49 hk => ?_)
                  refine kX8_removeTerm hC hR hL hk gv49 mlL_36 ⟨by decide, by decide⟩ hl.1 (Nat.le_of_ble_eq_true rfl) ⟨by decide, by decide⟩ dL_law_359 (fun v50 h50 H locs hR hL gv50 hk => ?_)
                  refine lv_aload_n hC.1 hC.2.1 dL_law_362 rfl (lv_at hl 2 rfl) ?_
                  refine lv_aload_n hC.1 hC.2.1 dL_law_363 rfl (lv_at hl 0 rfl) ?_
                  refine lv_iload_n hC.1 hC.2.1 dL_law_364 rfl (lv_at hl 3 rfl) ?_
                  refine lv_iconst (v := tw_I 1) hC.1 hC.2.1 dL_law_365 rfl ?_
                  refine tw_iadd hC dL_law_366 ?_
                  refine tw_scld hC hR hX hbb hLg hk dL_law_367 (fun v51 gv51 hk => ?_)
                  refine kX9_removeTerm hC hR hL hk gv51 mlL_40 ⟨by decide, by decide⟩ hl.1 (Nat.le_of_ble_eq_true rfl) ⟨by decide, by decide⟩ dL_law_368 (fun v52 h52 H locs hR hL gv52 hk => ?_)
                  refine tw_ceq (tgt := 913) hC hk gv50 gv52 dL_law_371 (by decide) (fun _ hk => ?_) (fun _ hk => ?_)
                  · refine tw_iinc (lv' := [(3, .int (tw_I (tm_wr (x3 + 5)))), (0, .ref b), (1, .ref x1), (2, .ref x2)]) hC dL_law_913 hl (k := 3) rfl (by decide) rfl (fun ls hl => ?_)
                    refine lv_goto (tgt := 18) hC.1 hC.2.1 dL_law_916 (by decide) ?_
                    cases hk
                    exact ih _ out hf hone H locs _ ((tm_wr_rg _)) hR hL (lv_sub hl [1, 2, 3, 0] rfl)
                  · refine lv_iconst (v := tw_I 0) hC.1 hC.2.1 dL_law_374 rfl ?_
                    cases hk
                    cases hf
                    exact absurd hone (by decide)
                · rw [if_neg q53] at hk
                  by_cases q60 : tm_and v5 31 = 6
                  · rw [if_pos q60] at hk
                    refine tw_tsIn (tgt := 376) hC 6 q60 (tw_rgL rfl) dL_law_32 (by decide) (by decide) rfl (by decide) ?_
                    refine lv_aload_n hC.1 hC.2.1 dL_law_376 rfl (lv_at hl 1 rfl) ?_
                    refine lv_aload_n hC.1 hC.2.1 dL_law_377 rfl (lv_at hl 0 rfl) ?_
                    refine lv_iload_n hC.1 hC.2.1 dL_law_378 rfl (lv_at hl 3 rfl) ?_
                    refine lv_iconst (v := tw_I 1) hC.1 hC.2.1 dL_law_379 rfl ?_
                    refine tw_iadd hC dL_law_380 ?_
                    refine tw_scld hC hR hX hbb hLg hk dL_law_381 (fun v54 gv54 hk => ?_)
                    refine lv_aload_n hC.1 hC.2.1 dL_law_382 rfl (lv_at hl 0 rfl) ?_
                    refine lv_iload_n hC.1 hC.2.1 dL_law_383 rfl (lv_at hl 3 rfl) ?_
                    refine lv_iconst (v := tw_I 2) hC.1 hC.2.1 dL_law_384 rfl ?_
                    refine tw_iadd hC dL_law_385 ?_
                    refine tw_scld hC hR hX hbb hLg hk dL_law_386 (fun v55 gv55 hk => ?_)
                    refine kX8_setQuiet hC hR hL hk gv54 gv55 mlL_41 ⟨by decide, by decide⟩ hl.1 (Nat.le_of_ble_eq_true rfl) ⟨by decide, by decide⟩ dL_law_387 (fun v56 h56 H locs hR hL gv56 hk => ?_)
                    refine lv_aload_n hC.1 hC.2.1 dL_law_390 rfl (lv_at hl 2 rfl) ?_
                    refine lv_aload_n hC.1 hC.2.1 dL_law_391 rfl (lv_at hl 0 rfl) ?_
                    refine lv_iload_n hC.1 hC.2.1 dL_law_392 rfl (lv_at hl 3 rfl) ?_
                    refine lv_iconst (v := tw_I 1) hC.1 hC.2.1 dL_law_393 rfl ?_
                    refine tw_iadd hC dL_law_394 ?_
                    refine tw_scld hC hR hX hbb hLg hk dL_law_395 (fun v57 gv57 hk => ?_)
                    refine lv_aload_n hC.1 hC.2.1 dL_law_396 rfl (lv_at hl 0 rfl) ?_
                    refine lv_iload_n hC.1 hC.2.1 dL_law_397 rfl (lv_at hl 3 rfl) ?_
                    refine lv_iconst (v := tw_I 2) hC.1 hC.2.1 dL_law_398 rfl ?_
                    refine tw_iadd hC dL_law_399 ?_
                    refine tw_scld hC hR hX hbb hLg hk dL_law_400 (fun v58 gv58 hk => ?_)
                    refine kX9_setQuiet hC hR hL hk gv57 gv58 mlL_44 ⟨by decide, by decide⟩ hl.1 (Nat.le_of_ble_eq_true rfl) ⟨by decide, by decide⟩ dL_law_401 (fun v59 h59 H locs hR hL gv59 hk => ?_)
                    refine tw_ceq (tgt := 913) hC hk gv56 gv59 dL_law_404 (by decide) (fun _ hk => ?_) (fun _ hk => ?_)
                    · refine tw_iinc (lv' := [(3, .int (tw_I (tm_wr (x3 + 5)))), (0, .ref b), (1, .ref x1), (2, .ref x2)]) hC dL_law_913 hl (k := 3) rfl (by decide) rfl (fun ls hl => ?_)
                      refine lv_goto (tgt := 18) hC.1 hC.2.1 dL_law_916 (by decide) ?_
                      cases hk
                      exact ih _ out hf hone H locs _ ((tm_wr_rg _)) hR hL (lv_sub hl [1, 2, 3, 0] rfl)
                    · refine lv_iconst (v := tw_I 0) hC.1 hC.2.1 dL_law_407 rfl ?_
                      cases hk
                      cases hf
                      exact absurd hone (by decide)
                  · rw [if_neg q60] at hk
                    by_cases q67 : tm_and v5 31 = 7
                    · rw [if_pos q67] at hk
                      refine tw_tsIn (tgt := 409) hC 7 q67 (tw_rgL rfl) dL_law_32 (by decide) (by decide) rfl (by decide) ?_
                      refine lv_aload_n hC.1 hC.2.1 dL_law_409 rfl (lv_at hl 1 rfl) ?_
                      refine lv_aload_n hC.1 hC.2.1 dL_law_410 rfl (lv_at hl 0 rfl) ?_
                      refine lv_iload_n hC.1 hC.2.1 dL_law_411 rfl (lv_at hl 3 rfl) ?_
                      refine lv_iconst (v := tw_I 1) hC.1 hC.2.1 dL_law_412 rfl ?_
                      refine tw_iadd hC dL_law_413 ?_
                      refine tw_scld hC hR hX hbb hLg hk dL_law_414 (fun v61 gv61 hk => ?_)
                      refine lv_aload_n hC.1 hC.2.1 dL_law_415 rfl (lv_at hl 0 rfl) ?_
                      refine lv_iload_n hC.1 hC.2.1 dL_law_416 rfl (lv_at hl 3 rfl) ?_
                      refine lv_iconst (v := tw_I 2) hC.1 hC.2.1 dL_law_417 rfl ?_
                      refine tw_iadd hC dL_law_418 ?_
                      refine tw_scld hC hR hX hbb hLg hk dL_law_419 (fun v62 gv62 hk => ?_)
                      refine kX8_setBase hC hR hL hk gv61 gv62 mlL_45 ⟨by decide, by decide⟩ hl.1 (Nat.le_of_ble_eq_true rfl) ⟨by decide, by decide⟩ dL_law_420 (fun v63 h63 H locs hR hL gv63 hk => ?_)
                      refine lv_aload_n hC.1 hC.2.1 dL_law_423 rfl (lv_at hl 2 rfl) ?_
                      refine lv_aload_n hC.1 hC.2.1 dL_law_424 rfl (lv_at hl 0 rfl) ?_
                      refine lv_iload_n hC.1 hC.2.1 dL_law_425 rfl (lv_at hl 3 rfl) ?_
                      refine lv_iconst (v := tw_I 1) hC.1 hC.2.1 dL_law_426 rfl ?_
                      refine tw_iadd hC dL_law_427 ?_
                      refine tw_scld hC hR hX hbb hLg hk dL_law_428 (fun v64 gv64 hk => ?_)
                      refine lv_aload_n hC.1 hC.2.1 dL_law_429 rfl (lv_at hl 0 rfl) ?_
                      refine lv_iload_n hC.1 hC.2.1 dL_law_430 rfl (lv_at hl 3 rfl) ?_
                      refine lv_iconst (v := tw_I 2) hC.1 hC.2.1 dL_law_431 rfl ?_
                      refine tw_iadd hC dL_law_432 ?_
                      refine tw_scld hC hR hX hbb hLg hk dL_law_433 (fun v65 gv65 hk => ?_)
                      refine kX9_setBase hC hR hL hk gv64 gv65 mlL_48 ⟨by decide, by decide⟩ hl.1 (Nat.le_of_ble_eq_true rfl) ⟨by decide, by decide⟩ dL_law_434 (fun v66 h66 H locs hR hL gv66 hk => ?_)
                      refine tw_ceq (tgt := 913) hC hk gv63 gv66 dL_law_437 (by decide) (fun _ hk => ?_) (fun _ hk => ?_)
                      · refine tw_iinc (lv' := [(3, .int (tw_I (tm_wr (x3 + 5)))), (0, .ref b), (1, .ref x1), (2, .ref x2)]) hC dL_law_913 hl (k := 3) rfl (by decide) rfl (fun ls hl => ?_)
                        refine lv_goto (tgt := 18) hC.1 hC.2.1 dL_law_916 (by decide) ?_
                        cases hk
                        exact ih _ out hf hone H locs _ ((tm_wr_rg _)) hR hL (lv_sub hl [1, 2, 3, 0] rfl)
                      · refine lv_iconst (v := tw_I 0) hC.1 hC.2.1 dL_law_440 rfl ?_
                        cases hk
                        cases hf
                        exact absurd hone (by decide)
                    · rw [if_neg q67] at hk
                      by_cases q72 : tm_and v5 31 = 8
                      · rw [if_pos q72] at hk
                        refine tw_tsIn (tgt := 442) hC 8 q72 (tw_rgL rfl) dL_law_32 (by decide) (by decide) rfl (by decide) ?_
                        refine lv_aload_n hC.1 hC.2.1 dL_law_442 rfl (lv_at hl 1 rfl) ?_
                        refine lv_aload_n hC.1 hC.2.1 dL_law_443 rfl (lv_at hl 0 rfl) ?_
                        refine lv_iload_n hC.1 hC.2.1 dL_law_444 rfl (lv_at hl 3 rfl) ?_
                        refine lv_iconst (v := tw_I 1) hC.1 hC.2.1 dL_law_445 rfl ?_
                        refine tw_iadd hC dL_law_446 ?_
                        refine tw_scld hC hR hX hbb hLg hk dL_law_447 (fun v68 gv68 hk => ?_)
                        refine kX8_take hC hR hL hk gv68 mlL_49 ⟨by decide, by decide⟩ hl.1 (Nat.le_of_ble_eq_true rfl) ⟨by decide, by decide⟩ dL_law_448 (fun v69 h69 H locs hR hL gv69 hk => ?_)
                        refine lv_aload_n hC.1 hC.2.1 dL_law_451 rfl (lv_at hl 2 rfl) ?_
                        refine lv_aload_n hC.1 hC.2.1 dL_law_452 rfl (lv_at hl 0 rfl) ?_
                        refine lv_iload_n hC.1 hC.2.1 dL_law_453 rfl (lv_at hl 3 rfl) ?_
                        refine lv_iconst (v := tw_I 1) hC.1 hC.2.1 dL_law_454 rfl ?_
                        refine tw_iadd hC dL_law_455 ?_
                        refine tw_scld hC hR hX hbb hLg hk dL_law_456 (fun v70 gv70 hk => ?_)
                        refine kX9_take hC hR hL hk gv70 mlL_52 ⟨by decide, by decide⟩ hl.1 (Nat.le_of_ble_eq_true rfl) ⟨by decide, by decide⟩ dL_law_457 (fun v71 h71 H locs hR hL gv71 hk => ?_)
                        refine tw_ceq (tgt := 913) hC hk gv69 gv71 dL_law_460 (by decide) (fun _ hk => ?_) (fun _ hk => ?_)
                        · refine tw_iinc (lv' := [(3, .int (tw_I (tm_wr (x3 + 5)))), (0, .ref b), (1, .ref x1), (2, .ref x2)]) hC dL_law_913 hl (k := 3) rfl (by decide) rfl (fun ls hl => ?_)
                          refine lv_goto (tgt := 18) hC.1 hC.2.1 dL_law_916 (by decide) ?_
                          cases hk
                          exact ih _ out hf hone H locs _ ((tm_wr_rg _)) hR hL (lv_sub hl [1, 2, 3, 0] rfl)
                        · refine lv_iconst (v := tw_I 0) hC.1 hC.2.1 dL_law_463 rfl ?_
                          cases hk
                          cases hf
                          exact absurd hone (by decide)
                      · rw [if_neg q72] at hk
                        by_cases q77 : tm_and v5 31 = 9
                        · rw [if_pos q77] at hk
                          refine tw_tsIn (tgt := 465) hC 9 q77 (tw_rgL rfl) dL_law_32 (by decide) (by decide) rfl (by decide) ?_
                          refine lv_aload_n hC.1 hC.2.1 dL_law_465 rfl (lv_at hl 1 rfl) ?_
                          refine lv_aload_n hC.1 hC.2.1 dL_law_466 rfl (lv_at hl 0 rfl) ?_
                          refine lv_iload_n hC.1 hC.2.1 dL_law_467 rfl (lv_at hl 3 rfl) ?_
                          refine lv_iconst (v := tw_I 1) hC.1 hC.2.1 dL_law_468 rfl ?_
                          refine tw_iadd hC dL_law_469 ?_
                          refine tw_scld hC hR hX hbb hLg hk dL_law_470 (fun v73 gv73 hk => ?_)
                          refine kX8_restore hC hR hL hk gv73 mlL_53 ⟨by decide, by decide⟩ hl.1 (Nat.le_of_ble_eq_true rfl) ⟨by decide, by decide⟩ dL_law_471 (fun v74 h74 H locs hR hL gv74 hk => ?_)
                          refine lv_aload_n hC.1 hC.2.1 dL_law_474 rfl (lv_at hl 2 rfl) ?_
                          refine lv_aload_n hC.1 hC.2.1 dL_law_475 rfl (lv_at hl 0 rfl) ?_
                          refine lv_iload_n hC.1 hC.2.1 dL_law_476 rfl (lv_at hl 3 rfl) ?_
                          refine lv_iconst (v := tw_I 1) hC.1 hC.2.1 dL_law_477 rfl ?_
                          refine tw_iadd hC dL_law_478 ?_
                          refine tw_scld hC hR hX hbb hLg hk dL_law_479 (fun v75 gv75 hk => ?_)
                          refine kX9_restore hC hR hL hk gv75 mlL_56 ⟨by decide, by decide⟩ hl.1 (Nat.le_of_ble_eq_true rfl) ⟨by decide, by decide⟩ dL_law_480 (fun v76 h76 H locs hR hL gv76 hk => ?_)
                          refine tw_ceq (tgt := 913) hC hk gv74 gv76 dL_law_483 (by decide) (fun _ hk => ?_) (fun _ hk => ?_)
                          · refine tw_iinc (lv' := [(3, .int (tw_I (tm_wr (x3 + 5)))), (0, .ref b), (1, .ref x1), (2, .ref x2)]) hC dL_law_913 hl (k := 3) rfl (by decide) rfl (fun ls hl => ?_)
                            refine lv_goto (tgt := 18) hC.1 hC.2.1 dL_law_916 (by decide) ?_
                            cases hk
                            exact ih _ out hf hone H locs _ ((tm_wr_rg _)) hR hL (lv_sub hl [1, 2, 3, 0] rfl)
                          · refine lv_iconst (v := tw_I 0) hC.1 hC.2.1 dL_law_486 rfl ?_
                            cases hk
                            cases hf
                            exact absurd hone (by decide)
                        · rw [if_neg q77] at hk
                          by_cases q80 : tm_and v5 31 = 10
                          · rw [if_pos q80] at hk
                            refine tw_tsIn (tgt := 488) hC 10 q80 (tw_rgL rfl) dL_law_32 (by decide) (by decide) rfl (by decide) ?_
                            refine lv_aload_n hC.1 hC.2.1 dL_law_488 rfl (lv_at hl 1 rfl) ?_
                            refine kX8_undo hC hR hL hk mlL_57 ⟨by decide, by decide⟩ hl.1 (Nat.le_of_ble_eq_true rfl) ⟨by decide, by decide⟩ dL_law_489 (fun v78 h78 H locs hR hL gv78 hk => ?_)
                            refine lv_aload_n hC.1 hC.2.1 dL_law_492 rfl (lv_at hl 2 rfl) ?_
                            refine kX9_undo hC hR hL hk mlL_61 ⟨by decide, by decide⟩ hl.1 (Nat.le_of_ble_eq_true rfl) ⟨by decide, by decide⟩ dL_law_493 (fun v79 h79 H locs hR hL gv79 hk => ?_)
                            refine tw_ceq (tgt := 913) hC hk gv78 gv79 dL_law_496 (by decide) (fun _ hk => ?_) (fun _ hk => ?_)
                            · refine tw_iinc (lv' := [(3, .int (tw_I (tm_wr (x3 + 5)))), (0, .ref b), (1, .ref x1), (2, .ref x2)]) hC dL_law_913 hl (k := 3) rfl (by decide) rfl (fun ls hl => ?_)
                              refine lv_goto (tgt := 18) hC.1 hC.2.1 dL_law_916 (by decide) ?_
                              cases hk
                              exact ih _ out hf hone H locs _ ((tm_wr_rg _)) hR hL (lv_sub hl [1, 2, 3, 0] rfl)
                            · refine lv_iconst (v := tw_I 0) hC.1 hC.2.1 dL_law_499 rfl ?_
                              cases hk
                              cases hf
                              exact absurd hone (by decide)
                          · rw [if_neg q80] at hk
                            by_cases q85 : tm_and v5 31 = 11
                            · rw [if_pos q85] at hk
                              refine tw_tsIn (tgt := 501) hC 11 q85 (tw_rgL rfl) dL_law_32 (by decide) (by decide) rfl (by decide) ?_
                              refine lv_aload_n hC.1 hC.2.1 dL_law_501 rfl (lv_at hl 1 rfl) ?_
                              refine lv_aload_n hC.1 hC.2.1 dL_law_502 rfl (lv_at hl 0 rfl) ?_
                              refine lv_iload_n hC.1 hC.2.1 dL_law_503 rfl (lv_at hl 3 rfl) ?_
                              refine lv_iconst (v := tw_I 1) hC.1 hC.2.1 dL_law_504 rfl ?_
                              refine tw_iadd hC dL_law_505 ?_
                              refine tw_scld hC hR hX hbb hLg hk dL_law_506 (fun v81 gv81 hk => ?_)
                              refine kX8_append hC hR hL hk gv81 mlL_62 ⟨by decide, by decide⟩ hl.1 (Nat.le_of_ble_eq_true rfl) ⟨by decide, by decide⟩ dL_law_507 (fun v82 h82 H locs hR hL gv82 hk => ?_)
                              refine lv_aload_n hC.1 hC.2.1 dL_law_510 rfl (lv_at hl 2 rfl) ?_
                              refine lv_aload_n hC.1 hC.2.1 dL_law_511 rfl (lv_at hl 0 rfl) ?_
                              refine lv_iload_n hC.1 hC.2.1 dL_law_512 rfl (lv_at hl 3 rfl) ?_
                              refine lv_iconst (v := tw_I 1) hC.1 hC.2.1 dL_law_513 rfl ?_
                              refine tw_iadd hC dL_law_514 ?_
                              refine tw_scld hC hR hX hbb hLg hk dL_law_515 (fun v83 gv83 hk => ?_)
                              refine kX9_append hC hR hL hk gv83 mlL_65 ⟨by decide, by decide⟩ hl.1 (Nat.le_of_ble_eq_true rfl) ⟨by decide, by decide⟩ dL_law_516 (fun v84 h84 H locs hR hL gv84 hk => ?_)
                              refine tw_ceq (tgt := 913) hC hk gv82 gv84 dL_law_519 (by decide) (fun _ hk => ?_) (fun _ hk => ?_)
                              · refine tw_iinc (lv' := [(3, .int (tw_I (tm_wr (x3 + 5)))), (0, .ref b), (1, .ref x1), (2, .ref x2)]) hC dL_law_913 hl (k := 3) rfl (by decide) rfl (fun ls hl => ?_)
                                refine lv_goto (tgt := 18) hC.1 hC.2.1 dL_law_916 (by decide) ?_
                                cases hk
                                exact ih _ out hf hone H locs _ ((tm_wr_rg _)) hR hL (lv_sub hl [1, 2, 3, 0] rfl)
                              · refine lv_iconst (v := tw_I 0) hC.1 hC.2.1 dL_law_522 rfl ?_
                                cases hk
                                cases hf
                                exact absurd hone (by decide)
                            · rw [if_neg q85] at hk
                              by_cases q88 : tm_and v5 31 = 12
                              · rw [if_pos q88] at hk
                                refine tw_tsIn (tgt := 524) hC 12 q88 (tw_rgL rfl) dL_law_32 (by decide) (by decide) rfl (by decide) ?_
                                refine lv_aload_n hC.1 hC.2.1 dL_law_524 rfl (lv_at hl 1 rfl) ?_
                                refine kX8_clearText hC hR hL hk mlL_66 ⟨by decide, by decide⟩ hl.1 (Nat.le_of_ble_eq_true rfl) ⟨by decide, by decide⟩ dL_law_525 (fun v86 h86 H locs hR hL gv86 hk => ?_)
                                refine lv_aload_n hC.1 hC.2.1 dL_law_528 rfl (lv_at hl 2 rfl) ?_
                                refine kX9_clearText hC hR hL hk mlL_69 ⟨by decide, by decide⟩ hl.1 (Nat.le_of_ble_eq_true rfl) ⟨by decide, by decide⟩ dL_law_529 (fun v87 h87 H locs hR hL gv87 hk => ?_)
                                refine tw_ceq (tgt := 913) hC hk gv86 gv87 dL_law_532 (by decide) (fun _ hk => ?_) (fun _ hk => ?_)
                                · refine tw_iinc (lv' := [(3, .int (tw_I (tm_wr (x3 + 5)))), (0, .ref b), (1, .ref x1), (2, .ref x2)]) hC dL_law_913 hl (k := 3) rfl (by decide) rfl (fun ls hl => ?_)
                                  refine lv_goto (tgt := 18) hC.1 hC.2.1 dL_law_916 (by decide) ?_
                                  cases hk
                                  exact ih _ out hf hone H locs _ ((tm_wr_rg _)) hR hL (lv_sub hl [1, 2, 3, 0] rfl)
                                · refine lv_iconst (v := tw_I 0) hC.1 hC.2.1 dL_law_535 rfl ?_
                                  cases hk
                                  cases hf
                                  exact absurd hone (by decide)
                              · rw [if_neg q88] at hk
                                by_cases q91 : tm_and v5 31 = 13
                                · rw [if_pos q91] at hk
                                  refine tw_tsIn (tgt := 537) hC 13 q91 (tw_rgL rfl) dL_law_32 (by decide) (by decide) rfl (by decide) ?_
                                  refine lv_aload_n hC.1 hC.2.1 dL_law_537 rfl (lv_at hl 1 rfl) ?_
                                  refine kX8_load hC hR hL hk mlL_70 ⟨by decide, by decide⟩ hl.1 (Nat.le_of_ble_eq_true rfl) ⟨by decide, by decide⟩ dL_law_538 (fun v89 h89 H locs hR hL gv89 hk => ?_)
                                  refine lv_aload_n hC.1 hC.2.1 dL_law_541 rfl (lv_at hl 2 rfl) ?_
                                  refine kX9_load hC hR hL hk mlL_73 ⟨by decide, by decide⟩ hl.1 (Nat.le_of_ble_eq_true rfl) ⟨by decide, by decide⟩ dL_law_542 (fun v90 h90 H locs hR hL gv90 hk => ?_)
                                  refine tw_ceq (tgt := 913) hC hk gv89 gv90 dL_law_545 (by decide) (fun _ hk => ?_) (fun _ hk => ?_)
                                  · refine tw_iinc (lv' := [(3, .int (tw_I (tm_wr (x3 + 5)))), (0, .ref b), (1, .ref x1), (2, .ref x2)]) hC dL_law_913 hl (k := 3) rfl (by decide) rfl (fun ls hl => ?_)
                                    refine lv_goto (tgt := 18) hC.1 hC.2.1 dL_law_916 (by decide) ?_
                                    cases hk
                                    exact ih _ out hf hone H locs _ ((tm_wr_rg _)) hR hL (lv_sub hl [1, 2, 3, 0] rfl)
                                  · refine lv_iconst (v := tw_I 0) hC.1 hC.2.1 dL_law_548 rfl ?_
                                    cases hk
                                    cases hf
                                    exact absurd hone (by decide)
                                · rw [if_neg q91] at hk
                                  by_cases q96 : tm_and v5 31 = 14
                                  · rw [if_pos q96] at hk
                                    refine tw_tsIn (tgt := 550) hC 14 q96 (tw_rgL rfl) dL_law_32 (by decide) (by decide) rfl (by decide) ?_
                                    refine lv_aload_n hC.1 hC.2.1 dL_law_550 rfl (lv_at hl 1 rfl) ?_
                                    refine lv_aload_n hC.1 hC.2.1 dL_law_551 rfl (lv_at hl 0 rfl) ?_
                                    refine lv_iload_n hC.1 hC.2.1 dL_law_552 rfl (lv_at hl 3 rfl) ?_
                                    refine lv_iconst (v := tw_I 1) hC.1 hC.2.1 dL_law_553 rfl ?_
                                    refine tw_iadd hC dL_law_554 ?_
                                    refine tw_scld hC hR hX hbb hLg hk dL_law_555 (fun v92 gv92 hk => ?_)
                                    refine kX8_count hC hR hL hk gv92 mlL_74 ⟨by decide, by decide⟩ hl.1 (Nat.le_of_ble_eq_true rfl) ⟨by decide, by decide⟩ dL_law_556 (fun v93 h93 H locs hR hL gv93 hk => ?_)
                                    refine lv_aload_n hC.1 hC.2.1 dL_law_559 rfl (lv_at hl 2 rfl) ?_
                                    refine lv_aload_n hC.1 hC.2.1 dL_law_560 rfl (lv_at hl 0 rfl) ?_
                                    refine lv_iload_n hC.1 hC.2.1 dL_law_561 rfl (lv_at hl 3 rfl) ?_
                                    refine lv_iconst (v := tw_I 1) hC.1 hC.2.1 dL_law_562 rfl ?_
                                    refine tw_iadd hC dL_law_563 ?_
                                    refine tw_scld hC hR hX hbb hLg hk dL_law_564 (fun v94 gv94 hk => ?_)
                                    refine kX9_count hC hR hL hk gv94 mlL_77 ⟨by decide, by decide⟩ hl.1 (Nat.le_of_ble_eq_true rfl) ⟨by decide, by decide⟩ dL_law_565 (fun v95 h95 H locs hR hL gv95 hk => ?_)
                                    refine tw_ceq (tgt := 913) hC hk gv93 gv95 dL_law_568 (by decide) (fun _ hk => ?_) (fun _ hk => ?_)
                                    · refine tw_iinc (lv' := [(3, .int (tw_I (tm_wr (x3 + 5)))), (0, .ref b), (1, .ref x1), (2, .ref x2)]) hC dL_law_913 hl (k := 3) rfl (by decide) rfl (fun ls hl => ?_)
                                      refine lv_goto (tgt := 18) hC.1 hC.2.1 dL_law_916 (by decide) ?_
                                      cases hk
                                      exact ih _ out hf hone H locs _ ((tm_wr_rg _)) hR hL (lv_sub hl [1, 2, 3, 0] rfl)
                                    · refine lv_iconst (v := tw_I 0) hC.1 hC.2.1 dL_law_571 rfl ?_
                                      cases hk
                                      cases hf
                                      exact absurd hone (by decide)
                                  · rw [if_neg q96] at hk
                                    by_cases q103 : tm_and v5 31 = 15
                                    · rw [if_pos q103] at hk
                                      refine tw_tsIn (tgt := 573) hC 15 q103 (tw_rgL rfl) dL_law_32 (by decide) (by decide) rfl (by decide) ?_
                                      refine lv_aload_n hC.1 hC.2.1 dL_law_573 rfl (lv_at hl 1 rfl) ?_
                                      refine lv_aload_n hC.1 hC.2.1 dL_law_574 rfl (lv_at hl 0 rfl) ?_
                                      refine lv_iload_n hC.1 hC.2.1 dL_law_575 rfl (lv_at hl 3 rfl) ?_
                                      refine lv_iconst (v := tw_I 1) hC.1 hC.2.1 dL_law_576 rfl ?_
                                      refine tw_iadd hC dL_law_577 ?_
                                      refine tw_scld hC hR hX hbb hLg hk dL_law_578 (fun v97 gv97 hk => ?_)
                                      refine lv_aload_n hC.1 hC.2.1 dL_law_579 rfl (lv_at hl 0 rfl) ?_
                                      refine lv_iload_n hC.1 hC.2.1 dL_law_580 rfl (lv_at hl 3 rfl) ?_
                                      refine lv_iconst (v := tw_I 2) hC.1 hC.2.1 dL_law_581 rfl ?_
                                      refine tw_iadd hC dL_law_582 ?_
                                      refine tw_scld hC hR hX hbb hLg hk dL_law_583 (fun v98 gv98 hk => ?_)
                                      refine kX8_letter hC hR hL hk gv97 gv98 mlL_78 ⟨by decide, by decide⟩ hl.1 (Nat.le_of_ble_eq_true rfl) ⟨by decide, by decide⟩ dL_law_584 (fun v99 H locs hR hL gv99 hk => ?_)
                                      refine lv_aload_n hC.1 hC.2.1 dL_law_587 rfl (lv_at hl 2 rfl) ?_
                                      refine lv_aload_n hC.1 hC.2.1 dL_law_588 rfl (lv_at hl 0 rfl) ?_
                                      refine lv_iload_n hC.1 hC.2.1 dL_law_589 rfl (lv_at hl 3 rfl) ?_
                                      refine lv_iconst (v := tw_I 1) hC.1 hC.2.1 dL_law_590 rfl ?_
                                      refine tw_iadd hC dL_law_591 ?_
                                      refine tw_scld hC hR hX hbb hLg hk dL_law_592 (fun v100 gv100 hk => ?_)
                                      refine lv_aload_n hC.1 hC.2.1 dL_law_593 rfl (lv_at hl 0 rfl) ?_
                                      refine lv_iload_n hC.1 hC.2.1 dL_law_594 rfl (lv_at hl 3 rfl) ?_
                                      refine lv_iconst (v := tw_I 2) hC.1 hC.2.1 dL_law_595 rfl ?_
                                      refine tw_iadd hC dL_law_596 ?_
                                      refine tw_scld hC hR hX hbb hLg hk dL_law_597 (fun v101 gv101 hk => ?_)
                                      refine kX9_letter hC hR hL hk gv100 gv101 mlL_81 ⟨by decide, by decide⟩ hl.1 (Nat.le_of_ble_eq_true rfl) ⟨by decide, by decide⟩ dL_law_598 (fun v102 H locs hR hL gv102 hk => ?_)
                                      refine tw_ceq (tgt := 913) hC hk gv99 gv102 dL_law_601 (by decide) (fun _ hk => ?_) (fun _ hk => ?_)
                                      · refine tw_iinc (lv' := [(3, .int (tw_I (tm_wr (x3 + 5)))), (0, .ref b), (1, .ref x1), (2, .ref x2)]) hC dL_law_913 hl (k := 3) rfl (by decide) rfl (fun ls hl => ?_)
                                        refine lv_goto (tgt := 18) hC.1 hC.2.1 dL_law_916 (by decide) ?_
                                        cases hk
                                        exact ih _ out hf hone H locs _ ((tm_wr_rg _)) hR hL (lv_sub hl [1, 2, 3, 0] rfl)
                                      · refine lv_iconst (v := tw_I 0) hC.1 hC.2.1 dL_law_604 rfl ?_
                                        cases hk
                                        cases hf
                                        exact absurd hone (by decide)
                                    · rw [if_neg q103] at hk
                                      by_cases q108 : tm_and v5 31 = 16
                                      · rw [if_pos q108] at hk
                                        refine tw_tsIn (tgt := 606) hC 16 q108 (tw_rgL rfl) dL_law_32 (by decide) (by decide) rfl (by decide) ?_
                                        refine lv_aload_n hC.1 hC.2.1 dL_law_606 rfl (lv_at hl 1 rfl) ?_
                                        refine lv_aload_n hC.1 hC.2.1 dL_law_607 rfl (lv_at hl 0 rfl) ?_
                                        refine lv_iload_n hC.1 hC.2.1 dL_law_608 rfl (lv_at hl 3 rfl) ?_
                                        refine lv_iconst (v := tw_I 1) hC.1 hC.2.1 dL_law_609 rfl ?_
                                        refine tw_iadd hC dL_law_610 ?_
                                        refine tw_scld hC hR hX hbb hLg hk dL_law_611 (fun v104 gv104 hk => ?_)
                                        refine kX8_base hC hR hL hk gv104 mlL_82 ⟨by decide, by decide⟩ hl.1 (Nat.le_of_ble_eq_true rfl) ⟨by decide, by decide⟩ dL_law_612 (fun v105 H locs hR hL gv105 hk => ?_)
                                        refine lv_aload_n hC.1 hC.2.1 dL_law_615 rfl (lv_at hl 2 rfl) ?_
                                        refine lv_aload_n hC.1 hC.2.1 dL_law_616 rfl (lv_at hl 0 rfl) ?_
                                        refine lv_iload_n hC.1 hC.2.1 dL_law_617 rfl (lv_at hl 3 rfl) ?_
                                        refine lv_iconst (v := tw_I 1) hC.1 hC.2.1 dL_law_618 rfl ?_
                                        refine tw_iadd hC dL_law_619 ?_
                                        refine tw_scld hC hR hX hbb hLg hk dL_law_620 (fun v106 gv106 hk => ?_)
                                        refine kX9_base hC hR hL hk gv106 mlL_85 ⟨by decide, by decide⟩ hl.1 (Nat.le_of_ble_eq_true rfl) ⟨by decide, by decide⟩ dL_law_621 (fun v107 H locs hR hL gv107 hk => ?_)
                                        refine tw_ceq (tgt := 913) hC hk gv105 gv107 dL_law_624 (by decide) (fun _ hk => ?_) (fun _ hk => ?_)
                                        · refine tw_iinc (lv' := [(3, .int (tw_I (tm_wr (x3 + 5)))), (0, .ref b), (1, .ref x1), (2, .ref x2)]) hC dL_law_913 hl (k := 3) rfl (by decide) rfl (fun ls hl => ?_)
                                          refine lv_goto (tgt := 18) hC.1 hC.2.1 dL_law_916 (by decide) ?_
                                          cases hk
                                          exact ih _ out hf hone H locs _ ((tm_wr_rg _)) hR hL (lv_sub hl [1, 2, 3, 0] rfl)
                                        · refine lv_iconst (v := tw_I 0) hC.1 hC.2.1 dL_law_627 rfl ?_
                                          cases hk
                                          cases hf
                                          exact absurd hone (by decide)
                                      · rw [if_neg q108] at hk
                                        by_cases q117 : tm_and v5 31 = 17
                                        · rw [if_pos q117] at hk
                                          refine tw_tsIn (tgt := 629) hC 17 q117 (tw_rgL rfl) dL_law_32 (by decide) (by decide) rfl (by decide) ?_
                                          refine lv_aload_n hC.1 hC.2.1 dL_law_629 rfl (lv_at hl 1 rfl) ?_
                                          refine lv_aload_n hC.1 hC.2.1 dL_law_630 rfl (lv_at hl 0 rfl) ?_
                                          refine lv_iload_n hC.1 hC.2.1 dL_law_631 rfl (lv_at hl 3 rfl) ?_
                                          refine lv_iconst (v := tw_I 1) hC.1 hC.2.1 dL_law_632 rfl ?_
                                          refine tw_iadd hC dL_law_633 ?_
                                          refine tw_scld hC hR hX hbb hLg hk dL_law_634 (fun v109 gv109 hk => ?_)
                                          refine lv_aload_n hC.1 hC.2.1 dL_law_635 rfl (lv_at hl 0 rfl) ?_
                                          refine lv_iload_n hC.1 hC.2.1 dL_law_636 rfl (lv_at hl 3 rfl) ?_
                                          refine lv_iconst (v := tw_I 2) hC.1 hC.2.1 dL_law_637 rfl ?_
                                          refine tw_iadd hC dL_law_638 ?_
                                          refine tw_scld hC hR hX hbb hLg hk dL_law_639 (fun v110 gv110 hk => ?_)
                                          refine lv_aload_n hC.1 hC.2.1 dL_law_640 rfl (lv_at hl 0 rfl) ?_
                                          refine lv_iload_n hC.1 hC.2.1 dL_law_641 rfl (lv_at hl 3 rfl) ?_
                                          refine lv_iconst (v := tw_I 3) hC.1 hC.2.1 dL_law_642 rfl ?_
                                          refine tw_iadd hC dL_law_643 ?_
                                          refine tw_scld hC hR hX hbb hLg hk dL_law_644 (fun v111 gv111 hk => ?_)
                                          refine kX8_place hC hR hL hk gv109 gv110 gv111 mlL_86 ⟨by decide, by decide⟩ hl.1 (Nat.le_of_ble_eq_true rfl) ⟨by decide, by decide⟩ dL_law_645 (fun v112 h112 H locs hR hL gv112 hk => ?_)
                                          refine lv_aload_n hC.1 hC.2.1 dL_law_648 rfl (lv_at hl 2 rfl) ?_
                                          refine lv_aload_n hC.1 hC.2.1 dL_law_649 rfl (lv_at hl 0 rfl) ?_
                                          refine lv_iload_n hC.1 hC.2.1 dL_law_650 rfl (lv_at hl 3 rfl) ?_
                                          refine lv_iconst (v := tw_I 1) hC.1 hC.2.1 dL_law_651 rfl ?_
                                          refine tw_iadd hC dL_law_652 ?_
                                          refine tw_scld hC hR hX hbb hLg hk dL_law_653 (fun v113 gv113 hk => ?_)
                                          refine lv_aload_n hC.1 hC.2.1 dL_law_654 rfl (lv_at hl 0 rfl) ?_
                                          refine lv_iload_n hC.1 hC.2.1 dL_law_655 rfl (lv_at hl 3 rfl) ?_
                                          refine lv_iconst (v := tw_I 2) hC.1 hC.2.1 dL_law_656 rfl ?_
                                          refine tw_iadd hC dL_law_657 ?_
                                          refine tw_scld hC hR hX hbb hLg hk dL_law_658 (fun v114 gv114 hk => ?_)
                                          refine lv_aload_n hC.1 hC.2.1 dL_law_659 rfl (lv_at hl 0 rfl) ?_
                                          refine lv_iload_n hC.1 hC.2.1 dL_law_660 rfl (lv_at hl 3 rfl) ?_
                                          refine lv_iconst (v := tw_I 3) hC.1 hC.2.1 dL_law_661 rfl ?_
                                          refine tw_iadd hC dL_law_662 ?_
                                          refine tw_scld hC hR hX hbb hLg hk dL_law_663 (fun v115 gv115 hk => ?_)
                                          refine kX9_place hC hR hL hk gv113 gv114 gv115 mlL_89 ⟨by decide, by decide⟩ hl.1 (Nat.le_of_ble_eq_true rfl) ⟨by decide, by decide⟩ dL_law_664 (fun v116 h116 H locs hR hL gv116 hk => ?_)
                                          refine tw_ceq (tgt := 913) hC hk gv112 gv116 dL_law_667 (by decide) (fun _ hk => ?_) (fun _ hk => ?_)
                                          · refine tw_iinc (lv' := [(3, .int (tw_I (tm_wr (x3 + 5)))), (0, .ref b), (1, .ref x1), (2, .ref x2)]) hC dL_law_913 hl (k := 3) rfl (by decide) rfl (fun ls hl => ?_)
                                            refine lv_goto (tgt := 18) hC.1 hC.2.1 dL_law_916 (by decide) ?_
                                            cases hk
                                            exact ih _ out hf hone H locs _ ((tm_wr_rg _)) hR hL (lv_sub hl [1, 2, 3, 0] rfl)
                                          · refine lv_iconst (v := tw_I 0) hC.1 hC.2.1 dL_law_670 rfl ?_
                                            cases hk
                                            cases hf
                                            exact absurd hone (by decide)
                                        · rw [if_neg q117] at hk
                                          by_cases q124 : tm_and v5 31 = 18
                                          · rw [if_pos q124] at hk
                                            refine tw_tsIn (tgt := 672) hC 18 q124 (tw_rgL rfl) dL_law_32 (by decide) (by decide) rfl (by decide) ?_
                                            refine lv_aload_n hC.1 hC.2.1 dL_law_672 rfl (lv_at hl 1 rfl) ?_
                                            refine lv_aload_n hC.1 hC.2.1 dL_law_673 rfl (lv_at hl 0 rfl) ?_
                                            refine lv_iload_n hC.1 hC.2.1 dL_law_674 rfl (lv_at hl 3 rfl) ?_
                                            refine lv_iconst (v := tw_I 1) hC.1 hC.2.1 dL_law_675 rfl ?_
                                            refine tw_iadd hC dL_law_676 ?_
                                            refine tw_scld hC hR hX hbb hLg hk dL_law_677 (fun v118 gv118 hk => ?_)
                                            refine lv_aload_n hC.1 hC.2.1 dL_law_678 rfl (lv_at hl 0 rfl) ?_
                                            refine lv_iload_n hC.1 hC.2.1 dL_law_679 rfl (lv_at hl 3 rfl) ?_
                                            refine lv_iconst (v := tw_I 2) hC.1 hC.2.1 dL_law_680 rfl ?_
                                            refine tw_iadd hC dL_law_681 ?_
                                            refine tw_scld hC hR hX hbb hLg hk dL_law_682 (fun v119 gv119 hk => ?_)
                                            refine kX8_term hC hR hL hk gv118 gv119 mlL_90 ⟨by decide, by decide⟩ hl.1 (Nat.le_of_ble_eq_true rfl) ⟨by decide, by decide⟩ dL_law_683 (fun v120 h120 H locs hR hL gv120 hk => ?_)
                                            refine lv_aload_n hC.1 hC.2.1 dL_law_686 rfl (lv_at hl 2 rfl) ?_
                                            refine lv_aload_n hC.1 hC.2.1 dL_law_687 rfl (lv_at hl 0 rfl) ?_
                                            refine lv_iload_n hC.1 hC.2.1 dL_law_688 rfl (lv_at hl 3 rfl) ?_
                                            refine lv_iconst (v := tw_I 1) hC.1 hC.2.1 dL_law_689 rfl ?_
                                            refine tw_iadd hC dL_law_690 ?_
                                            refine tw_scld hC hR hX hbb hLg hk dL_law_691 (fun v121 gv121 hk => ?_)
                                            refine lv_aload_n hC.1 hC.2.1 dL_law_692 rfl (lv_at hl 0 rfl) ?_
                                            refine lv_iload_n hC.1 hC.2.1 dL_law_693 rfl (lv_at hl 3 rfl) ?_
                                            refine lv_iconst (v := tw_I 2) hC.1 hC.2.1 dL_law_694 rfl ?_
                                            refine tw_iadd hC dL_law_695 ?_
                                            refine tw_scld hC hR hX hbb hLg hk dL_law_696 (fun v122 gv122 hk => ?_)
                                            refine kX9_term hC hR hL hk gv121 gv122 mlL_93 ⟨by decide, by decide⟩ hl.1 (Nat.le_of_ble_eq_true rfl) ⟨by decide, by decide⟩ dL_law_697 (fun v123 h123 H locs hR hL gv123 hk => ?_)
                                            refine tw_ceq (tgt := 913) hC hk gv120 gv123 dL_law_700 (by decide) (fun _ hk => ?_) (fun _ hk => ?_)
                                            · refine tw_iinc (lv' := [(3, .int (tw_I (tm_wr (x3 + 5)))), (0, .ref b), (1, .ref x1), (2, .ref x2)]) hC dL_law_913 hl (k := 3) rfl (by decide) rfl (fun ls hl => ?_)
                                              refine lv_goto (tgt := 18) hC.1 hC.2.1 dL_law_916 (by decide) ?_
                                              cases hk
                                              exact ih _ out hf hone H locs _ ((tm_wr_rg _)) hR hL (lv_sub hl [1, 2, 3, 0] rfl)
                                            · refine lv_iconst (v := tw_I 0) hC.1 hC.2.1 dL_law_703 rfl ?_
                                              cases hk
                                              cases hf
                                              exact absurd hone (by decide)
                                          · rw [if_neg q124] at hk
                                            by_cases q131 : tm_and v5 31 = 19
                                            · rw [if_pos q131] at hk
                                              refine tw_tsIn (tgt := 705) hC 19 q131 (tw_rgL rfl) dL_law_32 (by decide) (by decide) rfl (by decide) ?_
                                              refine lv_aload_n hC.1 hC.2.1 dL_law_705 rfl (lv_at hl 1 rfl) ?_
                                              refine lv_aload_n hC.1 hC.2.1 dL_law_706 rfl (lv_at hl 0 rfl) ?_
                                              refine lv_iload_n hC.1 hC.2.1 dL_law_707 rfl (lv_at hl 3 rfl) ?_
                                              refine lv_iconst (v := tw_I 1) hC.1 hC.2.1 dL_law_708 rfl ?_
                                              refine tw_iadd hC dL_law_709 ?_
                                              refine tw_scld hC hR hX hbb hLg hk dL_law_710 (fun v125 gv125 hk => ?_)
                                              refine lv_aload_n hC.1 hC.2.1 dL_law_711 rfl (lv_at hl 0 rfl) ?_
                                              refine lv_iload_n hC.1 hC.2.1 dL_law_712 rfl (lv_at hl 3 rfl) ?_
                                              refine lv_iconst (v := tw_I 2) hC.1 hC.2.1 dL_law_713 rfl ?_
                                              refine tw_iadd hC dL_law_714 ?_
                                              refine tw_scld hC hR hX hbb hLg hk dL_law_715 (fun v126 gv126 hk => ?_)
                                              refine kX8_firstUse hC hR hL hk gv125 gv126 mlL_94 ⟨by decide, by decide⟩ hl.1 (Nat.le_of_ble_eq_true rfl) ⟨by decide, by decide⟩ dL_law_716 (fun v127 h127 H locs hR hL gv127 hk => ?_)
                                              refine lv_aload_n hC.1 hC.2.1 dL_law_719 rfl (lv_at hl 2 rfl) ?_
                                              refine lv_aload_n hC.1 hC.2.1 dL_law_720 rfl (lv_at hl 0 rfl) ?_
                                              refine lv_iload_n hC.1 hC.2.1 dL_law_721 rfl (lv_at hl 3 rfl) ?_
                                              refine lv_iconst (v := tw_I 1) hC.1 hC.2.1 dL_law_722 rfl ?_
                                              refine tw_iadd hC dL_law_723 ?_
                                              refine tw_scld hC hR hX hbb hLg hk dL_law_724 (fun v128 gv128 hk => ?_)
                                              refine lv_aload_n hC.1 hC.2.1 dL_law_725 rfl (lv_at hl 0 rfl) ?_
                                              refine lv_iload_n hC.1 hC.2.1 dL_law_726 rfl (lv_at hl 3 rfl) ?_
                                              refine lv_iconst (v := tw_I 2) hC.1 hC.2.1 dL_law_727 rfl ?_
                                              refine tw_iadd hC dL_law_728 ?_
                                              refine tw_scld hC hR hX hbb hLg hk dL_law_729 (fun v129 gv129 hk => ?_)
                                              refine kX9_firstUse hC hR hL hk gv128 gv129 mlL_97 ⟨by decide, by decide⟩ hl.1 (Nat.le_of_ble_eq_true rfl) ⟨by decide, by decide⟩ dL_law_730 (fun v130 h130 H locs hR hL gv130 hk => ?_)
                                              refine tw_ceq (tgt := 913) hC hk gv127 gv130 dL_law_733 (by decide) (fun _ hk => ?_) (fun _ hk => ?_)
                                              · refine tw_iinc (lv' := [(3, .int (tw_I (tm_wr (x3 + 5)))), (0, .ref b), (1, .ref x1), (2, .ref x2)]) hC dL_law_913 hl (k := 3) rfl (by decide) rfl (fun ls hl => ?_)
                                                refine lv_goto (tgt := 18) hC.1 hC.2.1 dL_law_916 (by decide) ?_
                                                cases hk
                                                exact ih _ out hf hone H locs _ ((tm_wr_rg _)) hR hL (lv_sub hl [1, 2, 3, 0] rfl)
                                              · refine lv_iconst (v := tw_I 0) hC.1 hC.2.1 dL_law_736 rfl ?_
                                                cases hk
                                                cases hf
                                                exact absurd hone (by decide)
                                            · rw [if_neg q131] at hk
                                              by_cases q138 : tm_and v5 31 = 20
                                              · rw [if_pos q138] at hk
                                                refine tw_tsIn (tgt := 738) hC 20 q138 (tw_rgL rfl) dL_law_32 (by decide) (by decide) rfl (by decide) ?_
                                                refine lv_aload_n hC.1 hC.2.1 dL_law_738 rfl (lv_at hl 1 rfl) ?_
                                                refine lv_aload_n hC.1 hC.2.1 dL_law_739 rfl (lv_at hl 0 rfl) ?_
                                                refine lv_iload_n hC.1 hC.2.1 dL_law_740 rfl (lv_at hl 3 rfl) ?_
                                                refine lv_iconst (v := tw_I 1) hC.1 hC.2.1 dL_law_741 rfl ?_
                                                refine tw_iadd hC dL_law_742 ?_
                                                refine tw_scld hC hR hX hbb hLg hk dL_law_743 (fun v132 gv132 hk => ?_)
                                                refine lv_aload_n hC.1 hC.2.1 dL_law_744 rfl (lv_at hl 0 rfl) ?_
                                                refine lv_iload_n hC.1 hC.2.1 dL_law_745 rfl (lv_at hl 3 rfl) ?_
                                                refine lv_iconst (v := tw_I 2) hC.1 hC.2.1 dL_law_746 rfl ?_
                                                refine tw_iadd hC dL_law_747 ?_
                                                refine tw_scld hC hR hX hbb hLg hk dL_law_748 (fun v133 gv133 hk => ?_)
                                                refine kX8_mark hC hR hL hk gv132 gv133 mlL_98 ⟨by decide, by decide⟩ hl.1 (Nat.le_of_ble_eq_true rfl) ⟨by decide, by decide⟩ dL_law_749 (fun v134 h134 H locs hR hL gv134 hk => ?_)
                                                refine lv_aload_n hC.1 hC.2.1 dL_law_752 rfl (lv_at hl 2 rfl) ?_
                                                refine lv_aload_n hC.1 hC.2.1 dL_law_753 rfl (lv_at hl 0 rfl) ?_
                                                refine lv_iload_n hC.1 hC.2.1 dL_law_754 rfl (lv_at hl 3 rfl) ?_
                                                refine lv_iconst (v := tw_I 1) hC.1 hC.2.1 dL_law_755 rfl ?_
                                                refine tw_iadd hC dL_law_756 ?_
                                                refine tw_scld hC hR hX hbb hLg hk dL_law_757 (fun v135 gv135 hk => ?_)
                                                refine lv_aload_n hC.1 hC.2.1 dL_law_758 rfl (lv_at hl 0 rfl) ?_
                                                refine lv_iload_n hC.1 hC.2.1 dL_law_759 rfl (lv_at hl 3 rfl) ?_
                                                refine lv_iconst (v := tw_I 2) hC.1 hC.2.1 dL_law_760 rfl ?_
                                                refine tw_iadd hC dL_law_761 ?_
                                                refine tw_scld hC hR hX hbb hLg hk dL_law_762 (fun v136 gv136 hk => ?_)
                                                refine kX9_mark hC hR hL hk gv135 gv136 mlL_101 ⟨by decide, by decide⟩ hl.1 (Nat.le_of_ble_eq_true rfl) ⟨by decide, by decide⟩ dL_law_763 (fun v137 h137 H locs hR hL gv137 hk => ?_)
                                                refine tw_ceq (tgt := 913) hC hk gv134 gv137 dL_law_766 (by decide) (fun _ hk => ?_) (fun _ hk => ?_)
                                                · refine tw_iinc (lv' := [(3, .int (tw_I (tm_wr (x3 + 5)))), (0, .ref b), (1, .ref x1), (2, .ref x2)]) hC dL_law_913 hl (k := 3) rfl (by decide) rfl (fun ls hl => ?_)
                                                  refine lv_goto (tgt := 18) hC.1 hC.2.1 dL_law_916 (by decide) ?_
                                                  cases hk
                                                  exact ih _ out hf hone H locs _ ((tm_wr_rg _)) hR hL (lv_sub hl [1, 2, 3, 0] rfl)
                                                · refine lv_iconst (v := tw_I 0) hC.1 hC.2.1 dL_law_769 rfl ?_
                                                  cases hk
                                                  cases hf
                                                  exact absurd hone (by decide)
                                              · rw [if_neg q138] at hk
                                                by_cases q147 : tm_and v5 31 = 21
                                                · rw [if_pos q147] at hk
                                                  refine tw_tsIn (tgt := 771) hC 21 q147 (tw_rgL rfl) dL_law_32 (by decide) (by decide) rfl (by decide) ?_
                                                  refine lv_aload_n hC.1 hC.2.1 dL_law_771 rfl (lv_at hl 1 rfl) ?_
                                                  refine lv_aload_n hC.1 hC.2.1 dL_law_772 rfl (lv_at hl 0 rfl) ?_
                                                  refine lv_iload_n hC.1 hC.2.1 dL_law_773 rfl (lv_at hl 3 rfl) ?_
                                                  refine lv_iconst (v := tw_I 1) hC.1 hC.2.1 dL_law_774 rfl ?_
                                                  refine tw_iadd hC dL_law_775 ?_
                                                  refine tw_scld hC hR hX hbb hLg hk dL_law_776 (fun v139 gv139 hk => ?_)
                                                  refine lv_aload_n hC.1 hC.2.1 dL_law_777 rfl (lv_at hl 0 rfl) ?_
                                                  refine lv_iload_n hC.1 hC.2.1 dL_law_778 rfl (lv_at hl 3 rfl) ?_
                                                  refine lv_iconst (v := tw_I 2) hC.1 hC.2.1 dL_law_779 rfl ?_
                                                  refine tw_iadd hC dL_law_780 ?_
                                                  refine tw_scld hC hR hX hbb hLg hk dL_law_781 (fun v140 gv140 hk => ?_)
                                                  refine lv_aload_n hC.1 hC.2.1 dL_law_782 rfl (lv_at hl 0 rfl) ?_
                                                  refine lv_iload_n hC.1 hC.2.1 dL_law_783 rfl (lv_at hl 3 rfl) ?_
                                                  refine lv_iconst (v := tw_I 3) hC.1 hC.2.1 dL_law_784 rfl ?_
                                                  refine tw_iadd hC dL_law_785 ?_
                                                  refine tw_scld hC hR hX hbb hLg hk dL_law_786 (fun v141 gv141 hk => ?_)
                                                  refine kX8_why hC hR hL hk gv139 gv140 gv141 mlL_102 ⟨by decide, by decide⟩ hl.1 (Nat.le_of_ble_eq_true rfl) ⟨by decide, by decide⟩ dL_law_787 (fun v142 h142 H locs hR hL gv142 hk => ?_)
                                                  refine lv_aload_n hC.1 hC.2.1 dL_law_790 rfl (lv_at hl 2 rfl) ?_
                                                  refine lv_aload_n hC.1 hC.2.1 dL_law_791 rfl (lv_at hl 0 rfl) ?_
                                                  refine lv_iload_n hC.1 hC.2.1 dL_law_792 rfl (lv_at hl 3 rfl) ?_
                                                  refine lv_iconst (v := tw_I 1) hC.1 hC.2.1 dL_law_793 rfl ?_
                                                  refine tw_iadd hC dL_law_794 ?_
                                                  refine tw_scld hC hR hX hbb hLg hk dL_law_795 (fun v143 gv143 hk => ?_)
                                                  refine lv_aload_n hC.1 hC.2.1 dL_law_796 rfl (lv_at hl 0 rfl) ?_
                                                  refine lv_iload_n hC.1 hC.2.1 dL_law_797 rfl (lv_at hl 3 rfl) ?_
                                                  refine lv_iconst (v := tw_I 2) hC.1 hC.2.1 dL_law_798 rfl ?_
                                                  refine tw_iadd hC dL_law_799 ?_
                                                  refine tw_scld hC hR hX hbb hLg hk dL_law_800 (fun v144 gv144 hk => ?_)
                                                  refine lv_aload_n hC.1 hC.2.1 dL_law_801 rfl (lv_at hl 0 rfl) ?_
                                                  refine lv_iload_n hC.1 hC.2.1 dL_law_802 rfl (lv_at hl 3 rfl) ?_
                                                  refine lv_iconst (v := tw_I 3) hC.1 hC.2.1 dL_law_803 rfl ?_
                                                  refine tw_iadd hC dL_law_804 ?_
                                                  refine tw_scld hC hR hX hbb hLg hk dL_law_805 (fun v145 gv145 hk => ?_)
                                                  refine kX9_why hC hR hL hk gv143 gv144 gv145 mlL_105 ⟨by decide, by decide⟩ hl.1 (Nat.le_of_ble_eq_true rfl) ⟨by decide, by decide⟩ dL_law_806 (fun v146 h146 H locs hR hL gv146 hk => ?_)
                                                  refine tw_ceq (tgt := 913) hC hk gv142 gv146 dL_law_809 (by decide) (fun _ hk => ?_) (fun _ hk => ?_)
                                                  · refine tw_iinc (lv' := [(3, .int (tw_I (tm_wr (x3 + 5)))), (0, .ref b), (1, .ref x1), (2, .ref x2)]) hC dL_law_913 hl (k := 3) rfl (by decide) rfl (fun ls hl => ?_)
                                                    refine lv_goto (tgt := 18) hC.1 hC.2.1 dL_law_916 (by decide) ?_
                                                    cases hk
                                                    exact ih _ out hf hone H locs _ ((tm_wr_rg _)) hR hL (lv_sub hl [1, 2, 3, 0] rfl)
                                                  · refine lv_iconst (v := tw_I 0) hC.1 hC.2.1 dL_law_812 rfl ?_
                                                    cases hk
                                                    cases hf
                                                    exact absurd hone (by decide)
                                                · rw [if_neg q147] at hk
                                                  by_cases q154 : tm_and v5 31 = 22
                                                  · rw [if_pos q154] at hk
                                                    refine tw_tsIn (tgt := 814) hC 22 q154 (tw_rgL rfl) dL_law_32 (by decide) (by decide) rfl (by decide) ?_
                                                    refine lv_aload_n hC.1 hC.2.1 dL_law_814 rfl (lv_at hl 1 rfl) ?_
                                                    refine lv_aload_n hC.1 hC.2.1 dL_law_815 rfl (lv_at hl 0 rfl) ?_
                                                    refine lv_iload_n hC.1 hC.2.1 dL_law_816 rfl (lv_at hl 3 rfl) ?_
                                                    refine lv_iconst (v := tw_I 1) hC.1 hC.2.1 dL_law_817 rfl ?_
                                                    refine tw_iadd hC dL_law_818 ?_
                                                    refine tw_scld hC hR hX hbb hLg hk dL_law_819 (fun v148 gv148 hk => ?_)
                                                    refine lv_aload_n hC.1 hC.2.1 dL_law_820 rfl (lv_at hl 0 rfl) ?_
                                                    refine lv_iload_n hC.1 hC.2.1 dL_law_821 rfl (lv_at hl 3 rfl) ?_
                                                    refine lv_iconst (v := tw_I 2) hC.1 hC.2.1 dL_law_822 rfl ?_
                                                    refine tw_iadd hC dL_law_823 ?_
                                                    refine tw_scld hC hR hX hbb hLg hk dL_law_824 (fun v149 gv149 hk => ?_)
                                                    refine kX8_nested hC hR hL hk gv148 gv149 mlL_106 ⟨by decide, by decide⟩ hl.1 (Nat.le_of_ble_eq_true rfl) ⟨by decide, by decide⟩ dL_law_825 (fun v150 H locs hR hL gv150 hk => ?_)
                                                    refine lv_aload_n hC.1 hC.2.1 dL_law_828 rfl (lv_at hl 2 rfl) ?_
                                                    refine lv_aload_n hC.1 hC.2.1 dL_law_829 rfl (lv_at hl 0 rfl) ?_
                                                    refine lv_iload_n hC.1 hC.2.1 dL_law_830 rfl (lv_at hl 3 rfl) ?_
                                                    refine lv_iconst (v := tw_I 1) hC.1 hC.2.1 dL_law_831 rfl ?_
                                                    refine tw_iadd hC dL_law_832 ?_
                                                    refine tw_scld hC hR hX hbb hLg hk dL_law_833 (fun v151 gv151 hk => ?_)
                                                    refine lv_aload_n hC.1 hC.2.1 dL_law_834 rfl (lv_at hl 0 rfl) ?_
                                                    refine lv_iload_n hC.1 hC.2.1 dL_law_835 rfl (lv_at hl 3 rfl) ?_
                                                    refine lv_iconst (v := tw_I 2) hC.1 hC.2.1 dL_law_836 rfl ?_
                                                    refine tw_iadd hC dL_law_837 ?_
                                                    refine tw_scld hC hR hX hbb hLg hk dL_law_838 (fun v152 gv152 hk => ?_)
                                                    refine kX9_nested hC hR hL hk gv151 gv152 mlL_109 ⟨by decide, by decide⟩ hl.1 (Nat.le_of_ble_eq_true rfl) ⟨by decide, by decide⟩ dL_law_839 (fun v153 H locs hR hL gv153 hk => ?_)
                                                    refine tw_ceq (tgt := 913) hC hk gv150 gv153 dL_law_842 (by decide) (fun _ hk => ?_) (fun _ hk => ?_)
                                                    · refine tw_iinc (lv' := [(3, .int (tw_I (tm_wr (x3 + 5)))), (0, .ref b), (1, .ref x1), (2, .ref x2)]) hC dL_law_913 hl (k := 3) rfl (by decide) rfl (fun ls hl => ?_)
                                                      refine lv_goto (tgt := 18) hC.1 hC.2.1 dL_law_916 (by decide) ?_
                                                      cases hk
                                                      exact ih _ out hf hone H locs _ ((tm_wr_rg _)) hR hL (lv_sub hl [1, 2, 3, 0] rfl)
                                                    · refine lv_iconst (v := tw_I 0) hC.1 hC.2.1 dL_law_845 rfl ?_
                                                      cases hk
                                                      cases hf
                                                      exact absurd hone (by decide)
                                                  · rw [if_neg q154] at hk
                                                    by_cases q165 : tm_and v5 31 = 23
                                                    · rw [if_pos q165] at hk
                                                      refine tw_tsIn (tgt := 847) hC 23 q165 (tw_rgL rfl) dL_law_32 (by decide) (by decide) rfl (by decide) ?_
                                                      refine lv_aload_n hC.1 hC.2.1 dL_law_847 rfl (lv_at hl 1 rfl) ?_
                                                      refine lv_aload_n hC.1 hC.2.1 dL_law_848 rfl (lv_at hl 0 rfl) ?_
                                                      refine lv_iload_n hC.1 hC.2.1 dL_law_849 rfl (lv_at hl 3 rfl) ?_
                                                      refine lv_iconst (v := tw_I 1) hC.1 hC.2.1 dL_law_850 rfl ?_
                                                      refine tw_iadd hC dL_law_851 ?_
                                                      refine tw_scld hC hR hX hbb hLg hk dL_law_852 (fun v155 gv155 hk => ?_)
                                                      refine lv_aload_n hC.1 hC.2.1 dL_law_853 rfl (lv_at hl 0 rfl) ?_
                                                      refine lv_iload_n hC.1 hC.2.1 dL_law_854 rfl (lv_at hl 3 rfl) ?_
                                                      refine lv_iconst (v := tw_I 2) hC.1 hC.2.1 dL_law_855 rfl ?_
                                                      refine tw_iadd hC dL_law_856 ?_
                                                      refine tw_scld hC hR hX hbb hLg hk dL_law_857 (fun v156 gv156 hk => ?_)
                                                      refine lv_aload_n hC.1 hC.2.1 dL_law_858 rfl (lv_at hl 0 rfl) ?_
                                                      refine lv_iload_n hC.1 hC.2.1 dL_law_859 rfl (lv_at hl 3 rfl) ?_
                                                      refine lv_iconst (v := tw_I 3) hC.1 hC.2.1 dL_law_860 rfl ?_
                                                      refine tw_iadd hC dL_law_861 ?_
                                                      refine tw_scld hC hR hX hbb hLg hk dL_law_862 (fun v157 gv157 hk => ?_)
                                                      refine lv_aload_n hC.1 hC.2.1 dL_law_863 rfl (lv_at hl 0 rfl) ?_
                                                      refine lv_iload_n hC.1 hC.2.1 dL_law_864 rfl (lv_at hl 3 rfl) ?_
                                                      refine lv_iconst (v := tw_I 4) hC.1 hC.2.1 dL_law_865 rfl ?_
                                                      refine tw_iadd hC dL_law_866 ?_
                                                      refine tw_scld hC hR hX hbb hLg hk dL_law_867 (fun v158 gv158 hk => ?_)
                                                      refine kX8_gain hC hR hL hk gv155 gv156 gv157 gv158 mlL_110 ⟨by decide, by decide⟩ hl.1 (Nat.le_of_ble_eq_true rfl) ⟨by decide, by decide⟩ dL_law_868 (fun v159 h159 H locs hR hL gv159 hk => ?_)
                                                      refine lv_aload_n hC.1 hC.2.1 dL_law_871 rfl (lv_at hl 2 rfl) ?_
                                                      refine lv_aload_n hC.1 hC.2.1 dL_law_872 rfl (lv_at hl 0 rfl) ?_
                                                      refine lv_iload_n hC.1 hC.2.1 dL_law_873 rfl (lv_at hl 3 rfl) ?_
                                                      refine lv_iconst (v := tw_I 1) hC.1 hC.2.1 dL_law_874 rfl ?_
                                                      refine tw_iadd hC dL_law_875 ?_
                                                      refine tw_scld hC hR hX hbb hLg hk dL_law_876 (fun v160 gv160 hk => ?_)
                                                      refine lv_aload_n hC.1 hC.2.1 dL_law_877 rfl (lv_at hl 0 rfl) ?_
                                                      refine lv_iload_n hC.1 hC.2.1 dL_law_878 rfl (lv_at hl 3 rfl) ?_
                                                      refine lv_iconst (v := tw_I 2) hC.1 hC.2.1 dL_law_879 rfl ?_
                                                      refine tw_iadd hC dL_law_880 ?_
                                                      refine tw_scld hC hR hX hbb hLg hk dL_law_881 (fun v161 gv161 hk => ?_)
                                                      refine lv_aload_n hC.1 hC.2.1 dL_law_882 rfl (lv_at hl 0 rfl) ?_
                                                      refine lv_iload_n hC.1 hC.2.1 dL_law_883 rfl (lv_at hl 3 rfl) ?_
                                                      refine lv_iconst (v := tw_I 3) hC.1 hC.2.1 dL_law_884 rfl ?_
                                                      refine tw_iadd hC dL_law_885 ?_
                                                      refine tw_scld hC hR hX hbb hLg hk dL_law_886 (fun v162 gv162 hk => ?_)
                                                      refine lv_aload_n hC.1 hC.2.1 dL_law_887 rfl (lv_at hl 0 rfl) ?_
                                                      refine lv_iload_n hC.1 hC.2.1 dL_law_888 rfl (lv_at hl 3 rfl) ?_
                                                      refine lv_iconst (v := tw_I 4) hC.1 hC.2.1 dL_law_889 rfl ?_
                                                      refine tw_iadd hC dL_law_890 ?_
                                                      refine tw_scld hC hR hX hbb hLg hk dL_law_891 (fun v163 gv163 hk => ?_)
                                                      refine kX9_gain hC hR hL hk gv160 gv161 gv162 gv163 mlL_113 ⟨by decide, by decide⟩ hl.1 (Nat.le_of_ble_eq_true rfl) ⟨by decide, by decide⟩ dL_law_892 (fun v164 h164 H locs hR hL gv164 hk => ?_)
                                                      refine tw_ceq (tgt := 913) hC hk gv159 gv164 dL_law_895 (by decide) (fun _ hk => ?_) (fun _ hk => ?_)
                                                      · refine tw_iinc (lv' := [(3, .int (tw_I (tm_wr (x3 + 5)))), (0, .ref b), (1, .ref x1), (2, .ref x2)]) hC dL_law_913 hl (k := 3) rfl (by decide) rfl (fun ls hl => ?_)
                                                        refine lv_goto (tgt := 18) hC.1 hC.2.1 dL_law_916 (by decide) ?_
                                                        cases hk
                                                        exact ih _ out hf hone H locs _ ((tm_wr_rg _)) hR hL (lv_sub hl [1, 2, 3, 0] rfl)
                                                      · refine lv_iconst (v := tw_I 0) hC.1 hC.2.1 dL_law_898 rfl ?_
                                                        cases hk
                                                        cases hf
                                                        exact absurd hone (by decide)
                                                    · rw [if_neg q165] at hk
                                                      by_cases q168 : tm_and v5 31 = 24
                                                      · rw [if_pos q168] at hk
                                                        refine tw_tsIn (tgt := 900) hC 24 q168 (tw_rgL rfl) dL_law_32 (by decide) (by decide) rfl (by decide) ?_
                                                        refine lv_aload_n hC.1 hC.2.1 dL_law_900 rfl (lv_at hl 1 rfl) ?_
                                                        refine kX8_greediest hC hR hL hk mlL_114 ⟨by decide, by decide⟩ hl.1 (Nat.le_of_ble_eq_true rfl) ⟨by decide, by decide⟩ dL_law_901 (fun v166 h166 H locs hR hL gv166 hk => ?_)
                                                        refine lv_aload_n hC.1 hC.2.1 dL_law_904 rfl (lv_at hl 2 rfl) ?_
                                                        refine kX9_greediest hC hR hL hk mlL_117 ⟨by decide, by decide⟩ hl.1 (Nat.le_of_ble_eq_true rfl) ⟨by decide, by decide⟩ dL_law_905 (fun v167 h167 H locs hR hL gv167 hk => ?_)
                                                        refine tw_ceq (tgt := 913) hC hk gv166 gv167 dL_law_908 (by decide) (fun _ hk => ?_) (fun _ hk => ?_)
                                                        · refine tw_iinc (lv' := [(3, .int (tw_I (tm_wr (x3 + 5)))), (0, .ref b), (1, .ref x1), (2, .ref x2)]) hC dL_law_913 hl (k := 3) rfl (by decide) rfl (fun ls hl => ?_)
                                                          refine lv_goto (tgt := 18) hC.1 hC.2.1 dL_law_916 (by decide) ?_
                                                          cases hk
                                                          exact ih _ out hf hone H locs _ ((tm_wr_rg _)) hR hL (lv_sub hl [1, 2, 3, 0] rfl)
                                                        · refine lv_iconst (v := tw_I 0) hC.1 hC.2.1 dL_law_911 rfl ?_
                                                          cases hk
                                                          cases hf
                                                          exact absurd hone (by decide)
                                                      · rw [if_neg q168] at hk
                                                        refine tw_tsOut (tgt := 913) hC ((tm_and_rg _ _)) dL_law_32 (by omega) (by decide) ?_
                                                        refine tw_iinc (lv' := [(3, .int (tw_I (tm_wr (x3 + 5)))), (0, .ref b), (1, .ref x1), (2, .ref x2)]) hC dL_law_913 hl (k := 3) rfl (by decide) rfl (fun ls hl => ?_)
                                                        refine lv_goto (tgt := 18) hC.1 hC.2.1 dL_law_916 (by decide) ?_
                                                        cases hk
                                                        exact ih _ out hf hone H locs _ ((tm_wr_rg _)) hR hL (lv_sub hl [1, 2, 3, 0] rfl)
theorem sL_law_L18 {l : Launch} {p : Program} {e : Env} {s : State} {m : MethodId} {b L : Nat} {xs32 : Nat → Int32} {below : List Frame} {meth : Method} {c : Code} {G : tw_G} (hC : tw_C G p s m #[Value.ref b] meth c R_law code 4 (some .boolean)) (hX : va_X b L xs32 s G.2.2.2.1) (hbb : b < G.2.2.1) (hLg : tm_rg (L : Int)) (hbase : G.2.2.1 = s.heap.size) {sz : Nat} (x1 : Nat) (x2 : Nat) (x3 : Int) (h : tm_H) (gx3 : tm_rg x3) (out : Int) (hk : fL_law_L18 (fun j => (xs32 j).toInt) L x1 x2 x3 h = some out) (hone : out = 1) (H : Heap) (locs : List Loc) (ls : Array Slot) (hR : tw_Rel G sz h H) (hL : tw_L G locs) (hl : lv_has ls 4 [(0, .ref b), (1, .ref x1), (2, .ref x2), (3, .int (tw_I x3))]) : W p l e room_1 s m #[Value.ref b] below meth c H locs 452 15837 (lw_Z below #[Value.ref b] s) (F0 m 18 ls []) := by
  obtain ⟨k, hk⟩ := tm_wl_iff.mp hk
  exact sL_law_S hC hX hbb hLg hbase sz k (x1, x2, x3, h) out hk hone H locs ls gx3 hR hL hl
set_option maxRecDepth 100000 in
set_option maxHeartbeats 8000000 in
theorem sL_law {l : Launch} {p : Program} {e : Env} {s : State} {m : MethodId} {b L : Nat} {xs32 : Nat → Int32} {below : List Frame} {meth : Method} {c : Code} {G : tw_G} (hC : tw_C G p s m #[Value.ref b] meth c R_law code 4 (some .boolean)) (hX : va_X b L xs32 s G.2.2.2.1) (hbb : b < G.2.2.1) (hLg : tm_rg (L : Int)) (hbase : G.2.2.1 = s.heap.size) (n : Nat) (h : tm_H) (out : Int) (hk : fL_law (fun j => (xs32 j).toInt) L h n = some out) (hone : out = 1) (H : Heap) (ls : Array Slot) (hR : tw_Rel G n h H) (hl : lv_has ls 4 [(0, .ref b)]) : W p l e room_1 s m #[Value.ref b] below meth c H [] 0 0 (lw_Z below #[Value.ref b] s) (F0 m 0 ls []) := by
  have hL : tw_L G [] := fun q z => by cases z
  unfold fL_law at hk
  generalize hlc : ([] : List Loc) = locs at hL ⊢
  refine tw_new hC hR nwL_7 hk ⟨by decide, by decide⟩ dL_law_0 (fun h1 H hR hk => ?_)
  refine lv_dup hC.1 hC.2.1 dL_law_3 rfl ?_
  refine kX8_init hC hR hL hk mlL_9 ⟨by decide, by decide⟩ hl.1 (Nat.le_of_ble_eq_true rfl) ⟨by decide, by decide⟩ dL_law_4 (fun h2 n2 H locs hR hL hk => ?_)
  refine lv_astore_n (lv' := [(1, .ref n), (0, .ref b)]) hC.1 hC.2.1 dL_law_7 rfl hl (by decide) rfl (fun ls hl => ?_)
  refine tw_new hC hR nwL_10 hk ⟨by decide, by decide⟩ dL_law_8 (fun h3 H hR hk => ?_)
  refine lv_dup hC.1 hC.2.1 dL_law_11 rfl ?_
  refine kX9_init hC hR hL hk mlL_12 ⟨by decide, by decide⟩ hl.1 (Nat.le_of_ble_eq_true rfl) ⟨by decide, by decide⟩ dL_law_12 (fun h4 n4 H locs hR hL hk => ?_)
  refine lv_astore_n (lv' := [(2, .ref n2), (1, .ref n), (0, .ref b)]) hC.1 hC.2.1 dL_law_15 rfl hl (by decide) rfl (fun ls hl => ?_)
  refine lv_iconst (v := tw_I 0) hC.1 hC.2.1 dL_law_16 rfl ?_
  refine lv_istore_n (lv' := [(3, .int (tw_I 0)), (2, .ref n2), (1, .ref n), (0, .ref b)]) hC.1 hC.2.1 dL_law_17 rfl hl (by decide) rfl (fun ls hl => ?_)
  exact sL_law_L18 hC hX hbb hLg hbase (sz := n4) n n2 0 h4 ((tw_rgL rfl)) out hk hone H locs _ hR hL (lv_sub hl [3, 2, 1, 0] rfl)
