theorem tw_rgL {z : Int} (h : (decide (-2147483648 ≤ z) && decide (z < 2147483648)) = true) : tm_rg z := by
  rw [Bool.and_eq_true, decide_eq_true_eq, decide_eq_true_eq] at h
  exact h
theorem tw_ks3 : tw_ks 3 0 := Or.inl ⟨rfl, rfl⟩
theorem tw_ks4 : tw_ks 4 4 := Or.inr (Or.inl ⟨rfl, rfl⟩)
theorem tw_ks5 : tw_ks 5 100 := Or.inr (Or.inr ⟨rfl, rfl⟩)
theorem tw_ari : Cond.arrayClass .int ∈ tw_TB := tw_in_TB 103 (by decide +kernel) rfl
theorem tw_arl : Cond.arrayClass .long ∈ tw_TB := tw_in_TB 102 (by decide +kernel) rfl
theorem tw_arb : Cond.arrayClass .boolean ∈ tw_TB := tw_in_TB 139 (by decide +kernel) rfl
theorem tw_oiI : Cond.instanceMethod objectInit ∈ tw_TB := tw_in_TB 74 (by decide +kernel) rfl
theorem tw_oiC : Cond.code objectInit ⟨#[0xb1]⟩ 1 none ∈ tw_TB := tw_in_TB 75 (by decide +kernel) rfl
theorem tw_acN : Cond.native arraycopyName ∈ tw_TB ∧ Cond.static arraycopyName ∈ tw_TB ∧ Cond.initialized "java/lang/System" ∈ tw_TB := ⟨tw_in_TB 308 (by decide +kernel) rfl, tw_in_TB 307 (by decide +kernel) rfl, tw_in_TB 63 (by decide +kernel) rfl⟩
theorem cinX0 : ∀ w ∈ u_ws RX0 TX0 2, w ∈ tw_TB := List.forall_mem_cons.mpr ⟨tw_in_TB 114 (by decide +kernel) rfl, List.forall_mem_cons.mpr ⟨tw_in_TB 116 (by decide +kernel) rfl, fun _ h => absurd h List.not_mem_nil⟩⟩
theorem cinX1 : ∀ w ∈ u_ws RX1 TX1 2, w ∈ tw_TB := List.forall_mem_cons.mpr ⟨tw_in_TB 176 (by decide +kernel) rfl, List.forall_mem_cons.mpr ⟨tw_in_TB 178 (by decide +kernel) rfl, fun _ h => absurd h List.not_mem_nil⟩⟩
theorem cinX2 : ∀ w ∈ u_ws RX2 TX2 5, w ∈ tw_TB := List.forall_mem_cons.mpr ⟨tw_in_TB 209 (by decide +kernel) rfl, List.forall_mem_cons.mpr ⟨tw_in_TB 211 (by decide +kernel) rfl, List.forall_mem_cons.mpr ⟨tw_in_TB 213 (by decide +kernel) rfl, List.forall_mem_cons.mpr ⟨tw_in_TB 215 (by decide +kernel) rfl, List.forall_mem_cons.mpr ⟨tw_in_TB 217 (by decide +kernel) rfl, fun _ h => absurd h List.not_mem_nil⟩⟩⟩⟩⟩
theorem cinX3 : ∀ w ∈ u_ws RX3 TX3 9, w ∈ tw_TB := List.forall_mem_cons.mpr ⟨tw_in_TB 236 (by decide +kernel) rfl, List.forall_mem_cons.mpr ⟨tw_in_TB 238 (by decide +kernel) rfl, List.forall_mem_cons.mpr ⟨tw_in_TB 240 (by decide +kernel) rfl, List.forall_mem_cons.mpr ⟨tw_in_TB 242 (by decide +kernel) rfl, List.forall_mem_cons.mpr ⟨tw_in_TB 244 (by decide +kernel) rfl, List.forall_mem_cons.mpr ⟨tw_in_TB 246 (by decide +kernel) rfl, List.forall_mem_cons.mpr ⟨tw_in_TB 248 (by decide +kernel) rfl, List.forall_mem_cons.mpr ⟨tw_in_TB 250 (by decide +kernel) rfl, List.forall_mem_cons.mpr ⟨tw_in_TB 252 (by decide +kernel) rfl, fun _ h => absurd h List.not_mem_nil⟩⟩⟩⟩⟩⟩⟩⟩⟩
theorem cinX4 : ∀ w ∈ u_ws RX4 TX4 5, w ∈ tw_TB := List.forall_mem_cons.mpr ⟨tw_in_TB 154 (by decide +kernel) rfl, List.forall_mem_cons.mpr ⟨tw_in_TB 156 (by decide +kernel) rfl, List.forall_mem_cons.mpr ⟨tw_in_TB 158 (by decide +kernel) rfl, List.forall_mem_cons.mpr ⟨tw_in_TB 160 (by decide +kernel) rfl, List.forall_mem_cons.mpr ⟨tw_in_TB 162 (by decide +kernel) rfl, fun _ h => absurd h List.not_mem_nil⟩⟩⟩⟩⟩
theorem cinX5 : ∀ w ∈ u_ws RX5 TX5 4, w ∈ tw_TB := List.forall_mem_cons.mpr ⟨tw_in_TB 130 (by decide +kernel) rfl, List.forall_mem_cons.mpr ⟨tw_in_TB 132 (by decide +kernel) rfl, List.forall_mem_cons.mpr ⟨tw_in_TB 134 (by decide +kernel) rfl, List.forall_mem_cons.mpr ⟨tw_in_TB 136 (by decide +kernel) rfl, fun _ h => absurd h List.not_mem_nil⟩⟩⟩⟩
theorem cinX6 : ∀ w ∈ u_ws RX6 TX6 2, w ∈ tw_TB := List.forall_mem_cons.mpr ⟨tw_in_TB 195 (by decide +kernel) rfl, List.forall_mem_cons.mpr ⟨tw_in_TB 197 (by decide +kernel) rfl, fun _ h => absurd h List.not_mem_nil⟩⟩
theorem cinX7 : ∀ w ∈ u_ws RX7 TX7 3, w ∈ tw_TB := List.forall_mem_cons.mpr ⟨tw_in_TB 95 (by decide +kernel) rfl, List.forall_mem_cons.mpr ⟨tw_in_TB 97 (by decide +kernel) rfl, List.forall_mem_cons.mpr ⟨tw_in_TB 99 (by decide +kernel) rfl, fun _ h => absurd h List.not_mem_nil⟩⟩⟩
theorem cinX8 : ∀ w ∈ u_ws RX8 TX8 6, w ∈ tw_TB := List.forall_mem_cons.mpr ⟨tw_in_TB 261 (by decide +kernel) rfl, List.forall_mem_cons.mpr ⟨tw_in_TB 263 (by decide +kernel) rfl, List.forall_mem_cons.mpr ⟨tw_in_TB 265 (by decide +kernel) rfl, List.forall_mem_cons.mpr ⟨tw_in_TB 267 (by decide +kernel) rfl, List.forall_mem_cons.mpr ⟨tw_in_TB 269 (by decide +kernel) rfl, List.forall_mem_cons.mpr ⟨tw_in_TB 271 (by decide +kernel) rfl, fun _ h => absurd h List.not_mem_nil⟩⟩⟩⟩⟩⟩
theorem cinX9 : ∀ w ∈ u_ws RX9 TX9 15, w ∈ tw_TB := List.forall_mem_cons.mpr ⟨tw_in_TB 808 (by decide +kernel) rfl, List.forall_mem_cons.mpr ⟨tw_in_TB 810 (by decide +kernel) rfl, List.forall_mem_cons.mpr ⟨tw_in_TB 812 (by decide +kernel) rfl, List.forall_mem_cons.mpr ⟨tw_in_TB 814 (by decide +kernel) rfl, List.forall_mem_cons.mpr ⟨tw_in_TB 816 (by decide +kernel) rfl, List.forall_mem_cons.mpr ⟨tw_in_TB 818 (by decide +kernel) rfl, List.forall_mem_cons.mpr ⟨tw_in_TB 820 (by decide +kernel) rfl, List.forall_mem_cons.mpr ⟨tw_in_TB 822 (by decide +kernel) rfl, List.forall_mem_cons.mpr ⟨tw_in_TB 824 (by decide +kernel) rfl, List.forall_mem_cons.mpr ⟨tw_in_TB 826 (by decide +kernel) rfl, List.forall_mem_cons.mpr ⟨tw_in_TB 828 (by decide +kernel) rfl, List.forall_mem_cons.mpr ⟨tw_in_TB 830 (by decide +kernel) rfl, List.forall_mem_cons.mpr ⟨tw_in_TB 832 (by decide +kernel) rfl, List.forall_mem_cons.mpr ⟨tw_in_TB 834 (by decide +kernel) rfl, List.forall_mem_cons.mpr ⟨tw_in_TB 836 (by decide +kernel) rfl, fun _ h => absurd h List.not_mem_nil⟩⟩⟩⟩⟩⟩⟩⟩⟩⟩⟩⟩⟩⟩⟩
theorem flX8_10 : tw_fl RX8 10 8 0 := ⟨RX8, TX8, 6, rfl, by decide, cinX8, Or.inl (tw_in_TB 255 (by decide +kernel) rfl)⟩
theorem fpX8_10 : tw_fp RX8 10 8 0 true (tyX8 0) := ⟨RX8, TX8, 6, tyX8, rfl, by decide, cinX8, tyX8_ok, nmX8, tw_in_TB 255 (by decide +kernel) rfl, rfl, by decide +kernel, fun _ => rfl⟩
theorem flX8_16 : tw_fl RX8 16 8 1 := ⟨RX8, TX8, 6, rfl, by decide, cinX8, Or.inl (tw_in_TB 256 (by decide +kernel) rfl)⟩
theorem fpX8_16 : tw_fp RX8 16 8 1 true (tyX8 1) := ⟨RX8, TX8, 6, tyX8, rfl, by decide, cinX8, tyX8_ok, nmX8, tw_in_TB 256 (by decide +kernel) rfl, rfl, by decide +kernel, fun _ => rfl⟩
theorem flX8_22 : tw_fl RX8 22 8 2 := ⟨RX8, TX8, 6, rfl, by decide, cinX8, Or.inl (tw_in_TB 257 (by decide +kernel) rfl)⟩
theorem fpX8_22 : tw_fp RX8 22 8 2 true (tyX8 2) := ⟨RX8, TX8, 6, tyX8, rfl, by decide, cinX8, tyX8_ok, nmX8, tw_in_TB 257 (by decide +kernel) rfl, rfl, by decide +kernel, fun _ => rfl⟩
theorem flX8_29 : tw_fl RX8 29 8 3 := ⟨RX8, TX8, 6, rfl, by decide, cinX8, Or.inl (tw_in_TB 258 (by decide +kernel) rfl)⟩
theorem fpX8_29 : tw_fp RX8 29 8 3 true (tyX8 3) := ⟨RX8, TX8, 6, tyX8, rfl, by decide, cinX8, tyX8_ok, nmX8, tw_in_TB 258 (by decide +kernel) rfl, rfl, by decide +kernel, fun _ => rfl⟩
theorem flX8_36 : tw_fl RX8 36 8 4 := ⟨RX8, TX8, 6, rfl, by decide, cinX8, Or.inl (tw_in_TB 259 (by decide +kernel) rfl)⟩
theorem fpX8_36 : tw_fp RX8 36 8 4 true (tyX8 4) := ⟨RX8, TX8, 6, tyX8, rfl, by decide, cinX8, tyX8_ok, nmX8, tw_in_TB 259 (by decide +kernel) rfl, rfl, by decide +kernel, fun _ => rfl⟩
theorem flX8_42 : tw_fl RX8 42 8 5 := ⟨RX8, TX8, 6, rfl, by decide, cinX8, Or.inl (tw_in_TB 260 (by decide +kernel) rfl)⟩
theorem fpX8_42 : tw_fp RX8 42 8 5 true (tyX8 5) := ⟨RX8, TX8, 6, tyX8, rfl, by decide, cinX8, tyX8_ok, nmX8, tw_in_TB 260 (by decide +kernel) rfl, rfl, by decide +kernel, fun _ => rfl⟩
theorem flX8_46 : tw_fl RX8 46 4 1 := ⟨RX4, TX4, 5, rfl, by decide, cinX4, Or.inr ⟨"TermMarks", tw_in_NB 145 (by decide +kernel) rfl⟩⟩
theorem flX8_60 : tw_fl RX8 60 4 0 := ⟨RX4, TX4, 5, rfl, by decide, cinX4, Or.inr ⟨"TermMarks", tw_in_NB 142 (by decide +kernel) rfl⟩⟩
theorem flX8_102 : tw_fl RX8 102 4 2 := ⟨RX4, TX4, 5, rfl, by decide, cinX4, Or.inr ⟨"TermMarks", tw_in_NB 151 (by decide +kernel) rfl⟩⟩
theorem flX8_150 : tw_fl RX8 150 2 0 := ⟨RX2, TX2, 5, rfl, by decide, cinX2, Or.inr ⟨"TermMarks", tw_in_NB 203 (by decide +kernel) rfl⟩⟩
theorem flX8_168 : tw_fl RX8 168 2 1 := ⟨RX2, TX2, 5, rfl, by decide, cinX2, Or.inr ⟨"TermMarks", tw_in_NB 205 (by decide +kernel) rfl⟩⟩
theorem flX0_13 : tw_fl RX0 13 0 0 := ⟨RX0, TX0, 2, rfl, by decide, cinX0, Or.inl (tw_in_TB 112 (by decide +kernel) rfl)⟩
theorem fpX0_13 : tw_fp RX0 13 0 0 true (tyX0 0) := ⟨RX0, TX0, 2, tyX0, rfl, by decide, cinX0, tyX0_ok, nmX0, tw_in_TB 112 (by decide +kernel) rfl, rfl, by decide +kernel, fun _ => rfl⟩
theorem flX0_16 : tw_fl RX0 16 0 1 := ⟨RX0, TX0, 2, rfl, by decide, cinX0, Or.inl (tw_in_TB 113 (by decide +kernel) rfl)⟩
theorem fpX0_16 : tw_fp RX0 16 0 1 true (tyX0 1) := ⟨RX0, TX0, 2, tyX0, rfl, by decide, cinX0, tyX0_ok, nmX0, tw_in_TB 113 (by decide +kernel) rfl, rfl, by decide +kernel, fun _ => rfl⟩
theorem flX1_11 : tw_fl RX1 11 1 0 := ⟨RX1, TX1, 2, rfl, by decide, cinX1, Or.inl (tw_in_TB 174 (by decide +kernel) rfl)⟩
theorem fpX1_11 : tw_fp RX1 11 1 0 true (tyX1 0) := ⟨RX1, TX1, 2, tyX1, rfl, by decide, cinX1, tyX1_ok, nmX1, tw_in_TB 174 (by decide +kernel) rfl, rfl, by decide +kernel, fun _ => rfl⟩
theorem flX1_15 : tw_fl RX1 15 1 1 := ⟨RX1, TX1, 2, rfl, by decide, cinX1, Or.inl (tw_in_TB 175 (by decide +kernel) rfl)⟩
theorem fpX1_15 : tw_fp RX1 15 1 1 false .int := ⟨RX1, TX1, 2, tyX1, rfl, by decide, cinX1, tyX1_ok, nmX1, tw_in_TB 175 (by decide +kernel) rfl, rfl, by decide +kernel, fun _ => rfl⟩
theorem flX2_12 : tw_fl RX2 12 2 0 := ⟨RX2, TX2, 5, rfl, by decide, cinX2, Or.inl (tw_in_TB 202 (by decide +kernel) rfl)⟩
theorem fpX2_12 : tw_fp RX2 12 2 0 true (tyX2 0) := ⟨RX2, TX2, 5, tyX2, rfl, by decide, cinX2, tyX2_ok, nmX2, tw_in_TB 202 (by decide +kernel) rfl, rfl, by decide +kernel, fun _ => rfl⟩
theorem flX2_21 : tw_fl RX2 21 2 1 := ⟨RX2, TX2, 5, rfl, by decide, cinX2, Or.inl (tw_in_TB 204 (by decide +kernel) rfl)⟩
theorem fpX2_21 : tw_fp RX2 21 2 1 true (tyX2 1) := ⟨RX2, TX2, 5, tyX2, rfl, by decide, cinX2, tyX2_ok, nmX2, tw_in_TB 204 (by decide +kernel) rfl, rfl, by decide +kernel, fun _ => rfl⟩
theorem flX2_27 : tw_fl RX2 27 2 2 := ⟨RX2, TX2, 5, rfl, by decide, cinX2, Or.inl (tw_in_TB 206 (by decide +kernel) rfl)⟩
theorem fpX2_27 : tw_fp RX2 27 2 2 true (tyX2 2) := ⟨RX2, TX2, 5, tyX2, rfl, by decide, cinX2, tyX2_ok, nmX2, tw_in_TB 206 (by decide +kernel) rfl, rfl, by decide +kernel, fun _ => rfl⟩
theorem flX2_31 : tw_fl RX2 31 2 3 := ⟨RX2, TX2, 5, rfl, by decide, cinX2, Or.inl (tw_in_TB 207 (by decide +kernel) rfl)⟩
theorem fpX2_31 : tw_fp RX2 31 2 3 false .int := ⟨RX2, TX2, 5, tyX2, rfl, by decide, cinX2, tyX2_ok, nmX2, tw_in_TB 207 (by decide +kernel) rfl, rfl, by decide +kernel, fun _ => rfl⟩
theorem flX2_35 : tw_fl RX2 35 2 4 := ⟨RX2, TX2, 5, rfl, by decide, cinX2, Or.inl (tw_in_TB 208 (by decide +kernel) rfl)⟩
theorem fpX2_35 : tw_fp RX2 35 2 4 false .int := ⟨RX2, TX2, 5, tyX2, rfl, by decide, cinX2, tyX2_ok, nmX2, tw_in_TB 208 (by decide +kernel) rfl, rfl, by decide +kernel, fun _ => rfl⟩
theorem flX2_73 : tw_fl RX2 73 4 1 := ⟨RX4, TX4, 5, rfl, by decide, cinX4, Or.inr ⟨"TermMarks", tw_in_NB 146 (by decide +kernel) rfl⟩⟩
theorem flX2_100 : tw_fl RX2 100 4 2 := ⟨RX4, TX4, 5, rfl, by decide, cinX4, Or.inr ⟨"TermMarks", tw_in_NB 150 (by decide +kernel) rfl⟩⟩
theorem flX2_107 : tw_fl RX2 107 4 0 := ⟨RX4, TX4, 5, rfl, by decide, cinX4, Or.inr ⟨"TermMarks", tw_in_NB 143 (by decide +kernel) rfl⟩⟩
theorem flX3_15 : tw_fl RX3 15 3 0 := ⟨RX3, TX3, 9, rfl, by decide, cinX3, Or.inl (tw_in_TB 227 (by decide +kernel) rfl)⟩
theorem fpX3_15 : tw_fp RX3 15 3 0 true (tyX3 0) := ⟨RX3, TX3, 9, tyX3, rfl, by decide, cinX3, tyX3_ok, nmX3, tw_in_TB 227 (by decide +kernel) rfl, rfl, by decide +kernel, fun _ => rfl⟩
theorem flX3_20 : tw_fl RX3 20 3 1 := ⟨RX3, TX3, 9, rfl, by decide, cinX3, Or.inl (tw_in_TB 228 (by decide +kernel) rfl)⟩
theorem fpX3_20 : tw_fp RX3 20 3 1 true (tyX3 1) := ⟨RX3, TX3, 9, tyX3, rfl, by decide, cinX3, tyX3_ok, nmX3, tw_in_TB 228 (by decide +kernel) rfl, rfl, by decide +kernel, fun _ => rfl⟩
theorem flX3_23 : tw_fl RX3 23 3 2 := ⟨RX3, TX3, 9, rfl, by decide, cinX3, Or.inl (tw_in_TB 229 (by decide +kernel) rfl)⟩
theorem fpX3_23 : tw_fp RX3 23 3 2 true (tyX3 2) := ⟨RX3, TX3, 9, tyX3, rfl, by decide, cinX3, tyX3_ok, nmX3, tw_in_TB 229 (by decide +kernel) rfl, rfl, by decide +kernel, fun _ => rfl⟩
theorem flX3_26 : tw_fl RX3 26 3 3 := ⟨RX3, TX3, 9, rfl, by decide, cinX3, Or.inl (tw_in_TB 230 (by decide +kernel) rfl)⟩
theorem fpX3_26 : tw_fp RX3 26 3 3 true (tyX3 3) := ⟨RX3, TX3, 9, tyX3, rfl, by decide, cinX3, tyX3_ok, nmX3, tw_in_TB 230 (by decide +kernel) rfl, rfl, by decide +kernel, fun _ => rfl⟩
theorem flX3_30 : tw_fl RX3 30 3 4 := ⟨RX3, TX3, 9, rfl, by decide, cinX3, Or.inl (tw_in_TB 231 (by decide +kernel) rfl)⟩
theorem fpX3_30 : tw_fp RX3 30 3 4 true (tyX3 4) := ⟨RX3, TX3, 9, tyX3, rfl, by decide, cinX3, tyX3_ok, nmX3, tw_in_TB 231 (by decide +kernel) rfl, rfl, by decide +kernel, fun _ => rfl⟩
theorem flX3_33 : tw_fl RX3 33 3 5 := ⟨RX3, TX3, 9, rfl, by decide, cinX3, Or.inl (tw_in_TB 232 (by decide +kernel) rfl)⟩
theorem fpX3_33 : tw_fp RX3 33 3 5 true (tyX3 5) := ⟨RX3, TX3, 9, tyX3, rfl, by decide, cinX3, tyX3_ok, nmX3, tw_in_TB 232 (by decide +kernel) rfl, rfl, by decide +kernel, fun _ => rfl⟩
theorem flX3_36 : tw_fl RX3 36 3 6 := ⟨RX3, TX3, 9, rfl, by decide, cinX3, Or.inl (tw_in_TB 233 (by decide +kernel) rfl)⟩
theorem fpX3_36 : tw_fp RX3 36 3 6 true (tyX3 6) := ⟨RX3, TX3, 9, tyX3, rfl, by decide, cinX3, tyX3_ok, nmX3, tw_in_TB 233 (by decide +kernel) rfl, rfl, by decide +kernel, fun _ => rfl⟩
theorem flX3_39 : tw_fl RX3 39 3 7 := ⟨RX3, TX3, 9, rfl, by decide, cinX3, Or.inl (tw_in_TB 234 (by decide +kernel) rfl)⟩
theorem fpX3_39 : tw_fp RX3 39 3 7 false .int := ⟨RX3, TX3, 9, tyX3, rfl, by decide, cinX3, tyX3_ok, nmX3, tw_in_TB 234 (by decide +kernel) rfl, rfl, by decide +kernel, fun _ => rfl⟩
theorem flX3_43 : tw_fl RX3 43 3 8 := ⟨RX3, TX3, 9, rfl, by decide, cinX3, Or.inl (tw_in_TB 235 (by decide +kernel) rfl)⟩
theorem fpX3_43 : tw_fp RX3 43 3 8 false .int := ⟨RX3, TX3, 9, tyX3, rfl, by decide, cinX3, tyX3_ok, nmX3, tw_in_TB 235 (by decide +kernel) rfl, rfl, by decide +kernel, fun _ => rfl⟩
theorem flX3_53 : tw_fl RX3 53 4 1 := ⟨RX4, TX4, 5, rfl, by decide, cinX4, Or.inr ⟨"TermMarks", tw_in_NB 147 (by decide +kernel) rfl⟩⟩
theorem flX3_67 : tw_fl RX3 67 4 2 := ⟨RX4, TX4, 5, rfl, by decide, cinX4, Or.inr ⟨"TermMarks", tw_in_NB 149 (by decide +kernel) rfl⟩⟩
theorem flX4_12 : tw_fl RX4 12 4 0 := ⟨RX4, TX4, 5, rfl, by decide, cinX4, Or.inl (tw_in_TB 141 (by decide +kernel) rfl)⟩
theorem fpX4_12 : tw_fp RX4 12 4 0 true (tyX4 0) := ⟨RX4, TX4, 5, tyX4, rfl, by decide, cinX4, tyX4_ok, nmX4, tw_in_TB 141 (by decide +kernel) rfl, rfl, by decide +kernel, fun _ => rfl⟩
theorem flX4_21 : tw_fl RX4 21 4 1 := ⟨RX4, TX4, 5, rfl, by decide, cinX4, Or.inl (tw_in_TB 144 (by decide +kernel) rfl)⟩
theorem fpX4_21 : tw_fp RX4 21 4 1 true (tyX4 1) := ⟨RX4, TX4, 5, tyX4, rfl, by decide, cinX4, tyX4_ok, nmX4, tw_in_TB 144 (by decide +kernel) rfl, rfl, by decide +kernel, fun _ => rfl⟩
theorem flX4_28 : tw_fl RX4 28 4 2 := ⟨RX4, TX4, 5, rfl, by decide, cinX4, Or.inl (tw_in_TB 148 (by decide +kernel) rfl)⟩
theorem fpX4_28 : tw_fp RX4 28 4 2 true (tyX4 2) := ⟨RX4, TX4, 5, tyX4, rfl, by decide, cinX4, tyX4_ok, nmX4, tw_in_TB 148 (by decide +kernel) rfl, rfl, by decide +kernel, fun _ => rfl⟩
theorem flX4_32 : tw_fl RX4 32 4 3 := ⟨RX4, TX4, 5, rfl, by decide, cinX4, Or.inl (tw_in_TB 152 (by decide +kernel) rfl)⟩
theorem fpX4_32 : tw_fp RX4 32 4 3 true (tyX4 3) := ⟨RX4, TX4, 5, tyX4, rfl, by decide, cinX4, tyX4_ok, nmX4, tw_in_TB 152 (by decide +kernel) rfl, rfl, by decide +kernel, fun _ => rfl⟩
theorem flX4_36 : tw_fl RX4 36 4 4 := ⟨RX4, TX4, 5, rfl, by decide, cinX4, Or.inl (tw_in_TB 153 (by decide +kernel) rfl)⟩
theorem fpX4_36 : tw_fp RX4 36 4 4 true (tyX4 4) := ⟨RX4, TX4, 5, tyX4, rfl, by decide, cinX4, tyX4_ok, nmX4, tw_in_TB 153 (by decide +kernel) rfl, rfl, by decide +kernel, fun _ => rfl⟩
theorem flX5_13 : tw_fl RX5 13 5 0 := ⟨RX5, TX5, 4, rfl, by decide, cinX5, Or.inl (tw_in_TB 126 (by decide +kernel) rfl)⟩
theorem fpX5_13 : tw_fp RX5 13 5 0 true (tyX5 0) := ⟨RX5, TX5, 4, tyX5, rfl, by decide, cinX5, tyX5_ok, nmX5, tw_in_TB 126 (by decide +kernel) rfl, rfl, by decide +kernel, fun _ => rfl⟩
theorem flX5_16 : tw_fl RX5 16 5 1 := ⟨RX5, TX5, 4, rfl, by decide, cinX5, Or.inl (tw_in_TB 127 (by decide +kernel) rfl)⟩
theorem fpX5_16 : tw_fp RX5 16 5 1 true (tyX5 1) := ⟨RX5, TX5, 4, tyX5, rfl, by decide, cinX5, tyX5_ok, nmX5, tw_in_TB 127 (by decide +kernel) rfl, rfl, by decide +kernel, fun _ => rfl⟩
theorem flX5_20 : tw_fl RX5 20 5 2 := ⟨RX5, TX5, 4, rfl, by decide, cinX5, Or.inl (tw_in_TB 128 (by decide +kernel) rfl)⟩
theorem fpX5_20 : tw_fp RX5 20 5 2 true (tyX5 2) := ⟨RX5, TX5, 4, tyX5, rfl, by decide, cinX5, tyX5_ok, nmX5, tw_in_TB 128 (by decide +kernel) rfl, rfl, by decide +kernel, fun _ => rfl⟩
theorem flX5_24 : tw_fl RX5 24 5 3 := ⟨RX5, TX5, 4, rfl, by decide, cinX5, Or.inl (tw_in_TB 129 (by decide +kernel) rfl)⟩
theorem fpX5_24 : tw_fp RX5 24 5 3 false .int := ⟨RX5, TX5, 4, tyX5, rfl, by decide, cinX5, tyX5_ok, nmX5, tw_in_TB 129 (by decide +kernel) rfl, rfl, by decide +kernel, fun _ => rfl⟩
theorem flX6_9 : tw_fl RX6 9 6 0 := ⟨RX6, TX6, 2, rfl, by decide, cinX6, Or.inl (tw_in_TB 193 (by decide +kernel) rfl)⟩
theorem fpX6_9 : tw_fp RX6 9 6 0 true (tyX6 0) := ⟨RX6, TX6, 2, tyX6, rfl, by decide, cinX6, tyX6_ok, nmX6, tw_in_TB 193 (by decide +kernel) rfl, rfl, by decide +kernel, fun _ => rfl⟩
theorem flX6_13 : tw_fl RX6 13 6 1 := ⟨RX6, TX6, 2, rfl, by decide, cinX6, Or.inl (tw_in_TB 194 (by decide +kernel) rfl)⟩
theorem fpX6_13 : tw_fp RX6 13 6 1 false .int := ⟨RX6, TX6, 2, tyX6, rfl, by decide, cinX6, tyX6_ok, nmX6, tw_in_TB 194 (by decide +kernel) rfl, rfl, by decide +kernel, fun _ => rfl⟩
theorem flX7_11 : tw_fl RX7 11 7 0 := ⟨RX7, TX7, 3, rfl, by decide, cinX7, Or.inl (tw_in_TB 92 (by decide +kernel) rfl)⟩
theorem fpX7_11 : tw_fp RX7 11 7 0 true (tyX7 0) := ⟨RX7, TX7, 3, tyX7, rfl, by decide, cinX7, tyX7_ok, nmX7, tw_in_TB 92 (by decide +kernel) rfl, rfl, by decide +kernel, fun _ => rfl⟩
theorem flX7_15 : tw_fl RX7 15 7 1 := ⟨RX7, TX7, 3, rfl, by decide, cinX7, Or.inl (tw_in_TB 93 (by decide +kernel) rfl)⟩
theorem fpX7_15 : tw_fp RX7 15 7 1 true (tyX7 1) := ⟨RX7, TX7, 3, tyX7, rfl, by decide, cinX7, tyX7_ok, nmX7, tw_in_TB 93 (by decide +kernel) rfl, rfl, by decide +kernel, fun _ => rfl⟩
theorem flX7_19 : tw_fl RX7 19 7 2 := ⟨RX7, TX7, 3, rfl, by decide, cinX7, Or.inl (tw_in_TB 94 (by decide +kernel) rfl)⟩
theorem fpX7_19 : tw_fp RX7 19 7 2 false .int := ⟨RX7, TX7, 3, tyX7, rfl, by decide, cinX7, tyX7_ok, nmX7, tw_in_TB 94 (by decide +kernel) rfl, rfl, by decide +kernel, fun _ => rfl⟩
theorem flX9_7 : tw_fl RX9 7 9 0 := ⟨RX9, TX9, 15, rfl, by decide, cinX9, Or.inl (tw_in_TB 793 (by decide +kernel) rfl)⟩
theorem fpX9_7 : tw_fp RX9 7 9 0 true (tyX9 0) := ⟨RX9, TX9, 15, tyX9, rfl, by decide, cinX9, tyX9_ok, nmX9, tw_in_TB 793 (by decide +kernel) rfl, rfl, by decide +kernel, fun _ => rfl⟩
theorem flX9_13 : tw_fl RX9 13 9 1 := ⟨RX9, TX9, 15, rfl, by decide, cinX9, Or.inl (tw_in_TB 794 (by decide +kernel) rfl)⟩
theorem fpX9_13 : tw_fp RX9 13 9 1 true (tyX9 1) := ⟨RX9, TX9, 15, tyX9, rfl, by decide, cinX9, tyX9_ok, nmX9, tw_in_TB 794 (by decide +kernel) rfl, rfl, by decide +kernel, fun _ => rfl⟩
theorem flX9_16 : tw_fl RX9 16 9 2 := ⟨RX9, TX9, 15, rfl, by decide, cinX9, Or.inl (tw_in_TB 795 (by decide +kernel) rfl)⟩
theorem fpX9_16 : tw_fp RX9 16 9 2 true (tyX9 2) := ⟨RX9, TX9, 15, tyX9, rfl, by decide, cinX9, tyX9_ok, nmX9, tw_in_TB 795 (by decide +kernel) rfl, rfl, by decide +kernel, fun _ => rfl⟩
theorem flX9_19 : tw_fl RX9 19 9 4 := ⟨RX9, TX9, 15, rfl, by decide, cinX9, Or.inl (tw_in_TB 797 (by decide +kernel) rfl)⟩
theorem fpX9_19 : tw_fp RX9 19 9 4 true (tyX9 4) := ⟨RX9, TX9, 15, tyX9, rfl, by decide, cinX9, tyX9_ok, nmX9, tw_in_TB 797 (by decide +kernel) rfl, rfl, by decide +kernel, fun _ => rfl⟩
theorem flX9_22 : tw_fl RX9 22 9 6 := ⟨RX9, TX9, 15, rfl, by decide, cinX9, Or.inl (tw_in_TB 799 (by decide +kernel) rfl)⟩
theorem fpX9_22 : tw_fp RX9 22 9 6 true (tyX9 6) := ⟨RX9, TX9, 15, tyX9, rfl, by decide, cinX9, tyX9_ok, nmX9, tw_in_TB 799 (by decide +kernel) rfl, rfl, by decide +kernel, fun _ => rfl⟩
theorem flX9_25 : tw_fl RX9 25 9 7 := ⟨RX9, TX9, 15, rfl, by decide, cinX9, Or.inl (tw_in_TB 800 (by decide +kernel) rfl)⟩
theorem fpX9_25 : tw_fp RX9 25 9 7 true (tyX9 7) := ⟨RX9, TX9, 15, tyX9, rfl, by decide, cinX9, tyX9_ok, nmX9, tw_in_TB 800 (by decide +kernel) rfl, rfl, by decide +kernel, fun _ => rfl⟩
theorem flX9_28 : tw_fl RX9 28 9 8 := ⟨RX9, TX9, 15, rfl, by decide, cinX9, Or.inl (tw_in_TB 801 (by decide +kernel) rfl)⟩
theorem fpX9_28 : tw_fp RX9 28 9 8 true (tyX9 8) := ⟨RX9, TX9, 15, tyX9, rfl, by decide, cinX9, tyX9_ok, nmX9, tw_in_TB 801 (by decide +kernel) rfl, rfl, by decide +kernel, fun _ => rfl⟩
theorem flX9_31 : tw_fl RX9 31 9 9 := ⟨RX9, TX9, 15, rfl, by decide, cinX9, Or.inl (tw_in_TB 802 (by decide +kernel) rfl)⟩
theorem fpX9_31 : tw_fp RX9 31 9 9 true (tyX9 9) := ⟨RX9, TX9, 15, tyX9, rfl, by decide, cinX9, tyX9_ok, nmX9, tw_in_TB 802 (by decide +kernel) rfl, rfl, by decide +kernel, fun _ => rfl⟩
theorem flX9_34 : tw_fl RX9 34 9 10 := ⟨RX9, TX9, 15, rfl, by decide, cinX9, Or.inl (tw_in_TB 803 (by decide +kernel) rfl)⟩
theorem fpX9_34 : tw_fp RX9 34 9 10 true (tyX9 10) := ⟨RX9, TX9, 15, tyX9, rfl, by decide, cinX9, tyX9_ok, nmX9, tw_in_TB 803 (by decide +kernel) rfl, rfl, by decide +kernel, fun _ => rfl⟩
theorem flX9_38 : tw_fl RX9 38 9 13 := ⟨RX9, TX9, 15, rfl, by decide, cinX9, Or.inl (tw_in_TB 806 (by decide +kernel) rfl)⟩
theorem fpX9_38 : tw_fp RX9 38 9 13 true (tyX9 13) := ⟨RX9, TX9, 15, tyX9, rfl, by decide, cinX9, tyX9_ok, nmX9, tw_in_TB 806 (by decide +kernel) rfl, rfl, by decide +kernel, fun _ => rfl⟩
theorem flX9_41 : tw_fl RX9 41 9 3 := ⟨RX9, TX9, 15, rfl, by decide, cinX9, Or.inl (tw_in_TB 796 (by decide +kernel) rfl)⟩
theorem fpX9_41 : tw_fp RX9 41 9 3 false .int := ⟨RX9, TX9, 15, tyX9, rfl, by decide, cinX9, tyX9_ok, nmX9, tw_in_TB 796 (by decide +kernel) rfl, rfl, by decide +kernel, fun _ => rfl⟩
theorem flX9_125 : tw_fl RX9 125 9 5 := ⟨RX9, TX9, 15, rfl, by decide, cinX9, Or.inl (tw_in_TB 798 (by decide +kernel) rfl)⟩
theorem fpX9_125 : tw_fp RX9 125 9 5 false .int := ⟨RX9, TX9, 15, tyX9, rfl, by decide, cinX9, tyX9_ok, nmX9, tw_in_TB 798 (by decide +kernel) rfl, rfl, by decide +kernel, fun _ => rfl⟩
theorem flX9_128 : tw_fl RX9 128 9 12 := ⟨RX9, TX9, 15, rfl, by decide, cinX9, Or.inl (tw_in_TB 805 (by decide +kernel) rfl)⟩
theorem fpX9_128 : tw_fp RX9 128 9 12 false .int := ⟨RX9, TX9, 15, tyX9, rfl, by decide, cinX9, tyX9_ok, nmX9, tw_in_TB 805 (by decide +kernel) rfl, rfl, by decide +kernel, fun _ => rfl⟩
theorem flX9_131 : tw_fl RX9 131 9 11 := ⟨RX9, TX9, 15, rfl, by decide, cinX9, Or.inl (tw_in_TB 804 (by decide +kernel) rfl)⟩
theorem fpX9_131 : tw_fp RX9 131 9 11 false .int := ⟨RX9, TX9, 15, tyX9, rfl, by decide, cinX9, tyX9_ok, nmX9, tw_in_TB 804 (by decide +kernel) rfl, rfl, by decide +kernel, fun _ => rfl⟩
theorem flX9_143 : tw_fl RX9 143 9 14 := ⟨RX9, TX9, 15, rfl, by decide, cinX9, Or.inl (tw_in_TB 807 (by decide +kernel) rfl)⟩
theorem fpX9_143 : tw_fp RX9 143 9 14 false .int := ⟨RX9, TX9, 15, tyX9, rfl, by decide, cinX9, tyX9_ok, nmX9, tw_in_TB 807 (by decide +kernel) rfl, rfl, by decide +kernel, fun _ => rfl⟩
theorem nwX8_7 : tw_nwS RX8 7 4 5 [.inr none, .inr none, .inr none, .inr none, .inr none] := ⟨RX4, TX4, tyX4, rfl, cinX4, tyX4_ok, tw_in_TB 76 (by decide +kernel) rfl, tw_in_TB 77 (by decide +kernel) rfl, tw_in_TB 54 (by decide +kernel) rfl, by decide +kernel, (List.forall_mem_cons.mpr ⟨trivial, (List.forall_mem_cons.mpr ⟨trivial, (List.forall_mem_cons.mpr ⟨trivial, (List.forall_mem_cons.mpr ⟨trivial, (List.forall_mem_cons.mpr ⟨trivial, (fun _ h => absurd h List.not_mem_nil)⟩)⟩)⟩)⟩)⟩)⟩
theorem nwX8_19 : tw_nwS RX8 19 1 2 [.inr none, .inl 0] := ⟨RX1, TX1, tyX1, rfl, cinX1, tyX1_ok, tw_in_TB 165 (by decide +kernel) rfl, tw_in_TB 166 (by decide +kernel) rfl, tw_in_TB 58 (by decide +kernel) rfl, by decide +kernel, (List.forall_mem_cons.mpr ⟨trivial, (List.forall_mem_cons.mpr ⟨tw_rg0, (fun _ h => absurd h List.not_mem_nil)⟩)⟩)⟩
theorem nwX8_26 : tw_nwS RX8 26 2 5 [.inr none, .inr none, .inr none, .inl 0, .inl 0] := ⟨RX2, TX2, tyX2, rfl, cinX2, tyX2_ok, tw_in_TB 181 (by decide +kernel) rfl, tw_in_TB 182 (by decide +kernel) rfl, tw_in_TB 59 (by decide +kernel) rfl, by decide +kernel, (List.forall_mem_cons.mpr ⟨trivial, (List.forall_mem_cons.mpr ⟨trivial, (List.forall_mem_cons.mpr ⟨trivial, (List.forall_mem_cons.mpr ⟨tw_rg0, (List.forall_mem_cons.mpr ⟨tw_rg0, (fun _ h => absurd h List.not_mem_nil)⟩)⟩)⟩)⟩)⟩)⟩
theorem nwX8_33 : tw_nwS RX8 33 3 9 [.inr none, .inr none, .inr none, .inr none, .inr none, .inr none, .inr none, .inl 0, .inl 0] := ⟨RX3, TX3, tyX3, rfl, cinX3, tyX3_ok, tw_in_TB 220 (by decide +kernel) rfl, tw_in_TB 221 (by decide +kernel) rfl, tw_in_TB 61 (by decide +kernel) rfl, by decide +kernel, (List.forall_mem_cons.mpr ⟨trivial, (List.forall_mem_cons.mpr ⟨trivial, (List.forall_mem_cons.mpr ⟨trivial, (List.forall_mem_cons.mpr ⟨trivial, (List.forall_mem_cons.mpr ⟨trivial, (List.forall_mem_cons.mpr ⟨trivial, (List.forall_mem_cons.mpr ⟨trivial, (List.forall_mem_cons.mpr ⟨tw_rg0, (List.forall_mem_cons.mpr ⟨tw_rg0, (fun _ h => absurd h List.not_mem_nil)⟩)⟩)⟩)⟩)⟩)⟩)⟩)⟩)⟩)⟩
theorem nwX1_9 : tw_nwS RX1 9 4 5 [.inr none, .inr none, .inr none, .inr none, .inr none] := ⟨RX4, TX4, tyX4, rfl, cinX4, tyX4_ok, tw_in_TB 171 (by decide +kernel) rfl, tw_in_TB 77 (by decide +kernel) rfl, tw_in_TB 54 (by decide +kernel) rfl, by decide +kernel, (List.forall_mem_cons.mpr ⟨trivial, (List.forall_mem_cons.mpr ⟨trivial, (List.forall_mem_cons.mpr ⟨trivial, (List.forall_mem_cons.mpr ⟨trivial, (List.forall_mem_cons.mpr ⟨trivial, (fun _ h => absurd h List.not_mem_nil)⟩)⟩)⟩)⟩)⟩)⟩
theorem nwX2_9 : tw_nwS RX2 9 6 2 [.inr none, .inl 0] := ⟨RX6, TX6, tyX6, rfl, cinX6, tyX6_ok, tw_in_TB 187 (by decide +kernel) rfl, tw_in_TB 188 (by decide +kernel) rfl, tw_in_TB 60 (by decide +kernel) rfl, by decide +kernel, (List.forall_mem_cons.mpr ⟨trivial, (List.forall_mem_cons.mpr ⟨tw_rg0, (fun _ h => absurd h List.not_mem_nil)⟩)⟩)⟩
theorem nwX2_18 : tw_nwS RX2 18 4 5 [.inr none, .inr none, .inr none, .inr none, .inr none] := ⟨RX4, TX4, tyX4, rfl, cinX4, tyX4_ok, tw_in_TB 200 (by decide +kernel) rfl, tw_in_TB 77 (by decide +kernel) rfl, tw_in_TB 54 (by decide +kernel) rfl, by decide +kernel, (List.forall_mem_cons.mpr ⟨trivial, (List.forall_mem_cons.mpr ⟨trivial, (List.forall_mem_cons.mpr ⟨trivial, (List.forall_mem_cons.mpr ⟨trivial, (List.forall_mem_cons.mpr ⟨trivial, (fun _ h => absurd h List.not_mem_nil)⟩)⟩)⟩)⟩)⟩)⟩
theorem nwX4_9 : tw_nwS RX4 9 7 3 [.inr none, .inr none, .inl 0] := ⟨RX7, TX7, tyX7, rfl, cinX7, tyX7_ok, tw_in_TB 82 (by decide +kernel) rfl, tw_in_TB 83 (by decide +kernel) rfl, tw_in_TB 55 (by decide +kernel) rfl, by decide +kernel, (List.forall_mem_cons.mpr ⟨trivial, (List.forall_mem_cons.mpr ⟨trivial, (List.forall_mem_cons.mpr ⟨tw_rg0, (fun _ h => absurd h List.not_mem_nil)⟩)⟩)⟩)⟩
theorem nwX4_18 : tw_nwS RX4 18 0 2 [.inr none, .inr none] := ⟨RX0, TX0, tyX0, rfl, cinX0, tyX0_ok, tw_in_TB 104 (by decide +kernel) rfl, tw_in_TB 105 (by decide +kernel) rfl, tw_in_TB 56 (by decide +kernel) rfl, by decide +kernel, (List.forall_mem_cons.mpr ⟨trivial, (List.forall_mem_cons.mpr ⟨trivial, (fun _ h => absurd h List.not_mem_nil)⟩)⟩)⟩
theorem nwX4_25 : tw_nwS RX4 25 5 4 [.inr none, .inr none, .inr none, .inl 0] := ⟨RX5, TX5, tyX5, rfl, cinX5, tyX5_ok, tw_in_TB 119 (by decide +kernel) rfl, tw_in_TB 120 (by decide +kernel) rfl, tw_in_TB 57 (by decide +kernel) rfl, by decide +kernel, (List.forall_mem_cons.mpr ⟨trivial, (List.forall_mem_cons.mpr ⟨trivial, (List.forall_mem_cons.mpr ⟨trivial, (List.forall_mem_cons.mpr ⟨tw_rg0, (fun _ h => absurd h List.not_mem_nil)⟩)⟩)⟩)⟩)⟩
theorem anX1_9 : tw_anS RX1 9 4 "TermMarks$State" := ⟨tw_in_TB 171 (by decide +kernel) rfl, Or.inr ⟨rfl, rfl⟩⟩
theorem anX4_18 : tw_anS RX4 18 3 "TermMarks$Chapters" := ⟨tw_in_TB 104 (by decide +kernel) rfl, Or.inl ⟨rfl, rfl⟩⟩
theorem mnX0_11 : Cond.classLink RX0 11 "[[I" ∈ tw_TB := tw_in_TB 110 (by decide +kernel) rfl
theorem mnX3_13 : Cond.classLink RX3 13 "[[I" ∈ tw_TB := tw_in_TB 226 (by decide +kernel) rfl
theorem mnX5_11 : Cond.classLink RX5 11 "[[I" ∈ tw_TB := tw_in_TB 125 (by decide +kernel) rfl
theorem mlX8_9 : tw_mL RX8 9 yX4_init := Or.inl (tw_in_TB 78 (by decide +kernel) rfl)
theorem mlX8_21 : tw_mL RX8 21 yX1_init := Or.inl (tw_in_TB 167 (by decide +kernel) rfl)
theorem mlX8_28 : tw_mL RX8 28 yX2_init := Or.inr ⟨"TermMarks", tw_in_NB 183 (by decide +kernel) rfl⟩
theorem mlX8_35 : tw_mL RX8 35 yX3_init := Or.inr ⟨"TermMarks", tw_in_NB 222 (by decide +kernel) rfl⟩
theorem mlX8_50 : tw_mL RX8 50 yX0_has := Or.inl (tw_in_TB 278 (by decide +kernel) rfl)
theorem mlX8_56 : tw_mL RX8 56 yX0_lengthOf := Or.inl (tw_in_TB 282 (by decide +kernel) rfl)
theorem mlX8_64 : tw_mL RX8 64 yX7_has := Or.inl (tw_in_TB 286 (by decide +kernel) rfl)
theorem mlX8_67 : tw_mL RX8 67 yX1_keep := Or.inl (tw_in_TB 290 (by decide +kernel) rfl)
theorem mlX8_71 : tw_mL RX8 71 yX0_put := Or.inl (tw_in_TB 319 (by decide +kernel) rfl)
theorem mlX8_75 : tw_mL RX8 75 yX0_hasPlace := Or.inl (tw_in_TB 328 (by decide +kernel) rfl)
theorem mlX8_79 : tw_mL RX8 79 yX0_cut := Or.inl (tw_in_TB 332 (by decide +kernel) rfl)
theorem mlX8_82 : tw_mL RX8 82 yX0_exchange := Or.inl (tw_in_TB 341 (by decide +kernel) rfl)
theorem mlX8_86 : tw_mL RX8 86 yX0_trade := Or.inl (tw_in_TB 349 (by decide +kernel) rfl)
theorem mlX8_90 : tw_mL RX8 90 yX8_readNow := Or.inl (tw_in_TB 353 (by decide +kernel) rfl)
theorem mlX8_94 : tw_mL RX8 94 yX3_markCount := Or.inl (tw_in_TB 413 (by decide +kernel) rfl)
theorem mlX8_98 : tw_mL RX8 98 yX8_ask := Or.inl (tw_in_TB 421 (by decide +kernel) rfl)
theorem mlX8_106 : tw_mL RX8 106 yX5_size := Or.inl (tw_in_TB 437 (by decide +kernel) rfl)
theorem mlX8_109 : tw_mL RX8 109 yX5_add := Or.inl (tw_in_TB 438 (by decide +kernel) rfl)
theorem mlX8_113 : tw_mL RX8 113 yX5_has := Or.inl (tw_in_TB 446 (by decide +kernel) rfl)
theorem mlX8_114 : tw_mL RX8 114 yX5_drop := Or.inl (tw_in_TB 447 (by decide +kernel) rfl)
theorem mlX8_118 : tw_mL RX8 118 yX5_hush := Or.inl (tw_in_TB 455 (by decide +kernel) rfl)
theorem mlX8_122 : tw_mL RX8 122 yX4_mayHaveBase := Or.inl (tw_in_TB 463 (by decide +kernel) rfl)
theorem mlX8_125 : tw_mL RX8 125 yX7_baseOf := Or.inl (tw_in_TB 485 (by decide +kernel) rfl)
theorem mlX8_128 : tw_mL RX8 128 yX7_putBase := Or.inl (tw_in_TB 486 (by decide +kernel) rfl)
theorem mlX8_131 : tw_mL RX8 131 yX4_hasSlot := Or.inl (tw_in_TB 491 (by decide +kernel) rfl)
theorem mlX8_134 : tw_mL RX8 134 yX4_keepChapters := Or.inl (tw_in_TB 495 (by decide +kernel) rfl)
theorem mlX8_137 : tw_mL RX8 137 yX0_total := Or.inl (tw_in_TB 500 (by decide +kernel) rfl)
theorem mlX8_140 : tw_mL RX8 140 yX4_isTaken := Or.inl (tw_in_TB 508 (by decide +kernel) rfl)
theorem mlX8_143 : tw_mL RX8 143 yX4_bringChapters := Or.inl (tw_in_TB 512 (by decide +kernel) rfl)
theorem mlX8_146 : tw_mL RX8 146 yX1_size := Or.inl (tw_in_TB 521 (by decide +kernel) rfl)
theorem mlX8_147 : tw_mL RX8 147 yX1_giveBack := Or.inl (tw_in_TB 525 (by decide +kernel) rfl)
theorem mlX8_154 : tw_mL RX8 154 yX6_length := Or.inl (tw_in_TB 533 (by decide +kernel) rfl)
theorem mlX8_159 : tw_mL RX8 159 yX6_add := Or.inl (tw_in_TB 537 (by decide +kernel) rfl)
theorem mlX8_161 : tw_mL RX8 161 yX6_empty := Or.inl (tw_in_TB 545 (by decide +kernel) rfl)
theorem mlX8_164 : tw_mL RX8 164 yX2_read := Or.inl (tw_in_TB 553 (by decide +kernel) rfl)
theorem mlX8_169 : tw_mL RX8 169 yX4_copyFrom := Or.inl (tw_in_TB 669 (by decide +kernel) rfl)
theorem mlX8_172 : tw_mL RX8 172 yX7_size := Or.inl (tw_in_TB 675 (by decide +kernel) rfl)
theorem mlX8_173 : tw_mL RX8 173 yX5_quietCount := Or.inl (tw_in_TB 679 (by decide +kernel) rfl)
theorem mlX8_176 : tw_mL RX8 176 yX3_readingCount := Or.inl (tw_in_TB 683 (by decide +kernel) rfl)
theorem mlX8_179 : tw_mL RX8 179 yX7_formCount := Or.inl (tw_in_TB 687 (by decide +kernel) rfl)
theorem mlX8_182 : tw_mL RX8 182 yX4_takenCount := Or.inl (tw_in_TB 691 (by decide +kernel) rfl)
theorem mlX8_185 : tw_mL RX8 185 yX7_letterAt := Or.inl (tw_in_TB 699 (by decide +kernel) rfl)
theorem mlX8_188 : tw_mL RX8 188 yX0_wordAt := Or.inl (tw_in_TB 711 (by decide +kernel) rfl)
theorem mlX8_191 : tw_mL RX8 191 yX3_termOver := Or.inl (tw_in_TB 712 (by decide +kernel) rfl)
theorem mlX8_194 : tw_mL RX8 194 yX3_stepOver := Or.inl (tw_in_TB 719 (by decide +kernel) rfl)
theorem mlX8_197 : tw_mL RX8 197 yX3_hasMark := Or.inl (tw_in_TB 723 (by decide +kernel) rfl)
theorem mlX8_200 : tw_mL RX8 200 yX5_lengthOf := Or.inl (tw_in_TB 731 (by decide +kernel) rfl)
theorem mlX8_201 : tw_mL RX8 201 yX5_wordAt := Or.inl (tw_in_TB 732 (by decide +kernel) rfl)
theorem mlX8_202 : tw_mL RX8 202 yX5_isQuiet := Or.inl (tw_in_TB 733 (by decide +kernel) rfl)
theorem mlX8_205 : tw_mL RX8 205 yX3_timesRead := Or.inl (tw_in_TB 734 (by decide +kernel) rfl)
theorem mlX8_208 : tw_mL RX8 208 yX4_occurrences := Or.inl (tw_in_TB 738 (by decide +kernel) rfl)
theorem mlX8_211 : tw_mL RX8 211 yX3_marksOf := Or.inl (tw_in_TB 742 (by decide +kernel) rfl)
theorem mlX8_214 : tw_mL RX8 214 yX3_firstPlace := Or.inl (tw_in_TB 750 (by decide +kernel) rfl)
theorem mlX8_217 : tw_mL RX8 217 yX3_markPart := Or.inl (tw_in_TB 758 (by decide +kernel) rfl)
theorem mlX8_220 : tw_mL RX8 220 yX4_occursAt := Or.inl (tw_in_TB 766 (by decide +kernel) rfl)
theorem mlX8_224 : tw_mL RX8 224 yX4_timesWithin := Or.inl (tw_in_TB 771 (by decide +kernel) rfl)
theorem mlX8_227 : tw_mL RX8 227 yX3_read := Or.inl (tw_in_TB 357 (by decide +kernel) rfl)
theorem mlX8_229 : tw_mL RX8 229 yX8_askedLength := Or.inl (tw_in_TB 425 (by decide +kernel) rfl)
theorem mlX8_232 : tw_mL RX8 232 yX5_hasLike := Or.inl (tw_in_TB 429 (by decide +kernel) rfl)
theorem mlX0_20 : tw_mL RX0 20 yX0_has := Or.inl (tw_in_TB 323 (by decide +kernel) rfl)
theorem mlX0_24 : tw_mL RX0 24 yX0_hasPlace := Or.inl (tw_in_TB 336 (by decide +kernel) rfl)
theorem mlX1_19 : tw_mL RX1 19 yX4_init := Or.inl (tw_in_TB 173 (by decide +kernel) rfl)
theorem mlX1_20 : tw_mL RX1 20 yX1_dropOldest := Or.inl (tw_in_TB 294 (by decide +kernel) rfl)
theorem mlX1_23 : tw_mL RX1 23 yX4_copyFrom := Or.inl (tw_in_TB 298 (by decide +kernel) rfl)
theorem mlX2_11 : tw_mL RX2 11 yX6_init := Or.inr ⟨"TermMarks", tw_in_NB 189 (by decide +kernel) rfl⟩
theorem mlX2_20 : tw_mL RX2 20 yX4_init := Or.inl (tw_in_TB 201 (by decide +kernel) rfl)
theorem mlX2_38 : tw_mL RX2 38 yX4_copyFrom := Or.inl (tw_in_TB 557 (by decide +kernel) rfl)
theorem mlX2_42 : tw_mL RX2 42 yX2_step := Or.inl (tw_in_TB 558 (by decide +kernel) rfl)
theorem mlX2_45 : tw_mL RX2 45 yX6_length := Or.inl (tw_in_TB 562 (by decide +kernel) rfl)
theorem mlX2_51 : tw_mL RX2 51 yX2_isWord := Or.inl (tw_in_TB 571 (by decide +kernel) rfl)
theorem mlX2_55 : tw_mL RX2 55 yX2_readChapter := Or.inl (tw_in_TB 623 (by decide +kernel) rfl)
theorem mlX2_61 : tw_mL RX2 61 yX2_readTerm := Or.inl (tw_in_TB 654 (by decide +kernel) rfl)
theorem mlX2_66 : tw_mL RX2 66 yX2_readForm := Or.inl (tw_in_TB 662 (by decide +kernel) rfl)
theorem mlX2_69 : tw_mL RX2 69 yX6_at := Or.inl (tw_in_TB 563 (by decide +kernel) rfl)
theorem mlX2_77 : tw_mL RX2 77 yX0_has := Or.inl (tw_in_TB 627 (by decide +kernel) rfl)
theorem mlX2_83 : tw_mL RX2 83 yX2_pass := Or.inl (tw_in_TB 628 (by decide +kernel) rfl)
theorem mlX2_86 : tw_mL RX2 86 yX0_empty := Or.inl (tw_in_TB 632 (by decide +kernel) rfl)
theorem mlX2_90 : tw_mL RX2 90 yX2_isRun := Or.inl (tw_in_TB 636 (by decide +kernel) rfl)
theorem mlX2_93 : tw_mL RX2 93 yX2_readWord := Or.inl (tw_in_TB 640 (by decide +kernel) rfl)
theorem mlX2_96 : tw_mL RX2 96 yX0_put := Or.inl (tw_in_TB 652 (by decide +kernel) rfl)
theorem mlX2_104 : tw_mL RX2 104 yX5_size := Or.inl (tw_in_TB 658 (by decide +kernel) rfl)
theorem mlX2_111 : tw_mL RX2 111 yX5_hasLike := Or.inl (tw_in_TB 659 (by decide +kernel) rfl)
theorem mlX2_115 : tw_mL RX2 115 yX5_add := Or.inl (tw_in_TB 660 (by decide +kernel) rfl)
theorem mlX2_119 : tw_mL RX2 119 yX7_baseOf := Or.inl (tw_in_TB 666 (by decide +kernel) rfl)
theorem mlX2_124 : tw_mL RX2 124 yX4_mayHaveBase := Or.inl (tw_in_TB 667 (by decide +kernel) rfl)
theorem mlX2_128 : tw_mL RX2 128 yX7_putBase := Or.inl (tw_in_TB 668 (by decide +kernel) rfl)
theorem mlX2_132 : tw_mL RX2 132 yX7_spell := Or.inl (tw_in_TB 644 (by decide +kernel) rfl)
theorem mlX2_136 : tw_mL RX2 136 yX7_find := Or.inl (tw_in_TB 647 (by decide +kernel) rfl)
theorem mlX2_140 : tw_mL RX2 140 yX7_add := Or.inl (tw_in_TB 651 (by decide +kernel) rfl)
theorem mlX2_142 : tw_mL RX2 142 yX2_isLetter := Or.inl (tw_in_TB 567 (by decide +kernel) rfl)
theorem mlX2_145 : tw_mL RX2 145 yJ0_length_8abf5 := Or.inl (tw_in_TB 575 (by decide +kernel) rfl)
theorem mlX2_148 : tw_mL RX2 148 yJ0_charAt_5068e := Or.inl (tw_in_TB 585 (by decide +kernel) rfl)
theorem mlX3_46 : tw_mL RX3 46 yX3_forget := Or.inl (tw_in_TB 361 (by decide +kernel) rfl)
theorem mlX3_49 : tw_mL RX3 49 yX3_readChapter := Or.inl (tw_in_TB 365 (by decide +kernel) rfl)
theorem mlX3_59 : tw_mL RX3 59 yX0_lengthOf := Or.inl (tw_in_TB 369 (by decide +kernel) rfl)
theorem mlX3_63 : tw_mL RX3 63 yX4_longestAt := Or.inl (tw_in_TB 370 (by decide +kernel) rfl)
theorem mlX3_70 : tw_mL RX3 70 yX5_lengthOf := Or.inl (tw_in_TB 399 (by decide +kernel) rfl)
theorem mlX3_71 : tw_mL RX3 71 yX3_note := Or.inl (tw_in_TB 400 (by decide +kernel) rfl)
theorem mlX3_75 : tw_mL RX3 75 yX5_has := Or.inl (tw_in_TB 404 (by decide +kernel) rfl)
theorem mlX3_79 : tw_mL RX3 79 yX5_isQuiet := Or.inl (tw_in_TB 408 (by decide +kernel) rfl)
theorem mlX3_82 : tw_mL RX3 82 yX3_isInside := Or.inl (tw_in_TB 716 (by decide +kernel) rfl)
theorem mlX4_11 : tw_mL RX4 11 yX7_init := Or.inl (tw_in_TB 84 (by decide +kernel) rfl)
theorem mlX4_20 : tw_mL RX4 20 yX0_init := Or.inr ⟨"TermMarks", tw_in_NB 106 (by decide +kernel) rfl⟩
theorem mlX4_27 : tw_mL RX4 27 yX5_init := Or.inr ⟨"TermMarks", tw_in_NB 121 (by decide +kernel) rfl⟩
theorem mlX4_40 : tw_mL RX4 40 yX4_hasSlot := Or.inl (tw_in_TB 499 (by decide +kernel) rfl)
theorem mlX4_44 : tw_mL RX4 44 yX0_copyFrom := Or.inl (tw_in_TB 309 (by decide +kernel) rfl)
theorem mlX4_48 : tw_mL RX4 48 yX4_isTaken := Or.inl (tw_in_TB 516 (by decide +kernel) rfl)
theorem mlX4_51 : tw_mL RX4 51 yX7_isForm := Or.inl (tw_in_TB 467 (by decide +kernel) rfl)
theorem mlX4_54 : tw_mL RX4 54 yX7_hasForms := Or.inl (tw_in_TB 472 (by decide +kernel) rfl)
theorem mlX4_57 : tw_mL RX4 57 yX7_baseOf := Or.inl (tw_in_TB 391 (by decide +kernel) rfl)
theorem mlX4_61 : tw_mL RX4 61 yX7_putBase := Or.inl (tw_in_TB 476 (by decide +kernel) rfl)
theorem mlX4_65 : tw_mL RX4 65 yX5_twoAreAlike := Or.inl (tw_in_TB 481 (by decide +kernel) rfl)
theorem mlX4_69 : tw_mL RX4 69 yX5_lengthOf := Or.inl (tw_in_TB 378 (by decide +kernel) rfl)
theorem mlX4_72 : tw_mL RX4 72 yX0_lengthOf := Or.inl (tw_in_TB 386 (by decide +kernel) rfl)
theorem mlX4_73 : tw_mL RX4 73 yX5_wordAt := Or.inl (tw_in_TB 387 (by decide +kernel) rfl)
theorem mlX4_77 : tw_mL RX4 77 yX0_wordAt := Or.inl (tw_in_TB 395 (by decide +kernel) rfl)
theorem mlX4_78 : tw_mL RX4 78 yX4_occursAt := Or.inl (tw_in_TB 382 (by decide +kernel) rfl)
theorem mlX4_82 : tw_mL RX4 82 yX5_size := Or.inl (tw_in_TB 374 (by decide +kernel) rfl)
theorem mlX4_86 : tw_mL RX4 86 yX4_occursWithin := Or.inl (tw_in_TB 775 (by decide +kernel) rfl)
theorem mlX4_89 : tw_mL RX4 89 yX7_copyFrom := Or.inl (tw_in_TB 302 (by decide +kernel) rfl)
theorem mlX4_92 : tw_mL RX4 92 yX5_copyFrom := Or.inl (tw_in_TB 314 (by decide +kernel) rfl)
theorem mlX5_28 : tw_mL RX5 28 yX5_has := Or.inl (tw_in_TB 412 (by decide +kernel) rfl)
theorem mlX5_38 : tw_mL RX5 38 yX5_sameBases := Or.inl (tw_in_TB 433 (by decide +kernel) rfl)
theorem mlX5_42 : tw_mL RX5 42 yX7_baseOf := Or.inl (tw_in_TB 436 (by decide +kernel) rfl)
theorem mlX7_23 : tw_mL RX7 23 yX7_add := Or.inl (tw_in_TB 88 (by decide +kernel) rfl)
theorem mlX7_27 : tw_mL RX7 27 yX7_has := Or.inl (tw_in_TB 480 (by decide +kernel) rfl)
theorem mlX7_31 : tw_mL RX7 31 yX7_baseOf := Or.inl (tw_in_TB 471 (by decide +kernel) rfl)
theorem mlX9_45 : tw_mL RX9 45 yX9_in := Or.inl (tw_in_TB 850 (by decide +kernel) rfl)
theorem mlX9_49 : tw_mL RX9 49 yX9_at := Or.inl (tw_in_TB 865 (by decide +kernel) rfl)
theorem mlX9_53 : tw_mL RX9 53 yX9_isChapter := Or.inl (tw_in_TB 847 (by decide +kernel) rfl)
theorem mlX9_57 : tw_mL RX9 57 yX9_size := Or.inl (tw_in_TB 853 (by decide +kernel) rfl)
theorem mlX9_61 : tw_mL RX9 61 yX9_isWord := Or.inl (tw_in_TB 857 (by decide +kernel) rfl)
theorem mlX9_64 : tw_mL RX9 64 yX9_saves := Or.inl (tw_in_TB 861 (by decide +kernel) rfl)
theorem mlX9_68 : tw_mL RX9 68 yX9_allMarks := Or.inl (tw_in_TB 880 (by decide +kernel) rfl)
theorem mlX9_71 : tw_mL RX9 71 yX9_ofTerm := Or.inl (tw_in_TB 896 (by decide +kernel) rfl)
theorem mlX9_74 : tw_mL RX9 74 yX9_areAlike := Or.inl (tw_in_TB 920 (by decide +kernel) rfl)
theorem mlX9_78 : tw_mL RX9 78 yX9_tries := Or.inl (tw_in_TB 912 (by decide +kernel) rfl)
theorem mlX9_82 : tw_mL RX9 82 yX9_isThere := Or.inl (tw_in_TB 916 (by decide +kernel) rfl)
theorem mlX9_86 : tw_mL RX9 86 yX9_comes := Or.inl (tw_in_TB 924 (by decide +kernel) rfl)
theorem mlX9_90 : tw_mL RX9 90 yX9_isTerm := Or.inl (tw_in_TB 932 (by decide +kernel) rfl)
theorem mlX9_93 : tw_mL RX9 93 yX9_hasForms := Or.inl (tw_in_TB 948 (by decide +kernel) rfl)
theorem mlX9_96 : tw_mL RX9 96 yX9_canBe := Or.inl (tw_in_TB 944 (by decide +kernel) rfl)
theorem mlX9_99 : tw_mL RX9 99 yX9_isSlot := Or.inl (tw_in_TB 956 (by decide +kernel) rfl)
theorem mlX9_102 : tw_mL RX9 102 yX9_wordsOfAll := Or.inl (tw_in_TB 959 (by decide +kernel) rfl)
theorem mlX9_105 : tw_mL RX9 105 yX9_baseAt := Or.inl (tw_in_TB 900 (by decide +kernel) rfl)
theorem mlX9_108 : tw_mL RX9 108 yX9_occurs := Or.inl (tw_in_TB 892 (by decide +kernel) rfl)
theorem mlX9_111 : tw_mL RX9 111 yX9_longest := Or.inl (tw_in_TB 888 (by decide +kernel) rfl)
theorem mlX9_115 : tw_mL RX9 115 yX9_isQuiet := Or.inl (tw_in_TB 904 (by decide +kernel) rfl)
theorem mlX9_118 : tw_mL RX9 118 yX9_readsBy := Or.inl (tw_in_TB 884 (by decide +kernel) rfl)
theorem mlX9_122 : tw_mL RX9 122 yX9_reads := Or.inl (tw_in_TB 1035 (by decide +kernel) rfl)
theorem mlX9_134 : tw_mL RX9 134 yX9_isLetter := Or.inl (tw_in_TB 983 (by decide +kernel) rfl)
theorem mlX9_137 : tw_mL RX9 137 yX9_isRun := Or.inl (tw_in_TB 991 (by decide +kernel) rfl)
theorem mlX9_140 : tw_mL RX9 140 yX9_isLike := Or.inl (tw_in_TB 1011 (by decide +kernel) rfl)
theorem mlX9_146 : tw_mL RX9 146 yX9_token := Or.inl (tw_in_TB 979 (by decide +kernel) rfl)
theorem mlX9_149 : tw_mL RX9 149 yX9_wordHere := Or.inl (tw_in_TB 1007 (by decide +kernel) rfl)
theorem mlX9_152 : tw_mL RX9 152 yX9_isSign := Or.inl (tw_in_TB 999 (by decide +kernel) rfl)
theorem mlX9_155 : tw_mL RX9 155 yX9_takesWords := Or.inl (tw_in_TB 1003 (by decide +kernel) rfl)
theorem mlX9_158 : tw_mL RX9 158 yX9_isName := Or.inl (tw_in_TB 987 (by decide +kernel) rfl)
theorem mlX9_161 : tw_mL RX9 161 yX9_takesChapter := Or.inl (tw_in_TB 995 (by decide +kernel) rfl)
theorem mlX9_164 : tw_mL RX9 164 yX9_takesTerm := Or.inl (tw_in_TB 1015 (by decide +kernel) rfl)
theorem mlX9_167 : tw_mL RX9 167 yX9_takesForm := Or.inl (tw_in_TB 1019 (by decide +kernel) rfl)
theorem mlX9_170 : tw_mL RX9 170 yX9_quietTerms := Or.inl (tw_in_TB 1027 (by decide +kernel) rfl)
theorem mlX9_173 : tw_mL RX9 173 yX9_readings := Or.inl (tw_in_TB 1031 (by decide +kernel) rfl)
theorem mlX9_176 : tw_mL RX9 176 yX9_forms := Or.inl (tw_in_TB 1039 (by decide +kernel) rfl)
theorem mlX9_179 : tw_mL RX9 179 yX9_firstIn := Or.inl (tw_in_TB 1067 (by decide +kernel) rfl)
theorem mlX9_182 : tw_mL RX9 182 yX9_occurrences := Or.inl (tw_in_TB 1059 (by decide +kernel) rfl)
theorem mlX9_185 : tw_mL RX9 185 yX9_marksOf := Or.inl (tw_in_TB 1063 (by decide +kernel) rfl)
