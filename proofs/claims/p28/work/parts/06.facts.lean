theorem tw_rgL {z : Int} (h : (decide (-2147483648 ≤ z) && decide (z < 2147483648)) = true) : tm_rg z := by
  rw [Bool.and_eq_true, decide_eq_true_eq, decide_eq_true_eq] at h
  exact h
theorem tw_ks3 : tw_ks 3 0 := Or.inl ⟨rfl, rfl⟩
theorem tw_ks4 : tw_ks 4 4 := Or.inr (Or.inl ⟨rfl, rfl⟩)
theorem tw_ks5 : tw_ks 5 100 := Or.inr (Or.inr ⟨rfl, rfl⟩)
theorem tw_ari : Cond.arrayClass .int ∈ tw_TB := tw_in_TB 54 (by decide +kernel) rfl
theorem tw_arl : Cond.arrayClass .long ∈ tw_TB := tw_in_TB 53 (by decide +kernel) rfl
theorem tw_arb : Cond.arrayClass .boolean ∈ tw_TB := tw_in_TB 90 (by decide +kernel) rfl
theorem tw_oiI : Cond.instanceMethod objectInit ∈ tw_TB := tw_in_TB 25 (by decide +kernel) rfl
theorem tw_oiC : Cond.code objectInit ⟨#[0xb1]⟩ 1 none ∈ tw_TB := tw_in_TB 26 (by decide +kernel) rfl
theorem tw_acN : Cond.native arraycopyName ∈ tw_TB ∧ Cond.static arraycopyName ∈ tw_TB ∧ Cond.initialized "java/lang/System" ∈ tw_TB := ⟨tw_in_TB 243 (by decide +kernel) rfl, tw_in_TB 242 (by decide +kernel) rfl, tw_in_TB 18 (by decide +kernel) rfl⟩
theorem cinX0 : ∀ w ∈ u_ws RX0 TX0 2, w ∈ tw_TB := List.forall_mem_cons.mpr ⟨tw_in_TB 65 (by decide +kernel) rfl, List.forall_mem_cons.mpr ⟨tw_in_TB 67 (by decide +kernel) rfl, fun _ h => absurd h List.not_mem_nil⟩⟩
theorem cinX1 : ∀ w ∈ u_ws RX1 TX1 2, w ∈ tw_TB := List.forall_mem_cons.mpr ⟨tw_in_TB 124 (by decide +kernel) rfl, List.forall_mem_cons.mpr ⟨tw_in_TB 126 (by decide +kernel) rfl, fun _ h => absurd h List.not_mem_nil⟩⟩
theorem cinX2 : ∀ w ∈ u_ws RX2 TX2 5, w ∈ tw_TB := List.forall_mem_cons.mpr ⟨tw_in_TB 156 (by decide +kernel) rfl, List.forall_mem_cons.mpr ⟨tw_in_TB 158 (by decide +kernel) rfl, List.forall_mem_cons.mpr ⟨tw_in_TB 160 (by decide +kernel) rfl, List.forall_mem_cons.mpr ⟨tw_in_TB 162 (by decide +kernel) rfl, List.forall_mem_cons.mpr ⟨tw_in_TB 164 (by decide +kernel) rfl, fun _ h => absurd h List.not_mem_nil⟩⟩⟩⟩⟩
theorem cinX3 : ∀ w ∈ u_ws RX3 TX3 9, w ∈ tw_TB := List.forall_mem_cons.mpr ⟨tw_in_TB 183 (by decide +kernel) rfl, List.forall_mem_cons.mpr ⟨tw_in_TB 185 (by decide +kernel) rfl, List.forall_mem_cons.mpr ⟨tw_in_TB 187 (by decide +kernel) rfl, List.forall_mem_cons.mpr ⟨tw_in_TB 189 (by decide +kernel) rfl, List.forall_mem_cons.mpr ⟨tw_in_TB 191 (by decide +kernel) rfl, List.forall_mem_cons.mpr ⟨tw_in_TB 193 (by decide +kernel) rfl, List.forall_mem_cons.mpr ⟨tw_in_TB 195 (by decide +kernel) rfl, List.forall_mem_cons.mpr ⟨tw_in_TB 197 (by decide +kernel) rfl, List.forall_mem_cons.mpr ⟨tw_in_TB 199 (by decide +kernel) rfl, fun _ h => absurd h List.not_mem_nil⟩⟩⟩⟩⟩⟩⟩⟩⟩
theorem cinX4 : ∀ w ∈ u_ws RX4 TX4 5, w ∈ tw_TB := List.forall_mem_cons.mpr ⟨tw_in_TB 102 (by decide +kernel) rfl, List.forall_mem_cons.mpr ⟨tw_in_TB 104 (by decide +kernel) rfl, List.forall_mem_cons.mpr ⟨tw_in_TB 106 (by decide +kernel) rfl, List.forall_mem_cons.mpr ⟨tw_in_TB 108 (by decide +kernel) rfl, List.forall_mem_cons.mpr ⟨tw_in_TB 110 (by decide +kernel) rfl, fun _ h => absurd h List.not_mem_nil⟩⟩⟩⟩⟩
theorem cinX5 : ∀ w ∈ u_ws RX5 TX5 4, w ∈ tw_TB := List.forall_mem_cons.mpr ⟨tw_in_TB 81 (by decide +kernel) rfl, List.forall_mem_cons.mpr ⟨tw_in_TB 83 (by decide +kernel) rfl, List.forall_mem_cons.mpr ⟨tw_in_TB 85 (by decide +kernel) rfl, List.forall_mem_cons.mpr ⟨tw_in_TB 87 (by decide +kernel) rfl, fun _ h => absurd h List.not_mem_nil⟩⟩⟩⟩
theorem cinX6 : ∀ w ∈ u_ws RX6 TX6 2, w ∈ tw_TB := List.forall_mem_cons.mpr ⟨tw_in_TB 143 (by decide +kernel) rfl, List.forall_mem_cons.mpr ⟨tw_in_TB 145 (by decide +kernel) rfl, fun _ h => absurd h List.not_mem_nil⟩⟩
theorem cinX7 : ∀ w ∈ u_ws RX7 TX7 3, w ∈ tw_TB := List.forall_mem_cons.mpr ⟨tw_in_TB 46 (by decide +kernel) rfl, List.forall_mem_cons.mpr ⟨tw_in_TB 48 (by decide +kernel) rfl, List.forall_mem_cons.mpr ⟨tw_in_TB 50 (by decide +kernel) rfl, fun _ h => absurd h List.not_mem_nil⟩⟩⟩
theorem cinX8 : ∀ w ∈ u_ws RX8 TX8 6, w ∈ tw_TB := List.forall_mem_cons.mpr ⟨tw_in_TB 208 (by decide +kernel) rfl, List.forall_mem_cons.mpr ⟨tw_in_TB 210 (by decide +kernel) rfl, List.forall_mem_cons.mpr ⟨tw_in_TB 212 (by decide +kernel) rfl, List.forall_mem_cons.mpr ⟨tw_in_TB 214 (by decide +kernel) rfl, List.forall_mem_cons.mpr ⟨tw_in_TB 216 (by decide +kernel) rfl, List.forall_mem_cons.mpr ⟨tw_in_TB 218 (by decide +kernel) rfl, fun _ h => absurd h List.not_mem_nil⟩⟩⟩⟩⟩⟩
theorem flX8_10 : tw_fl RX8 10 8 0 := ⟨RX8, TX8, 6, rfl, by decide, cinX8, Or.inl (tw_in_TB 202 (by decide +kernel) rfl)⟩
theorem fpX8_10 : tw_fp RX8 10 8 0 true (tyX8 0) := ⟨RX8, TX8, 6, tyX8, rfl, by decide, cinX8, tyX8_ok, nmX8, tw_in_TB 202 (by decide +kernel) rfl, rfl, by decide +kernel, fun _ => rfl⟩
theorem flX8_16 : tw_fl RX8 16 8 1 := ⟨RX8, TX8, 6, rfl, by decide, cinX8, Or.inl (tw_in_TB 203 (by decide +kernel) rfl)⟩
theorem fpX8_16 : tw_fp RX8 16 8 1 true (tyX8 1) := ⟨RX8, TX8, 6, tyX8, rfl, by decide, cinX8, tyX8_ok, nmX8, tw_in_TB 203 (by decide +kernel) rfl, rfl, by decide +kernel, fun _ => rfl⟩
theorem flX8_22 : tw_fl RX8 22 8 2 := ⟨RX8, TX8, 6, rfl, by decide, cinX8, Or.inl (tw_in_TB 204 (by decide +kernel) rfl)⟩
theorem fpX8_22 : tw_fp RX8 22 8 2 true (tyX8 2) := ⟨RX8, TX8, 6, tyX8, rfl, by decide, cinX8, tyX8_ok, nmX8, tw_in_TB 204 (by decide +kernel) rfl, rfl, by decide +kernel, fun _ => rfl⟩
theorem flX8_29 : tw_fl RX8 29 8 3 := ⟨RX8, TX8, 6, rfl, by decide, cinX8, Or.inl (tw_in_TB 205 (by decide +kernel) rfl)⟩
theorem fpX8_29 : tw_fp RX8 29 8 3 true (tyX8 3) := ⟨RX8, TX8, 6, tyX8, rfl, by decide, cinX8, tyX8_ok, nmX8, tw_in_TB 205 (by decide +kernel) rfl, rfl, by decide +kernel, fun _ => rfl⟩
theorem flX8_36 : tw_fl RX8 36 8 4 := ⟨RX8, TX8, 6, rfl, by decide, cinX8, Or.inl (tw_in_TB 206 (by decide +kernel) rfl)⟩
theorem fpX8_36 : tw_fp RX8 36 8 4 true (tyX8 4) := ⟨RX8, TX8, 6, tyX8, rfl, by decide, cinX8, tyX8_ok, nmX8, tw_in_TB 206 (by decide +kernel) rfl, rfl, by decide +kernel, fun _ => rfl⟩
theorem flX8_42 : tw_fl RX8 42 8 5 := ⟨RX8, TX8, 6, rfl, by decide, cinX8, Or.inl (tw_in_TB 207 (by decide +kernel) rfl)⟩
theorem fpX8_42 : tw_fp RX8 42 8 5 true (tyX8 5) := ⟨RX8, TX8, 6, tyX8, rfl, by decide, cinX8, tyX8_ok, nmX8, tw_in_TB 207 (by decide +kernel) rfl, rfl, by decide +kernel, fun _ => rfl⟩
theorem flX8_46 : tw_fl RX8 46 4 1 := ⟨RX4, TX4, 5, rfl, by decide, cinX4, Or.inr ⟨"TermMarks", tw_in_NB 95 (by decide +kernel) rfl⟩⟩
theorem flX8_60 : tw_fl RX8 60 4 0 := ⟨RX4, TX4, 5, rfl, by decide, cinX4, Or.inr ⟨"TermMarks", tw_in_NB 93 (by decide +kernel) rfl⟩⟩
theorem flX8_102 : tw_fl RX8 102 4 2 := ⟨RX4, TX4, 5, rfl, by decide, cinX4, Or.inr ⟨"TermMarks", tw_in_NB 99 (by decide +kernel) rfl⟩⟩
theorem flX8_150 : tw_fl RX8 150 2 0 := ⟨RX2, TX2, 5, rfl, by decide, cinX2, Or.inr ⟨"TermMarks", tw_in_NB 151 (by decide +kernel) rfl⟩⟩
theorem flX0_13 : tw_fl RX0 13 0 0 := ⟨RX0, TX0, 2, rfl, by decide, cinX0, Or.inl (tw_in_TB 63 (by decide +kernel) rfl)⟩
theorem fpX0_13 : tw_fp RX0 13 0 0 true (tyX0 0) := ⟨RX0, TX0, 2, tyX0, rfl, by decide, cinX0, tyX0_ok, nmX0, tw_in_TB 63 (by decide +kernel) rfl, rfl, by decide +kernel, fun _ => rfl⟩
theorem flX0_16 : tw_fl RX0 16 0 1 := ⟨RX0, TX0, 2, rfl, by decide, cinX0, Or.inl (tw_in_TB 64 (by decide +kernel) rfl)⟩
theorem fpX0_16 : tw_fp RX0 16 0 1 true (tyX0 1) := ⟨RX0, TX0, 2, tyX0, rfl, by decide, cinX0, tyX0_ok, nmX0, tw_in_TB 64 (by decide +kernel) rfl, rfl, by decide +kernel, fun _ => rfl⟩
theorem flX1_11 : tw_fl RX1 11 1 0 := ⟨RX1, TX1, 2, rfl, by decide, cinX1, Or.inl (tw_in_TB 122 (by decide +kernel) rfl)⟩
theorem fpX1_11 : tw_fp RX1 11 1 0 true (tyX1 0) := ⟨RX1, TX1, 2, tyX1, rfl, by decide, cinX1, tyX1_ok, nmX1, tw_in_TB 122 (by decide +kernel) rfl, rfl, by decide +kernel, fun _ => rfl⟩
theorem flX1_15 : tw_fl RX1 15 1 1 := ⟨RX1, TX1, 2, rfl, by decide, cinX1, Or.inl (tw_in_TB 123 (by decide +kernel) rfl)⟩
theorem fpX1_15 : tw_fp RX1 15 1 1 false .int := ⟨RX1, TX1, 2, tyX1, rfl, by decide, cinX1, tyX1_ok, nmX1, tw_in_TB 123 (by decide +kernel) rfl, rfl, by decide +kernel, fun _ => rfl⟩
theorem fpX2_12 : tw_fp RX2 12 2 0 true (tyX2 0) := ⟨RX2, TX2, 5, tyX2, rfl, by decide, cinX2, tyX2_ok, nmX2, tw_in_TB 150 (by decide +kernel) rfl, rfl, by decide +kernel, fun _ => rfl⟩
theorem fpX2_21 : tw_fp RX2 21 2 1 true (tyX2 1) := ⟨RX2, TX2, 5, tyX2, rfl, by decide, cinX2, tyX2_ok, nmX2, tw_in_TB 152 (by decide +kernel) rfl, rfl, by decide +kernel, fun _ => rfl⟩
theorem fpX2_27 : tw_fp RX2 27 2 2 true (tyX2 2) := ⟨RX2, TX2, 5, tyX2, rfl, by decide, cinX2, tyX2_ok, nmX2, tw_in_TB 153 (by decide +kernel) rfl, rfl, by decide +kernel, fun _ => rfl⟩
theorem fpX2_31 : tw_fp RX2 31 2 3 false .int := ⟨RX2, TX2, 5, tyX2, rfl, by decide, cinX2, tyX2_ok, nmX2, tw_in_TB 154 (by decide +kernel) rfl, rfl, by decide +kernel, fun _ => rfl⟩
theorem fpX2_35 : tw_fp RX2 35 2 4 false .int := ⟨RX2, TX2, 5, tyX2, rfl, by decide, cinX2, tyX2_ok, nmX2, tw_in_TB 155 (by decide +kernel) rfl, rfl, by decide +kernel, fun _ => rfl⟩
theorem flX3_15 : tw_fl RX3 15 3 0 := ⟨RX3, TX3, 9, rfl, by decide, cinX3, Or.inl (tw_in_TB 174 (by decide +kernel) rfl)⟩
theorem fpX3_15 : tw_fp RX3 15 3 0 true (tyX3 0) := ⟨RX3, TX3, 9, tyX3, rfl, by decide, cinX3, tyX3_ok, nmX3, tw_in_TB 174 (by decide +kernel) rfl, rfl, by decide +kernel, fun _ => rfl⟩
theorem flX3_20 : tw_fl RX3 20 3 1 := ⟨RX3, TX3, 9, rfl, by decide, cinX3, Or.inl (tw_in_TB 175 (by decide +kernel) rfl)⟩
theorem fpX3_20 : tw_fp RX3 20 3 1 true (tyX3 1) := ⟨RX3, TX3, 9, tyX3, rfl, by decide, cinX3, tyX3_ok, nmX3, tw_in_TB 175 (by decide +kernel) rfl, rfl, by decide +kernel, fun _ => rfl⟩
theorem flX3_23 : tw_fl RX3 23 3 2 := ⟨RX3, TX3, 9, rfl, by decide, cinX3, Or.inl (tw_in_TB 176 (by decide +kernel) rfl)⟩
theorem fpX3_23 : tw_fp RX3 23 3 2 true (tyX3 2) := ⟨RX3, TX3, 9, tyX3, rfl, by decide, cinX3, tyX3_ok, nmX3, tw_in_TB 176 (by decide +kernel) rfl, rfl, by decide +kernel, fun _ => rfl⟩
theorem flX3_26 : tw_fl RX3 26 3 3 := ⟨RX3, TX3, 9, rfl, by decide, cinX3, Or.inl (tw_in_TB 177 (by decide +kernel) rfl)⟩
theorem fpX3_26 : tw_fp RX3 26 3 3 true (tyX3 3) := ⟨RX3, TX3, 9, tyX3, rfl, by decide, cinX3, tyX3_ok, nmX3, tw_in_TB 177 (by decide +kernel) rfl, rfl, by decide +kernel, fun _ => rfl⟩
theorem flX3_30 : tw_fl RX3 30 3 4 := ⟨RX3, TX3, 9, rfl, by decide, cinX3, Or.inl (tw_in_TB 178 (by decide +kernel) rfl)⟩
theorem fpX3_30 : tw_fp RX3 30 3 4 true (tyX3 4) := ⟨RX3, TX3, 9, tyX3, rfl, by decide, cinX3, tyX3_ok, nmX3, tw_in_TB 178 (by decide +kernel) rfl, rfl, by decide +kernel, fun _ => rfl⟩
theorem flX3_33 : tw_fl RX3 33 3 5 := ⟨RX3, TX3, 9, rfl, by decide, cinX3, Or.inl (tw_in_TB 179 (by decide +kernel) rfl)⟩
theorem fpX3_33 : tw_fp RX3 33 3 5 true (tyX3 5) := ⟨RX3, TX3, 9, tyX3, rfl, by decide, cinX3, tyX3_ok, nmX3, tw_in_TB 179 (by decide +kernel) rfl, rfl, by decide +kernel, fun _ => rfl⟩
theorem flX3_36 : tw_fl RX3 36 3 6 := ⟨RX3, TX3, 9, rfl, by decide, cinX3, Or.inl (tw_in_TB 180 (by decide +kernel) rfl)⟩
theorem fpX3_36 : tw_fp RX3 36 3 6 true (tyX3 6) := ⟨RX3, TX3, 9, tyX3, rfl, by decide, cinX3, tyX3_ok, nmX3, tw_in_TB 180 (by decide +kernel) rfl, rfl, by decide +kernel, fun _ => rfl⟩
theorem flX3_39 : tw_fl RX3 39 3 7 := ⟨RX3, TX3, 9, rfl, by decide, cinX3, Or.inl (tw_in_TB 181 (by decide +kernel) rfl)⟩
theorem fpX3_39 : tw_fp RX3 39 3 7 false .int := ⟨RX3, TX3, 9, tyX3, rfl, by decide, cinX3, tyX3_ok, nmX3, tw_in_TB 181 (by decide +kernel) rfl, rfl, by decide +kernel, fun _ => rfl⟩
theorem flX3_43 : tw_fl RX3 43 3 8 := ⟨RX3, TX3, 9, rfl, by decide, cinX3, Or.inl (tw_in_TB 182 (by decide +kernel) rfl)⟩
theorem fpX3_43 : tw_fp RX3 43 3 8 false .int := ⟨RX3, TX3, 9, tyX3, rfl, by decide, cinX3, tyX3_ok, nmX3, tw_in_TB 182 (by decide +kernel) rfl, rfl, by decide +kernel, fun _ => rfl⟩
theorem flX3_53 : tw_fl RX3 53 4 1 := ⟨RX4, TX4, 5, rfl, by decide, cinX4, Or.inr ⟨"TermMarks", tw_in_NB 96 (by decide +kernel) rfl⟩⟩
theorem flX3_67 : tw_fl RX3 67 4 2 := ⟨RX4, TX4, 5, rfl, by decide, cinX4, Or.inr ⟨"TermMarks", tw_in_NB 98 (by decide +kernel) rfl⟩⟩
theorem flX4_12 : tw_fl RX4 12 4 0 := ⟨RX4, TX4, 5, rfl, by decide, cinX4, Or.inl (tw_in_TB 92 (by decide +kernel) rfl)⟩
theorem fpX4_12 : tw_fp RX4 12 4 0 true (tyX4 0) := ⟨RX4, TX4, 5, tyX4, rfl, by decide, cinX4, tyX4_ok, nmX4, tw_in_TB 92 (by decide +kernel) rfl, rfl, by decide +kernel, fun _ => rfl⟩
theorem flX4_21 : tw_fl RX4 21 4 1 := ⟨RX4, TX4, 5, rfl, by decide, cinX4, Or.inl (tw_in_TB 94 (by decide +kernel) rfl)⟩
theorem fpX4_21 : tw_fp RX4 21 4 1 true (tyX4 1) := ⟨RX4, TX4, 5, tyX4, rfl, by decide, cinX4, tyX4_ok, nmX4, tw_in_TB 94 (by decide +kernel) rfl, rfl, by decide +kernel, fun _ => rfl⟩
theorem flX4_28 : tw_fl RX4 28 4 2 := ⟨RX4, TX4, 5, rfl, by decide, cinX4, Or.inl (tw_in_TB 97 (by decide +kernel) rfl)⟩
theorem fpX4_28 : tw_fp RX4 28 4 2 true (tyX4 2) := ⟨RX4, TX4, 5, tyX4, rfl, by decide, cinX4, tyX4_ok, nmX4, tw_in_TB 97 (by decide +kernel) rfl, rfl, by decide +kernel, fun _ => rfl⟩
theorem flX4_32 : tw_fl RX4 32 4 3 := ⟨RX4, TX4, 5, rfl, by decide, cinX4, Or.inl (tw_in_TB 100 (by decide +kernel) rfl)⟩
theorem fpX4_32 : tw_fp RX4 32 4 3 true (tyX4 3) := ⟨RX4, TX4, 5, tyX4, rfl, by decide, cinX4, tyX4_ok, nmX4, tw_in_TB 100 (by decide +kernel) rfl, rfl, by decide +kernel, fun _ => rfl⟩
theorem flX4_36 : tw_fl RX4 36 4 4 := ⟨RX4, TX4, 5, rfl, by decide, cinX4, Or.inl (tw_in_TB 101 (by decide +kernel) rfl)⟩
theorem fpX4_36 : tw_fp RX4 36 4 4 true (tyX4 4) := ⟨RX4, TX4, 5, tyX4, rfl, by decide, cinX4, tyX4_ok, nmX4, tw_in_TB 101 (by decide +kernel) rfl, rfl, by decide +kernel, fun _ => rfl⟩
theorem flX5_13 : tw_fl RX5 13 5 0 := ⟨RX5, TX5, 4, rfl, by decide, cinX5, Or.inl (tw_in_TB 77 (by decide +kernel) rfl)⟩
theorem fpX5_13 : tw_fp RX5 13 5 0 true (tyX5 0) := ⟨RX5, TX5, 4, tyX5, rfl, by decide, cinX5, tyX5_ok, nmX5, tw_in_TB 77 (by decide +kernel) rfl, rfl, by decide +kernel, fun _ => rfl⟩
theorem flX5_16 : tw_fl RX5 16 5 1 := ⟨RX5, TX5, 4, rfl, by decide, cinX5, Or.inl (tw_in_TB 78 (by decide +kernel) rfl)⟩
theorem fpX5_16 : tw_fp RX5 16 5 1 true (tyX5 1) := ⟨RX5, TX5, 4, tyX5, rfl, by decide, cinX5, tyX5_ok, nmX5, tw_in_TB 78 (by decide +kernel) rfl, rfl, by decide +kernel, fun _ => rfl⟩
theorem flX5_20 : tw_fl RX5 20 5 2 := ⟨RX5, TX5, 4, rfl, by decide, cinX5, Or.inl (tw_in_TB 79 (by decide +kernel) rfl)⟩
theorem fpX5_20 : tw_fp RX5 20 5 2 true (tyX5 2) := ⟨RX5, TX5, 4, tyX5, rfl, by decide, cinX5, tyX5_ok, nmX5, tw_in_TB 79 (by decide +kernel) rfl, rfl, by decide +kernel, fun _ => rfl⟩
theorem flX5_24 : tw_fl RX5 24 5 3 := ⟨RX5, TX5, 4, rfl, by decide, cinX5, Or.inl (tw_in_TB 80 (by decide +kernel) rfl)⟩
theorem fpX5_24 : tw_fp RX5 24 5 3 false .int := ⟨RX5, TX5, 4, tyX5, rfl, by decide, cinX5, tyX5_ok, nmX5, tw_in_TB 80 (by decide +kernel) rfl, rfl, by decide +kernel, fun _ => rfl⟩
theorem flX6_9 : tw_fl RX6 9 6 0 := ⟨RX6, TX6, 2, rfl, by decide, cinX6, Or.inl (tw_in_TB 141 (by decide +kernel) rfl)⟩
theorem fpX6_9 : tw_fp RX6 9 6 0 true (tyX6 0) := ⟨RX6, TX6, 2, tyX6, rfl, by decide, cinX6, tyX6_ok, nmX6, tw_in_TB 141 (by decide +kernel) rfl, rfl, by decide +kernel, fun _ => rfl⟩
theorem flX6_13 : tw_fl RX6 13 6 1 := ⟨RX6, TX6, 2, rfl, by decide, cinX6, Or.inl (tw_in_TB 142 (by decide +kernel) rfl)⟩
theorem fpX6_13 : tw_fp RX6 13 6 1 false .int := ⟨RX6, TX6, 2, tyX6, rfl, by decide, cinX6, tyX6_ok, nmX6, tw_in_TB 142 (by decide +kernel) rfl, rfl, by decide +kernel, fun _ => rfl⟩
theorem flX7_11 : tw_fl RX7 11 7 0 := ⟨RX7, TX7, 3, rfl, by decide, cinX7, Or.inl (tw_in_TB 43 (by decide +kernel) rfl)⟩
theorem fpX7_11 : tw_fp RX7 11 7 0 true (tyX7 0) := ⟨RX7, TX7, 3, tyX7, rfl, by decide, cinX7, tyX7_ok, nmX7, tw_in_TB 43 (by decide +kernel) rfl, rfl, by decide +kernel, fun _ => rfl⟩
theorem flX7_15 : tw_fl RX7 15 7 1 := ⟨RX7, TX7, 3, rfl, by decide, cinX7, Or.inl (tw_in_TB 44 (by decide +kernel) rfl)⟩
theorem fpX7_15 : tw_fp RX7 15 7 1 true (tyX7 1) := ⟨RX7, TX7, 3, tyX7, rfl, by decide, cinX7, tyX7_ok, nmX7, tw_in_TB 44 (by decide +kernel) rfl, rfl, by decide +kernel, fun _ => rfl⟩
theorem flX7_19 : tw_fl RX7 19 7 2 := ⟨RX7, TX7, 3, rfl, by decide, cinX7, Or.inl (tw_in_TB 45 (by decide +kernel) rfl)⟩
theorem fpX7_19 : tw_fp RX7 19 7 2 false .int := ⟨RX7, TX7, 3, tyX7, rfl, by decide, cinX7, tyX7_ok, nmX7, tw_in_TB 45 (by decide +kernel) rfl, rfl, by decide +kernel, fun _ => rfl⟩
theorem nwX8_7 : tw_nwS RX8 7 4 5 [.inr none, .inr none, .inr none, .inr none, .inr none] := ⟨RX4, TX4, tyX4, rfl, cinX4, tyX4_ok, tw_in_TB 27 (by decide +kernel) rfl, tw_in_TB 28 (by decide +kernel) rfl, tw_in_TB 10 (by decide +kernel) rfl, by decide +kernel, (List.forall_mem_cons.mpr ⟨trivial, (List.forall_mem_cons.mpr ⟨trivial, (List.forall_mem_cons.mpr ⟨trivial, (List.forall_mem_cons.mpr ⟨trivial, (List.forall_mem_cons.mpr ⟨trivial, (fun _ h => absurd h List.not_mem_nil)⟩)⟩)⟩)⟩)⟩)⟩
theorem nwX8_19 : tw_nwS RX8 19 1 2 [.inr none, .inl 0] := ⟨RX1, TX1, tyX1, rfl, cinX1, tyX1_ok, tw_in_TB 113 (by decide +kernel) rfl, tw_in_TB 114 (by decide +kernel) rfl, tw_in_TB 14 (by decide +kernel) rfl, by decide +kernel, (List.forall_mem_cons.mpr ⟨trivial, (List.forall_mem_cons.mpr ⟨tw_rg0, (fun _ h => absurd h List.not_mem_nil)⟩)⟩)⟩
theorem nwX8_26 : tw_nwS RX8 26 2 5 [.inr none, .inr none, .inr none, .inl 0, .inl 0] := ⟨RX2, TX2, tyX2, rfl, cinX2, tyX2_ok, tw_in_TB 129 (by decide +kernel) rfl, tw_in_TB 130 (by decide +kernel) rfl, tw_in_TB 15 (by decide +kernel) rfl, by decide +kernel, (List.forall_mem_cons.mpr ⟨trivial, (List.forall_mem_cons.mpr ⟨trivial, (List.forall_mem_cons.mpr ⟨trivial, (List.forall_mem_cons.mpr ⟨tw_rg0, (List.forall_mem_cons.mpr ⟨tw_rg0, (fun _ h => absurd h List.not_mem_nil)⟩)⟩)⟩)⟩)⟩)⟩
theorem nwX8_33 : tw_nwS RX8 33 3 9 [.inr none, .inr none, .inr none, .inr none, .inr none, .inr none, .inr none, .inl 0, .inl 0] := ⟨RX3, TX3, tyX3, rfl, cinX3, tyX3_ok, tw_in_TB 167 (by decide +kernel) rfl, tw_in_TB 168 (by decide +kernel) rfl, tw_in_TB 17 (by decide +kernel) rfl, by decide +kernel, (List.forall_mem_cons.mpr ⟨trivial, (List.forall_mem_cons.mpr ⟨trivial, (List.forall_mem_cons.mpr ⟨trivial, (List.forall_mem_cons.mpr ⟨trivial, (List.forall_mem_cons.mpr ⟨trivial, (List.forall_mem_cons.mpr ⟨trivial, (List.forall_mem_cons.mpr ⟨trivial, (List.forall_mem_cons.mpr ⟨tw_rg0, (List.forall_mem_cons.mpr ⟨tw_rg0, (fun _ h => absurd h List.not_mem_nil)⟩)⟩)⟩)⟩)⟩)⟩)⟩)⟩)⟩)⟩
theorem nwX1_9 : tw_nwS RX1 9 4 5 [.inr none, .inr none, .inr none, .inr none, .inr none] := ⟨RX4, TX4, tyX4, rfl, cinX4, tyX4_ok, tw_in_TB 119 (by decide +kernel) rfl, tw_in_TB 28 (by decide +kernel) rfl, tw_in_TB 10 (by decide +kernel) rfl, by decide +kernel, (List.forall_mem_cons.mpr ⟨trivial, (List.forall_mem_cons.mpr ⟨trivial, (List.forall_mem_cons.mpr ⟨trivial, (List.forall_mem_cons.mpr ⟨trivial, (List.forall_mem_cons.mpr ⟨trivial, (fun _ h => absurd h List.not_mem_nil)⟩)⟩)⟩)⟩)⟩)⟩
theorem nwX2_9 : tw_nwS RX2 9 6 2 [.inr none, .inl 0] := ⟨RX6, TX6, tyX6, rfl, cinX6, tyX6_ok, tw_in_TB 135 (by decide +kernel) rfl, tw_in_TB 136 (by decide +kernel) rfl, tw_in_TB 16 (by decide +kernel) rfl, by decide +kernel, (List.forall_mem_cons.mpr ⟨trivial, (List.forall_mem_cons.mpr ⟨tw_rg0, (fun _ h => absurd h List.not_mem_nil)⟩)⟩)⟩
theorem nwX2_18 : tw_nwS RX2 18 4 5 [.inr none, .inr none, .inr none, .inr none, .inr none] := ⟨RX4, TX4, tyX4, rfl, cinX4, tyX4_ok, tw_in_TB 148 (by decide +kernel) rfl, tw_in_TB 28 (by decide +kernel) rfl, tw_in_TB 10 (by decide +kernel) rfl, by decide +kernel, (List.forall_mem_cons.mpr ⟨trivial, (List.forall_mem_cons.mpr ⟨trivial, (List.forall_mem_cons.mpr ⟨trivial, (List.forall_mem_cons.mpr ⟨trivial, (List.forall_mem_cons.mpr ⟨trivial, (fun _ h => absurd h List.not_mem_nil)⟩)⟩)⟩)⟩)⟩)⟩
theorem nwX4_9 : tw_nwS RX4 9 7 3 [.inr none, .inr none, .inl 0] := ⟨RX7, TX7, tyX7, rfl, cinX7, tyX7_ok, tw_in_TB 33 (by decide +kernel) rfl, tw_in_TB 34 (by decide +kernel) rfl, tw_in_TB 11 (by decide +kernel) rfl, by decide +kernel, (List.forall_mem_cons.mpr ⟨trivial, (List.forall_mem_cons.mpr ⟨trivial, (List.forall_mem_cons.mpr ⟨tw_rg0, (fun _ h => absurd h List.not_mem_nil)⟩)⟩)⟩)⟩
theorem nwX4_18 : tw_nwS RX4 18 0 2 [.inr none, .inr none] := ⟨RX0, TX0, tyX0, rfl, cinX0, tyX0_ok, tw_in_TB 55 (by decide +kernel) rfl, tw_in_TB 56 (by decide +kernel) rfl, tw_in_TB 12 (by decide +kernel) rfl, by decide +kernel, (List.forall_mem_cons.mpr ⟨trivial, (List.forall_mem_cons.mpr ⟨trivial, (fun _ h => absurd h List.not_mem_nil)⟩)⟩)⟩
theorem nwX4_25 : tw_nwS RX4 25 5 4 [.inr none, .inr none, .inr none, .inl 0] := ⟨RX5, TX5, tyX5, rfl, cinX5, tyX5_ok, tw_in_TB 70 (by decide +kernel) rfl, tw_in_TB 71 (by decide +kernel) rfl, tw_in_TB 13 (by decide +kernel) rfl, by decide +kernel, (List.forall_mem_cons.mpr ⟨trivial, (List.forall_mem_cons.mpr ⟨trivial, (List.forall_mem_cons.mpr ⟨trivial, (List.forall_mem_cons.mpr ⟨tw_rg0, (fun _ h => absurd h List.not_mem_nil)⟩)⟩)⟩)⟩)⟩
theorem nwL_14 : tw_nwS RL 14 8 6 [.inr none, .inr none, .inr none, .inr none, .inr none, .inr none] := ⟨RX8, TX8, tyX8, rfl, cinX8, tyX8_ok, tw_in_TB 19 (by decide +kernel) rfl, tw_in_TB 20 (by decide +kernel) rfl, tw_in_TB 9 (by decide +kernel) rfl, by decide +kernel, (List.forall_mem_cons.mpr ⟨trivial, (List.forall_mem_cons.mpr ⟨trivial, (List.forall_mem_cons.mpr ⟨trivial, (List.forall_mem_cons.mpr ⟨trivial, (List.forall_mem_cons.mpr ⟨trivial, (List.forall_mem_cons.mpr ⟨trivial, (fun _ h => absurd h List.not_mem_nil)⟩)⟩)⟩)⟩)⟩)⟩)⟩
theorem anX1_9 : tw_anS RX1 9 4 "TermMarks$State" := ⟨tw_in_TB 119 (by decide +kernel) rfl, Or.inr ⟨rfl, rfl⟩⟩
theorem anX4_18 : tw_anS RX4 18 3 "TermMarks$Chapters" := ⟨tw_in_TB 55 (by decide +kernel) rfl, Or.inl ⟨rfl, rfl⟩⟩
theorem mnX0_11 : Cond.classLink RX0 11 "[[I" ∈ tw_TB := tw_in_TB 61 (by decide +kernel) rfl
theorem mnX3_13 : Cond.classLink RX3 13 "[[I" ∈ tw_TB := tw_in_TB 173 (by decide +kernel) rfl
theorem mnX5_11 : Cond.classLink RX5 11 "[[I" ∈ tw_TB := tw_in_TB 76 (by decide +kernel) rfl
theorem mlX8_9 : tw_mL RX8 9 yX4_init := Or.inl (tw_in_TB 29 (by decide +kernel) rfl)
theorem mlX8_21 : tw_mL RX8 21 yX1_init := Or.inl (tw_in_TB 115 (by decide +kernel) rfl)
theorem mlX8_28 : tw_mL RX8 28 yX2_init := Or.inr ⟨"TermMarks", tw_in_NB 131 (by decide +kernel) rfl⟩
theorem mlX8_35 : tw_mL RX8 35 yX3_init := Or.inr ⟨"TermMarks", tw_in_NB 169 (by decide +kernel) rfl⟩
theorem mlX8_50 : tw_mL RX8 50 yX0_has := Or.inl (tw_in_TB 371 (by decide +kernel) rfl)
theorem mlX8_56 : tw_mL RX8 56 yX0_lengthOf := Or.inl (tw_in_TB 431 (by decide +kernel) rfl)
theorem mlX8_64 : tw_mL RX8 64 yX7_has := Or.inl (tw_in_TB 419 (by decide +kernel) rfl)
theorem mlX8_67 : tw_mL RX8 67 yX1_keep := Or.inl (tw_in_TB 432 (by decide +kernel) rfl)
theorem mlX8_71 : tw_mL RX8 71 yX0_put := Or.inl (tw_in_TB 440 (by decide +kernel) rfl)
theorem mlX8_75 : tw_mL RX8 75 yX0_hasPlace := Or.inl (tw_in_TB 375 (by decide +kernel) rfl)
theorem mlX8_79 : tw_mL RX8 79 yX0_cut := Or.inl (tw_in_TB 449 (by decide +kernel) rfl)
theorem mlX8_82 : tw_mL RX8 82 yX0_exchange := Or.inl (tw_in_TB 458 (by decide +kernel) rfl)
theorem mlX8_86 : tw_mL RX8 86 yX0_trade := Or.inl (tw_in_TB 466 (by decide +kernel) rfl)
theorem mlX8_90 : tw_mL RX8 90 yX8_readNow := Or.inl (tw_in_TB 274 (by decide +kernel) rfl)
theorem mlX8_94 : tw_mL RX8 94 yX3_markCount := Or.inl (tw_in_TB 334 (by decide +kernel) rfl)
theorem mlX8_98 : tw_mL RX8 98 yX8_ask := Or.inl (tw_in_TB 474 (by decide +kernel) rfl)
theorem mlX8_106 : tw_mL RX8 106 yX5_size := Or.inl (tw_in_TB 266 (by decide +kernel) rfl)
theorem mlX8_109 : tw_mL RX8 109 yX5_add := Or.inl (tw_in_TB 490 (by decide +kernel) rfl)
theorem mlX8_113 : tw_mL RX8 113 yX5_has := Or.inl (tw_in_TB 399 (by decide +kernel) rfl)
theorem mlX8_114 : tw_mL RX8 114 yX5_drop := Or.inl (tw_in_TB 498 (by decide +kernel) rfl)
theorem mlX8_118 : tw_mL RX8 118 yX5_hush := Or.inl (tw_in_TB 506 (by decide +kernel) rfl)
theorem mlX8_122 : tw_mL RX8 122 yX4_mayHaveBase := Or.inl (tw_in_TB 514 (by decide +kernel) rfl)
theorem mlX8_125 : tw_mL RX8 125 yX7_baseOf := Or.inl (tw_in_TB 423 (by decide +kernel) rfl)
theorem mlX8_128 : tw_mL RX8 128 yX7_putBase := Or.inl (tw_in_TB 536 (by decide +kernel) rfl)
theorem mlX8_131 : tw_mL RX8 131 yX4_hasSlot := Or.inl (tw_in_TB 541 (by decide +kernel) rfl)
theorem mlX8_134 : tw_mL RX8 134 yX4_keepChapters := Or.inl (tw_in_TB 545 (by decide +kernel) rfl)
theorem mlX8_137 : tw_mL RX8 137 yX0_total := Or.inl (tw_in_TB 262 (by decide +kernel) rfl)
theorem mlX8_140 : tw_mL RX8 140 yX4_isTaken := Or.inl (tw_in_TB 554 (by decide +kernel) rfl)
theorem mlX8_143 : tw_mL RX8 143 yX4_bringChapters := Or.inl (tw_in_TB 558 (by decide +kernel) rfl)
theorem mlX8_146 : tw_mL RX8 146 yX1_size := Or.inl (tw_in_TB 225 (by decide +kernel) rfl)
theorem mlX8_147 : tw_mL RX8 147 yX1_giveBack := Or.inl (tw_in_TB 229 (by decide +kernel) rfl)
theorem mlX8_154 : tw_mL RX8 154 yX6_length := Or.inl (tw_in_TB 350 (by decide +kernel) rfl)
theorem mlX8_159 : tw_mL RX8 159 yX6_add := Or.inl (tw_in_TB 567 (by decide +kernel) rfl)
theorem mlX8_169 : tw_mL RX8 169 yX4_copyFrom := Or.inl (tw_in_TB 616 (by decide +kernel) rfl)
theorem mlX8_172 : tw_mL RX8 172 yX7_size := Or.inl (tw_in_TB 258 (by decide +kernel) rfl)
theorem mlX8_173 : tw_mL RX8 173 yX5_quietCount := Or.inl (tw_in_TB 270 (by decide +kernel) rfl)
theorem mlX8_176 : tw_mL RX8 176 yX3_readingCount := Or.inl (tw_in_TB 338 (by decide +kernel) rfl)
theorem mlX8_179 : tw_mL RX8 179 yX7_formCount := Or.inl (tw_in_TB 342 (by decide +kernel) rfl)
theorem mlX8_182 : tw_mL RX8 182 yX4_takenCount := Or.inl (tw_in_TB 346 (by decide +kernel) rfl)
theorem mlX8_185 : tw_mL RX8 185 yX7_letterAt := Or.inl (tw_in_TB 575 (by decide +kernel) rfl)
theorem mlX8_188 : tw_mL RX8 188 yX0_wordAt := Or.inl (tw_in_TB 379 (by decide +kernel) rfl)
theorem mlX8_191 : tw_mL RX8 191 yX3_termOver := Or.inl (tw_in_TB 380 (by decide +kernel) rfl)
theorem mlX8_194 : tw_mL RX8 194 yX3_stepOver := Or.inl (tw_in_TB 387 (by decide +kernel) rfl)
theorem mlX8_197 : tw_mL RX8 197 yX3_hasMark := Or.inl (tw_in_TB 391 (by decide +kernel) rfl)
theorem mlX8_200 : tw_mL RX8 200 yX5_lengthOf := Or.inl (tw_in_TB 400 (by decide +kernel) rfl)
theorem mlX8_201 : tw_mL RX8 201 yX5_wordAt := Or.inl (tw_in_TB 401 (by decide +kernel) rfl)
theorem mlX8_202 : tw_mL RX8 202 yX5_isQuiet := Or.inl (tw_in_TB 402 (by decide +kernel) rfl)
theorem mlX8_205 : tw_mL RX8 205 yX3_timesRead := Or.inl (tw_in_TB 403 (by decide +kernel) rfl)
theorem mlX8_208 : tw_mL RX8 208 yX4_occurrences := Or.inl (tw_in_TB 407 (by decide +kernel) rfl)
theorem mlX8_211 : tw_mL RX8 211 yX3_marksOf := Or.inl (tw_in_TB 411 (by decide +kernel) rfl)
theorem mlX8_214 : tw_mL RX8 214 yX3_firstPlace := Or.inl (tw_in_TB 583 (by decide +kernel) rfl)
theorem mlX8_217 : tw_mL RX8 217 yX3_markPart := Or.inl (tw_in_TB 591 (by decide +kernel) rfl)
theorem mlX8_220 : tw_mL RX8 220 yX4_occursAt := Or.inl (tw_in_TB 599 (by decide +kernel) rfl)
theorem mlX8_224 : tw_mL RX8 224 yX4_timesWithin := Or.inl (tw_in_TB 604 (by decide +kernel) rfl)
theorem mlX8_227 : tw_mL RX8 227 yX3_read := Or.inl (tw_in_TB 278 (by decide +kernel) rfl)
theorem mlX8_229 : tw_mL RX8 229 yX8_askedLength := Or.inl (tw_in_TB 478 (by decide +kernel) rfl)
theorem mlX8_232 : tw_mL RX8 232 yX5_hasLike := Or.inl (tw_in_TB 482 (by decide +kernel) rfl)
theorem mlX0_20 : tw_mL RX0 20 yX0_has := Or.inl (tw_in_TB 444 (by decide +kernel) rfl)
theorem mlX0_24 : tw_mL RX0 24 yX0_hasPlace := Or.inl (tw_in_TB 453 (by decide +kernel) rfl)
theorem mlX1_19 : tw_mL RX1 19 yX4_init := Or.inl (tw_in_TB 121 (by decide +kernel) rfl)
theorem mlX1_20 : tw_mL RX1 20 yX1_dropOldest := Or.inl (tw_in_TB 436 (by decide +kernel) rfl)
theorem mlX1_23 : tw_mL RX1 23 yX4_copyFrom := Or.inl (tw_in_TB 233 (by decide +kernel) rfl)
theorem mlX2_11 : tw_mL RX2 11 yX6_init := Or.inr ⟨"TermMarks", tw_in_NB 137 (by decide +kernel) rfl⟩
theorem mlX2_20 : tw_mL RX2 20 yX4_init := Or.inl (tw_in_TB 149 (by decide +kernel) rfl)
theorem mlX3_46 : tw_mL RX3 46 yX3_forget := Or.inl (tw_in_TB 282 (by decide +kernel) rfl)
theorem mlX3_49 : tw_mL RX3 49 yX3_readChapter := Or.inl (tw_in_TB 286 (by decide +kernel) rfl)
theorem mlX3_59 : tw_mL RX3 59 yX0_lengthOf := Or.inl (tw_in_TB 290 (by decide +kernel) rfl)
theorem mlX3_63 : tw_mL RX3 63 yX4_longestAt := Or.inl (tw_in_TB 294 (by decide +kernel) rfl)
theorem mlX3_70 : tw_mL RX3 70 yX5_lengthOf := Or.inl (tw_in_TB 320 (by decide +kernel) rfl)
theorem mlX3_71 : tw_mL RX3 71 yX3_note := Or.inl (tw_in_TB 321 (by decide +kernel) rfl)
theorem mlX3_75 : tw_mL RX3 75 yX5_has := Or.inl (tw_in_TB 325 (by decide +kernel) rfl)
theorem mlX3_79 : tw_mL RX3 79 yX5_isQuiet := Or.inl (tw_in_TB 329 (by decide +kernel) rfl)
theorem mlX3_82 : tw_mL RX3 82 yX3_isInside := Or.inl (tw_in_TB 384 (by decide +kernel) rfl)
theorem mlX4_11 : tw_mL RX4 11 yX7_init := Or.inl (tw_in_TB 35 (by decide +kernel) rfl)
theorem mlX4_20 : tw_mL RX4 20 yX0_init := Or.inr ⟨"TermMarks", tw_in_NB 57 (by decide +kernel) rfl⟩
theorem mlX4_27 : tw_mL RX4 27 yX5_init := Or.inr ⟨"TermMarks", tw_in_NB 72 (by decide +kernel) rfl⟩
theorem mlX4_40 : tw_mL RX4 40 yX4_hasSlot := Or.inl (tw_in_TB 549 (by decide +kernel) rfl)
theorem mlX4_44 : tw_mL RX4 44 yX0_copyFrom := Or.inl (tw_in_TB 244 (by decide +kernel) rfl)
theorem mlX4_48 : tw_mL RX4 48 yX4_isTaken := Or.inl (tw_in_TB 562 (by decide +kernel) rfl)
theorem mlX4_51 : tw_mL RX4 51 yX7_isForm := Or.inl (tw_in_TB 518 (by decide +kernel) rfl)
theorem mlX4_54 : tw_mL RX4 54 yX7_hasForms := Or.inl (tw_in_TB 523 (by decide +kernel) rfl)
theorem mlX4_57 : tw_mL RX4 57 yX7_baseOf := Or.inl (tw_in_TB 312 (by decide +kernel) rfl)
theorem mlX4_61 : tw_mL RX4 61 yX7_putBase := Or.inl (tw_in_TB 527 (by decide +kernel) rfl)
theorem mlX4_65 : tw_mL RX4 65 yX5_twoAreAlike := Or.inl (tw_in_TB 532 (by decide +kernel) rfl)
theorem mlX4_69 : tw_mL RX4 69 yX5_lengthOf := Or.inl (tw_in_TB 299 (by decide +kernel) rfl)
theorem mlX4_72 : tw_mL RX4 72 yX0_lengthOf := Or.inl (tw_in_TB 307 (by decide +kernel) rfl)
theorem mlX4_73 : tw_mL RX4 73 yX5_wordAt := Or.inl (tw_in_TB 308 (by decide +kernel) rfl)
theorem mlX4_77 : tw_mL RX4 77 yX0_wordAt := Or.inl (tw_in_TB 316 (by decide +kernel) rfl)
theorem mlX4_78 : tw_mL RX4 78 yX4_occursAt := Or.inl (tw_in_TB 303 (by decide +kernel) rfl)
theorem mlX4_82 : tw_mL RX4 82 yX5_size := Or.inl (tw_in_TB 298 (by decide +kernel) rfl)
theorem mlX4_86 : tw_mL RX4 86 yX4_occursWithin := Or.inl (tw_in_TB 608 (by decide +kernel) rfl)
theorem mlX4_89 : tw_mL RX4 89 yX7_copyFrom := Or.inl (tw_in_TB 237 (by decide +kernel) rfl)
theorem mlX4_92 : tw_mL RX4 92 yX5_copyFrom := Or.inl (tw_in_TB 249 (by decide +kernel) rfl)
theorem mlX5_28 : tw_mL RX5 28 yX5_has := Or.inl (tw_in_TB 333 (by decide +kernel) rfl)
theorem mlX5_38 : tw_mL RX5 38 yX5_sameBases := Or.inl (tw_in_TB 486 (by decide +kernel) rfl)
theorem mlX5_42 : tw_mL RX5 42 yX7_baseOf := Or.inl (tw_in_TB 489 (by decide +kernel) rfl)
theorem mlX7_23 : tw_mL RX7 23 yX7_add := Or.inl (tw_in_TB 39 (by decide +kernel) rfl)
theorem mlX7_27 : tw_mL RX7 27 yX7_has := Or.inl (tw_in_TB 531 (by decide +kernel) rfl)
theorem mlX7_31 : tw_mL RX7 31 yX7_baseOf := Or.inl (tw_in_TB 522 (by decide +kernel) rfl)
theorem mlL_13 : tw_mL RL 13 yX8_count := Or.inl (tw_in_TB 254 (by decide +kernel) rfl)
theorem mlL_19 : tw_mL RL 19 yX8_place := Or.inl (tw_in_TB 367 (by decide +kernel) rfl)
theorem mlL_23 : tw_mL RL 23 yX8_term := Or.inl (tw_in_TB 395 (by decide +kernel) rfl)
theorem mlL_27 : tw_mL RL 27 yX8_base := Or.inl (tw_in_TB 415 (by decide +kernel) rfl)
theorem mlL_30 : tw_mL RL 30 yL_print := Or.inl (tw_in_TB 362 (by decide +kernel) rfl)
theorem mlL_36 : tw_mL RL 36 yX8_insert := Or.inl (tw_in_TB 427 (by decide +kernel) rfl)
theorem mlL_39 : tw_mL RL 39 yX8_delete := Or.inl (tw_in_TB 445 (by decide +kernel) rfl)
theorem mlL_42 : tw_mL RL 42 yX8_replace := Or.inl (tw_in_TB 454 (by decide +kernel) rfl)
theorem mlL_45 : tw_mL RL 45 yX8_swap := Or.inl (tw_in_TB 462 (by decide +kernel) rfl)
theorem mlL_48 : tw_mL RL 48 yX8_addTerm := Or.inl (tw_in_TB 470 (by decide +kernel) rfl)
theorem mlL_52 : tw_mL RL 52 yX8_removeTerm := Or.inl (tw_in_TB 494 (by decide +kernel) rfl)
theorem mlL_55 : tw_mL RL 55 yX8_setQuiet := Or.inl (tw_in_TB 502 (by decide +kernel) rfl)
theorem mlL_58 : tw_mL RL 58 yX8_setBase := Or.inl (tw_in_TB 510 (by decide +kernel) rfl)
theorem mlL_61 : tw_mL RL 61 yX8_take := Or.inl (tw_in_TB 537 (by decide +kernel) rfl)
theorem mlL_64 : tw_mL RL 64 yX8_restore := Or.inl (tw_in_TB 550 (by decide +kernel) rfl)
theorem mlL_67 : tw_mL RL 67 yX8_append := Or.inl (tw_in_TB 563 (by decide +kernel) rfl)
theorem mlL_70 : tw_mL RL 70 yX8_letter := Or.inl (tw_in_TB 571 (by decide +kernel) rfl)
theorem mlL_73 : tw_mL RL 73 yX8_firstUse := Or.inl (tw_in_TB 579 (by decide +kernel) rfl)
theorem mlL_76 : tw_mL RL 76 yX8_mark := Or.inl (tw_in_TB 587 (by decide +kernel) rfl)
theorem mlL_79 : tw_mL RL 79 yX8_why := Or.inl (tw_in_TB 595 (by decide +kernel) rfl)
theorem mlL_82 : tw_mL RL 82 yX8_nested := Or.inl (tw_in_TB 600 (by decide +kernel) rfl)
theorem mlL_85 : tw_mL RL 85 yX8_gain := Or.inl (tw_in_TB 612 (by decide +kernel) rfl)
theorem mlL_88 : tw_mL RL 88 yL_size := Or.inl (tw_in_TB 623 (by decide +kernel) rfl)
theorem mlL_92 : tw_mL RL 92 yL_marksIn := Or.inl (tw_in_TB 620 (by decide +kernel) rfl)
theorem mlL_96 : tw_mL RL 96 yL_low := Or.inl (tw_in_TB 358 (by decide +kernel) rfl)
theorem mlL_99 : tw_mL RL 99 yX8_undo := Or.inl (tw_in_TB 221 (by decide +kernel) rfl)
theorem mlL_103 : tw_mL RL 103 yX8_greediest := Or.inl (tw_in_TB 638 (by decide +kernel) rfl)
theorem mlL_106 : tw_mL RL 106 yX8_init := Or.inl (tw_in_TB 21 (by decide +kernel) rfl)
theorem mlL_107 : tw_mL RL 107 yL_refused := Or.inl (tw_in_TB 424 (by decide +kernel) rfl)
theorem mlL_111 : tw_mL RL 111 yL_areReadings := Or.inl (tw_in_TB 617 (by decide +kernel) rfl)
theorem mlL_114 : tw_mL RL 114 yL_areBases := Or.inl (tw_in_TB 629 (by decide +kernel) rfl)
theorem mlL_117 : tw_mL RL 117 yL_cell := Or.inl (tw_in_TB 354 (by decide +kernel) rfl)
theorem mlL_122 : tw_mL RL 122 yL_acts := Or.inl (tw_in_TB 642 (by decide +kernel) rfl)
theorem mlL_125 : tw_mL RL 125 yL_areReasons := Or.inl (tw_in_TB 626 (by decide +kernel) rfl)
theorem mlL_129 : tw_mL RL 129 yL_isGain := Or.inl (tw_in_TB 632 (by decide +kernel) rfl)
theorem mlL_132 : tw_mL RL 132 yL_isGreediest := Or.inl (tw_in_TB 635 (by decide +kernel) rfl)
