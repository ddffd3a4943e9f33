/-! the bytes of a spelling -/
theorem tn_lshl8 (X : Int64) : ∀ m : Nat, m < 8 → (tm_lshl X (tm_wr ((m : Int) * 8))).toBitVec = X.toBitVec <<< (8 * m) := by
  intro m hm
  have : m = 0 ∨ m = 1 ∨ m = 2 ∨ m = 3 ∨ m = 4 ∨ m = 5 ∨ m = 6 ∨ m = 7 := by omega
  rcases this with k | k | k | k | k | k | k | k <;> subst k <;> rfl
theorem tn_spl_bit (f : Int → Int) : ∀ (m : Nat), m ≤ 8 → ∀ j, (tn_spl f 0 m).toBitVec.getLsbD j = decide (∃ k, k < m ∧ j < 64 ∧ 8 * k ≤ j ∧ (tm_i2l (f k)).toBitVec.getLsbD (j - 8 * k) = true)
  | 0, _, j => by
    simp [tn_spl]
  | m + 1, hm, j => by
    have ih := tn_spl_bit f m (by omega) j
    simp only [tn_spl]
    rw [Int64.toBitVec_or, BitVec.getLsbD_or, ih, tn_lshl8 _ m (by omega), BitVec.getLsbD_shiftLeft, Int.zero_add]
    rw [Bool.eq_iff_iff]
    simp only [Bool.or_eq_true, Bool.and_eq_true, Bool.not_eq_true', decide_eq_true_eq, decide_eq_false_iff_not]
    constructor
    · rintro (⟨k, k0, k1, k2, k3⟩ | ⟨⟨k0, k1⟩, k2⟩)
      · exact ⟨k, by omega, k1, k2, k3⟩
      · exact ⟨m, by omega, k0, by omega, k2⟩
    · rintro ⟨k, k0, k1, k2, k3⟩
      by_cases c : k = m
      · subst c
        exact Or.inr ⟨⟨k1, by omega⟩, k3⟩
      · exact Or.inl ⟨k, by omega, k1, k2, k3⟩
/-- a character's bits lie below 8 -/
theorem tn_chr_bit {v : Int} (h : 0 ≤ v ∧ v < 256) (j : Nat) : (tm_i2l v).toBitVec.getLsbD j = (decide (j < 8) && v.toNat.testBit j) := by
  obtain ⟨n, rfl⟩ : ∃ n : Nat, v = n := ⟨v.toNat, by omega⟩
  have e : (tm_i2l (n : Int)).toBitVec = BitVec.ofNat 64 n := by
    apply BitVec.eq_of_toInt_eq
    unfold tm_i2l
    show (Int32.toInt64 (Int32.ofInt n)).toInt = _
    rw [Int32.toInt_toInt64, Int32.toInt_ofInt, BitVec.toInt_eq_toNat_bmod, BitVec.toNat_ofNat, Nat.mod_eq_of_lt (by omega), show Int32.size = 4294967296 from rfl]
    simp only [Int.bmod]
    omega
  rw [e, BitVec.getLsbD_ofNat, Int.toNat_natCast]
  by_cases c : j < 8
  · rw [decide_eq_true c, decide_eq_true (show j < 64 by omega)]
  · have : n.testBit j = false := Nat.testBit_lt_two_pow (Nat.lt_of_lt_of_le (show n < 2 ^ 8 by omega) (Nat.pow_le_pow_right (by omega) (by omega)))
    rw [this, Bool.and_false, Bool.and_false]
/-- letter by letter -/
theorem tn_spl_at {f : Int → Int} (hf : ∀ k : Int, 0 ≤ k → k < 8 → 0 ≤ f k ∧ f k < 256) {i : Nat} (hi : i < 8) (j : Nat) (hj : j < 8) : (tn_spl f 0 8).toBitVec.getLsbD (8 * i + j) = (f i).toNat.testBit j := by
  rw [tn_spl_bit f 8 (by omega)]
  rw [Bool.eq_iff_iff, decide_eq_true_eq]
  constructor
  · rintro ⟨k, k0, k1, k2, k3⟩
    rw [tn_chr_bit (hf k (by omega) (by omega))] at k3
    rw [Bool.and_eq_true, decide_eq_true_eq] at k3
    have : k = i := by omega
    subst this
    rw [show 8 * k + j - 8 * k = j by omega] at k3
    exact k3.2
  · intro h
    refine ⟨i, hi, by omega, by omega, ?_⟩
    rw [tn_chr_bit (hf i (by omega) (by omega)), show 8 * i + j - 8 * i = j by omega, h, decide_eq_true hj]
    rfl
theorem tn_by_bv (S : Int64) {i : Nat} (hi : i < 8) : tn_by S i = ((S.toBitVec >>> (8 * i)).setWidth 32 &&& 255#32).toInt := by
  have : i = 0 ∨ i = 1 ∨ i = 2 ∨ i = 3 ∨ i = 4 ∨ i = 5 ∨ i = 6 ∨ i = 7 := by omega
  unfold tn_by tm_and tm_l2i
  rw [Int32.ofInt_toInt]
  show (((tm_lushr S (tm_wr ((i : Int) * 8))).toInt32 &&& Int32.ofInt 255).toBitVec).toInt = _
  rw [Int32.toBitVec_and, Int64.toBitVec_toInt32, BitVec.signExtend_eq_setWidth_of_le _ (by omega)]
  rcases this with k | k | k | k | k | k | k | k <;> subst k <;> rfl
theorem tn_by_spl {f : Int → Int} (hf : ∀ k : Int, 0 ≤ k → k < 8 → 0 ≤ f k ∧ f k < 256) {i : Int} (hi : 0 ≤ i ∧ i < 8) : tn_by (tn_spl f 0 8) i = f i := by
  obtain ⟨n, rfl⟩ : ∃ n : Nat, i = n := ⟨i.toNat, by omega⟩
  have hn : n < 8 := by omega
  rw [tn_by_bv _ hn]
  have fr := hf n (by omega) (by omega)
  have e : ((tn_spl f 0 8).toBitVec >>> (8 * n)).setWidth 32 &&& 255#32 = BitVec.ofNat 32 (f n).toNat := by
    apply BitVec.eq_of_getLsbD_eq
    intro j hj
    rw [BitVec.getLsbD_and, BitVec.getLsbD_setWidth, BitVec.getLsbD_ushiftRight, BitVec.getLsbD_ofNat, BitVec.getLsbD_ofNat]
    by_cases c : j < 8
    · rw [tn_spl_at hf hn j c]
      have : Nat.testBit 255 j = true := by
        have : j = 0 ∨ j = 1 ∨ j = 2 ∨ j = 3 ∨ j = 4 ∨ j = 5 ∨ j = 6 ∨ j = 7 := by omega
        rcases this with k | k | k | k | k | k | k | k <;> subst k <;> rfl
      rw [this]
      simp [hj]
    · have h1 : Nat.testBit 255 j = false := Nat.testBit_lt_two_pow (Nat.lt_of_lt_of_le (show 255 < 2 ^ 8 by omega) (Nat.pow_le_pow_right (by omega) (by omega)))
      have h2 : (f n).toNat.testBit j = false := Nat.testBit_lt_two_pow (Nat.lt_of_lt_of_le (show (f n).toNat < 2 ^ 8 by omega) (Nat.pow_le_pow_right (by omega) (by omega)))
      rw [h1, h2]
      simp
  rw [e, BitVec.toInt_eq_toNat_bmod, BitVec.toNat_ofNat, Nat.mod_eq_of_lt (by omega)]
  simp only [Int.bmod]
  omega
theorem tn_spl_cg {f g : Int → Int} {a c : Int} : ∀ {m : Nat}, (∀ k : Nat, k < m → f (a + k) = g (c + k)) → tn_spl f a m = tn_spl g c m
  | 0, _ => rfl
  | m + 1, e => by
    simp only [tn_spl]
    rw [tn_spl_cg (m := m) (fun k hk => e k (by omega)), e m (by omega)]
/-- spellings are the same where the letters are -/
theorem tn_spl_eq {f g : Int → Int} (hf : ∀ k : Int, 0 ≤ k → k < 8 → 0 ≤ f k ∧ f k < 256) (hg : ∀ k : Int, 0 ≤ k → k < 8 → 0 ≤ g k ∧ g k < 256) : tn_spl f 0 8 = tn_spl g 0 8 ↔ ∀ k : Int, 0 ≤ k → k < 8 → f k = g k := by
  constructor
  · intro e k k0 k1
    rw [← tn_by_spl hf ⟨k0, k1⟩, ← tn_by_spl hg ⟨k0, k1⟩, e]
  · intro e
    exact tn_spl_cg (fun k hk => by rw [Int.zero_add]; exact e k (by omega) (by omega))
theorem tn_lshl0 : ∀ m : Nat, m < 8 → tm_lshl (tm_i2l 0) (tm_wr ((m : Int) * 8)) = 0 := by
  intro m hm
  have : m = 0 ∨ m = 1 ∨ m = 2 ∨ m = 3 ∨ m = 4 ∨ m = 5 ∨ m = 6 ∨ m = 7 := by omega
  rcases this with k | k | k | k | k | k | k | k <;> subst k <;> decide
/-- a short word's spelling, with nothing behind its letters -/
theorem tn_spl_0 (x : Int → Int) (st : Int) {n : Nat} : ∀ m : Nat, n ≤ m → m ≤ 8 → tn_spl (fun i => if i < n then x (st + i) else 0) 0 m = tn_spl x st n
  | 0, h, _ => by
    have : n = 0 := by omega
    subst this; rfl
  | m + 1, h, h8 => by
    by_cases c : n = m + 1
    · rw [c]
      exact tn_spl_cg (fun k hk => by rw [Int.zero_add, if_pos (by omega)])
    · simp only [tn_spl]
      rw [tn_spl_0 x st m (by omega) (by omega), Int.zero_add, if_neg (by omega), tn_lshl0 m (by omega)]
      refine Int64.toBitVec_inj.mp ?_
      rw [Int64.toBitVec_or]
      simp
