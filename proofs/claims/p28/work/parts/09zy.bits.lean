/-! bits of a set of terms -/
def tn_bit (x t : Int) : Int := tm_and (tm_shr x t) 1
theorem tn_bit0 {t : Int} (h : 0 ≤ t ∧ t ≤ 12) : tn_bit 0 t = 0 := by
  have : t = 0 ∨ t = 1 ∨ t = 2 ∨ t = 3 ∨ t = 4 ∨ t = 5 ∨ t = 6 ∨ t = 7 ∨ t = 8 ∨ t = 9 ∨ t = 10 ∨ t = 11 ∨ t = 12 := by omega
  rcases this with k | k | k | k | k | k | k | k | k | k | k | k | k <;> subst k <;> decide
theorem tn_bv (X : BitVec 32) (t u : Nat) (ht : t < 32) (hu : u < 32) : (((X ||| (1#32 <<< u)).sshiftRight t) &&& 1#32) = if t = u then 1#32 else ((X.sshiftRight t) &&& 1#32) := by
  apply BitVec.eq_of_getLsbD_eq
  intro i hi
  by_cases i0 : i = 0
  · subst i0
    by_cases c : t = u
    · subst c
      simp [BitVec.getLsbD_sshiftRight, BitVec.getLsbD_or, ht]
    · rw [if_neg c]
      simp [BitVec.getElem_sshiftRight, BitVec.getElem_or, BitVec.getElem_shiftLeft, ht]
      omega
  · by_cases c : t = u
    · rw [if_pos c]
      simp [BitVec.getLsbD_one, i0]
    · rw [if_neg c]
      simp [BitVec.getLsbD_one, i0]
theorem tn_shr32 (X : Int32) {t : Int} (h : 0 ≤ t ∧ t ≤ 12) : (X >>> (Int32.ofInt t &&& 31)).toBitVec = X.toBitVec.sshiftRight t.toNat := by
  have : t = 0 ∨ t = 1 ∨ t = 2 ∨ t = 3 ∨ t = 4 ∨ t = 5 ∨ t = 6 ∨ t = 7 ∨ t = 8 ∨ t = 9 ∨ t = 10 ∨ t = 11 ∨ t = 12 := by omega
  rcases this with k | k | k | k | k | k | k | k | k | k | k | k | k <;> subst k <;> rfl
theorem tn_shl32 {t : Int} (h : 0 ≤ t ∧ t ≤ 12) : (Int32.ofInt 1 <<< (Int32.ofInt t &&& 31)).toBitVec = 1#32 <<< t.toNat := by
  have : t = 0 ∨ t = 1 ∨ t = 2 ∨ t = 3 ∨ t = 4 ∨ t = 5 ∨ t = 6 ∨ t = 7 ∨ t = 8 ∨ t = 9 ∨ t = 10 ∨ t = 11 ∨ t = 12 := by omega
  rcases this with k | k | k | k | k | k | k | k | k | k | k | k | k <;> subst k <;> decide
theorem tn_bit_or (x : Int) {t u : Int} (ht : 0 ≤ t ∧ t ≤ 12) (hu : 0 ≤ u ∧ u ≤ 12) : tn_bit (tm_or x (tm_shl 1 u)) t = if t = u then 1 else tn_bit x t := by
  have q := tn_bv (Int32.ofInt x).toBitVec t.toNat u.toNat (by omega) (by omega)
  have l : tn_bit (tm_or x (tm_shl 1 u)) t = (((Int32.ofInt x).toBitVec ||| (1#32 <<< u.toNat)).sshiftRight t.toNat &&& 1#32).toInt := by
    unfold tn_bit tm_and tm_shr tm_or tm_shl
    rw [Int32.ofInt_toInt, Int32.ofInt_toInt, Int32.ofInt_toInt]
    show ((((Int32.ofInt x ||| (Int32.ofInt 1 <<< (Int32.ofInt u &&& 31))) >>> (Int32.ofInt t &&& 31)) &&& Int32.ofInt 1).toBitVec).toInt = _
    rw [Int32.toBitVec_and, tn_shr32 _ ht, Int32.toBitVec_or, tn_shl32 hu]
    rfl
  have r : tn_bit x t = ((Int32.ofInt x).toBitVec.sshiftRight t.toNat &&& 1#32).toInt := by
    unfold tn_bit tm_and tm_shr
    rw [Int32.ofInt_toInt]
    show (((Int32.ofInt x >>> (Int32.ofInt t &&& 31)) &&& Int32.ofInt 1).toBitVec).toInt = _
    rw [Int32.toBitVec_and, tn_shr32 _ ht]
    rfl
  rw [l, r, q]
  by_cases c : t = u
  · rw [if_pos c, if_pos (by omega)]; rfl
  · rw [if_neg c, if_neg (by omega)]
