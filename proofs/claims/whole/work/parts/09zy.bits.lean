/-! bits of a set of terms -/
def tn_bit (x t : Int) : Int := tm_and (tm_shr x t) 1
theorem tn_bit0 {t : Int} (h : 0 ≤ t ∧ t ≤ 12) : tn_bit 0 t = 0 := by
  have : t = 0 ∨ t = 1 ∨ t = 2 ∨ t = 3 ∨ t = 4 ∨ t = 5 ∨ t = 6 ∨ t = 7 ∨ t = 8 ∨ t = 9 ∨ t = 10 ∨ t = 11 ∨ t = 12 := by omega
  rcases this with k | k | k | k | k | k | k | k | k | k | k | k | k <;> subst k <;> decide
theorem tn_bv (X : BitVec 32) (t u : Nat) (ht : t < 32) (hu : u < 32) : (((X ||| (1#32 <<< u)).sshiftRight t) &&& 1#32) = if t = u then 1#32 else ((X.sshiftRight t) &&& 1#32) := by
  apply BitVec.eq_of_getLsbD_eq
  intro i hi
  by_cases i0 : i = 0
  · subst i0
    by_cases c : t = u
    · subst c
      simp [BitVec.getLsbD_sshiftRight, BitVec.getLsbD_or, ht]
    · rw [if_neg c]
      simp [BitVec.getElem_sshiftRight, BitVec.getElem_or, BitVec.getElem_shiftLeft, ht]
      omega
  · by_cases c : t = u
    · rw [if_pos c]
      simp [BitVec.getLsbD_one, i0]
    · rw [if_neg c]
      simp [BitVec.getLsbD_one, i0]
