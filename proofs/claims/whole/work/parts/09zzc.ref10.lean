/-! the reference: occurrences -/
section RFU
variable {h : tm_H} {b : Nat} {C : Nat → Nat → Int} {J : Nat → Int}
/-- the reference's occurring is the state's -/
theorem tn_or_oc {t c p : Int} (ht : 0 ≤ t ∧ t < 12) : tn_or C t c p ↔ tn_oc (tn_row (C 0) (C 4)) t c p := by
  have rl : tn_rl C t = C 0 (308 + 6 * t).toNat := if_neg (by omega)
  have rt : ∀ k, tn_rt C t k = C 0 (309 + 6 * t + k).toNat := fun k => if_neg (by omega)
  unfold tn_or tn_oc
  rw [rl]
  constructor
  · rintro ⟨y1, y2⟩
    exact ⟨y1, fun k k0 k1 => by have := y2 k k0 k1; rw [rt] at this; exact this⟩
  · rintro ⟨y1, y2⟩
    exact ⟨y1, fun k k0 k1 => by rw [rt]; exact y2 k k0 k1⟩
theorem tx9_ocs_l (H : tn_E h b C J) (ok : tn_ok (tn_row (C 0) (C 4))) (hn : C 0 307 ≤ 12) {t : Int} (ht : 0 ≤ t ∧ t < C 0 307) : ∀ (m : Nat) (c p : Int), 0 ≤ c → c < 6 → 0 ≤ p → p ≤ tn_sz (tn_row (C 0) (C 4)) c → (300 - 41 * c - p).toNat = m → fX9_occurrences_L13 b t h (tn_ot (tn_row (C 0) (C 4)) t c + tn_ob (tn_row (C 0) (C 4)) t c p) c p = some (tn_ot (tn_row (C 0) (C 4)) t 6) := by
  intro m
  induction m using Nat.strongRecOn with
  | _ m ih =>
    intro c p c0 c1 p0 p1 hm
    have s1 := ok.c (c := c) ⟨c0, c1⟩
    have s2 := tn_ob_rg (s := tn_row (C 0) (C 4)) (t := t) (c := c) p0
    have s3 := tn_ot_rg ok (t := t) c0 (by omega)
    have szd : C 0 (61 + 41 * c).toNat = tn_sz (tn_row (C 0) (C 4)) c := rfl
    rw [fX9_occurrences_L13_eq, tx9_size H ⟨c0, c1⟩, Option.bind_some, szd]
    by_cases c2 : p < tn_sz (tn_row (C 0) (C 4)) c
    · rw [if_pos c2, tx9_occurs H ok (tn_tok2_of ok hn ht) ⟨c0, c1⟩ ⟨p0, by omega⟩, Option.bind_some, fX9_occurrences_L40_eq, fX9_occurrences_L40_eq, tm_wr_id (z := p + 1) (by omega) (by omega), tn_bc (tn_or_oc (c := c) (p := p) (t := t) (C := C) (by omega)), tm_wr_id (by omega) (by omega), tm_wr_id (by omega) (by omega)]
      have q := ih (300 - 41 * c - (p + 1)).toNat (by omega) c (p + 1) c0 c1 (by omega) (by omega) rfl
      rw [show tn_ob (tn_row (C 0) (C 4)) t c (p + 1) = tn_ob (tn_row (C 0) (C 4)) t c p + tn_b (tn_oc (tn_row (C 0) (C 4)) t c p) from tn_sm_su p0, ← Int.add_assoc] at q
      by_cases c3 : tn_oc (tn_row (C 0) (C 4)) t c p
      · rw [tn_b1 c3] at q
        rw [tn_b1 c3, if_neg (by omega)]
        exact q
      · rw [tn_b0 c3] at q
        rw [tn_b0 c3, if_pos rfl]
        exact q
    · rw [if_neg c2, tm_wr_id (z := c + 1) (by omega) (by omega), fX9_occurrences_L4_eq]
      have nt1 : tn_ot (tn_row (C 0) (C 4)) t (c + 1) = tn_ot (tn_row (C 0) (C 4)) t c + tn_ob (tn_row (C 0) (C 4)) t c p := by rw [show p = tn_sz (tn_row (C 0) (C 4)) c by omega]; exact tn_sm_su c0
      rw [← nt1]
      by_cases c4 : c + 1 < 6
      · rw [if_pos c4]
        have s4 := ok.c (c := c + 1) ⟨by omega, c4⟩
        have q := ih (300 - 41 * (c + 1) - 0).toNat (by omega) (c + 1) 0 (by omega) c4 (by omega) s4.1 rfl
        rw [show tn_ob (tn_row (C 0) (C 4)) t (c + 1) 0 = 0 from rfl, Int.add_zero] at q
        exact q
      · rw [if_neg c4, show c + 1 = 6 by omega]
theorem tx9_occurrences (H : tn_E h b C J) (ok : tn_ok (tn_row (C 0) (C 4))) (hn : C 0 307 ≤ 12) {t : Int} (ht : 0 ≤ t ∧ t < C 0 307) : fX9_occurrences b t h = some (tn_ot (tn_row (C 0) (C 4)) t 6) := by
  simp only [fX9_occurrences, tn_th H.1]
  rw [fX9_occurrences_L4_eq, if_pos (by omega)]
  exact tx9_ocs_l H ok hn ht _ 0 0 (by omega) (by omega) (by omega) (ok.c (c := 0) (by omega)).1 rfl
end RFU
