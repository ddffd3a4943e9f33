/-! the reference: where terms occur, the longest -/
section RFS
variable {h : tm_H} {b : Nat} {C : Nat → Nat → Int} {J : Nat → Int}
def tn_or (C : Nat → Nat → Int) (t c p : Int) : Prop := p + tn_rl C t ≤ C 0 (61 + 41 * c).toNat ∧ ∀ k : Int, 0 ≤ k → k < tn_rl C t → C 0 (1 + C 0 (62 + 41 * c + (p + k)).toNat).toNat = C 0 (1 + tn_rt C t k).toNat
theorem tx9_occ_l (H : tn_E h b C J) (ok : tn_ok (tn_row (C 0) (C 4))) {t c p : Int} (ht : tn_tok2 C t) (hc : 0 ≤ c ∧ c < 6) (hp : 0 ≤ p) (hs : p + tn_rl C t ≤ C 0 (61 + 41 * c).toNat) : ∀ (m : Nat) (k : Int), 0 ≤ k → k ≤ tn_rl C t → (tn_rl C t - k).toNat = m → fX9_occurs_L26 b t c p h 1 k = some (tn_b (∀ i : Int, k ≤ i → i < tn_rl C t → C 0 (1 + C 0 (62 + 41 * c + (p + i)).toNat).toNat = C 0 (1 + tn_rt C t i).toNat)) := by
  obtain ⟨t0, t1, t2, t3, t4⟩ := ht
  have sz : C 0 (61 + 41 * c).toNat ≤ 40 := (ok.c hc).2
  intro m
  induction m with
  | zero =>
    intro k k0 k1 hm
    rw [fX9_occurs_L26_eq, tx9_len H ⟨t0, t1⟩, Option.bind_some, if_neg (by omega), show tm_zr 1 = some 1 from rfl, Option.bind_some, tn_b1]
    intro i i0 i1; omega
  | succ m ih =>
    intro k k0 k1 hm
    have zer : fX9_occurs_L26 b t c p h 0 (k + 1) = some 0 := by
      rw [fX9_occurs_L26_eq, tx9_len H ⟨t0, t1⟩, Option.bind_some]
      by_cases c : k + 1 < tn_rl C t
      · rw [if_pos c, if_pos rfl]; rfl
      · rw [if_neg c]; rfl
    rw [fX9_occurs_L26_eq, tx9_len H ⟨t0, t1⟩, Option.bind_some, if_pos (by omega), if_neg (by omega), tm_wr_id (z := p + k) (by omega) (by omega), tx9_baseAt H ok hc ⟨by omega, by omega⟩, Option.bind_some, H.g.1, Option.bind_some, tm_wr_id (z := k + 1) (by omega) (by omega), tx9_wrd H ⟨t0, t1⟩ (by omega), Option.bind_some, tx9_bas H (t4 k k0 (by omega)), Option.bind_some, fX9_occurs_L75_eq, fX9_occurs_L75_eq, tm_wr_id (by omega) (by omega)]
    change (if C 0 (1 + C 0 (62 + 41 * c + (p + k)).toNat).toNat = C 0 (1 + tn_rt C t k).toNat then _ else _) = _
    by_cases e : C 0 (1 + C 0 (62 + 41 * c + (p + k)).toNat).toNat = C 0 (1 + tn_rt C t k).toNat
    · rw [if_pos e, ih (k + 1) (by omega) (by omega) (by omega), tn_bc]
      refine ⟨fun y i i0 i1 => ?_, fun y i i0 i1 => y i (by omega) i1⟩
      by_cases z : i = k
      · rw [z]; exact e
      · exact y i (by omega) i1
    · rw [if_neg e, zer, tn_b0]
      intro y
      exact e (y k (by omega) (by omega))
theorem tx9_occurs (H : tn_E h b C J) (ok : tn_ok (tn_row (C 0) (C 4))) {t c p : Int} (ht : tn_tok2 C t) (hc : 0 ≤ c ∧ c < 6) (hp : 0 ≤ p ∧ p ≤ 40) : fX9_occurs b t c p h = some (tn_b (tn_or C t c p)) := by
  have ht0 := ht
  obtain ⟨t0, t1, t2, t3, t4⟩ := ht
  simp only [fX9_occurs, tn_th H.1, tx9_len H ⟨t0, t1⟩, tx9_size H hc, Option.bind_some]
  rw [tm_wr_id (by omega) (by omega)]
  unfold tn_or
  by_cases e : C 0 (61 + 41 * c).toNat < p + tn_rl C t
  · rw [if_pos e]
    simp only [fX9_occurs_L21]
    rw [fX9_occurs_L26_eq, tx9_len H ⟨t0, t1⟩, Option.bind_some, if_pos (by omega), if_pos rfl, tn_b0 (fun y => by omega)]
    rfl
  · rw [if_neg e]
    simp only [fX9_occurs_L21]
    rw [tx9_occ_l H ok ht0 hc hp.1 (by omega) _ 0 (by omega) (by omega) rfl, tn_bc]
    exact ⟨fun y => ⟨by omega, y⟩, fun y => y.2⟩
/-- the terms that are looked for: all but one, and the tried one if it is wanted -/
def tn_cd (C : Nat → Nat → Int) (wo wt t : Int) : Prop := if t = 12 then wt ≠ 0 else t < C 0 307 ∧ t ≠ wo
theorem tx9_long_l (H : tn_E h b C J) (ok : tn_ok (tn_row (C 0) (C 4))) (hn : C 0 307 ≤ 12) {c p wo wt : Int} (hc : 0 ≤ c ∧ c < 6) (hp : 0 ≤ p ∧ p ≤ 40) (h12 : wt ≠ 0 → tn_tok2 C 12) : ∀ (m : Nat) (k x : Int), 0 ≤ k → k ≤ 13 → tn_lg k (fun t => tn_cd C wo wt t ∧ tn_or C t c p) (tn_rl C) x → (13 - k).toNat = m → ∃ r, fX9_longest_L7 b c p wo wt h x k = some r ∧ tn_lg 13 (fun t => tn_cd C wo wt t ∧ tn_or C t c p) (tn_rl C) r := by
  intro m
  induction m with
  | zero =>
    intro k x k0 k1 hx hm
    refine ⟨x, ?_, by rw [show (13 : Int) = k by omega]; exact hx⟩
    rw [fX9_longest_L7_eq, if_pos (by omega)]
  | succ m ih =>
    intro k x k0 k1 hx hm
    have no : ¬ (tn_cd C wo wt k ∧ tn_or C k c p) → tn_lg (k + 1) (fun t => tn_cd C wo wt t ∧ tn_or C t c p) (tn_rl C) x := fun nk => by
      rcases hx with ⟨b1, b2⟩ | ⟨b1, b2, b3, b4⟩
      · refine Or.inl ⟨b1, fun t t0 t1 => ?_⟩
        by_cases ct : t = k
        · rw [ct]; exact nk
        · exact b2 t t0 (by omega)
      · refine Or.inr ⟨b1, by omega, b3, fun t t0 t1 ht => ?_⟩
        by_cases ct : t = k
        · rw [ct] at ht; exact absurd ht nk
        · exact b4 t t0 (by omega) ht
    have go : ∀ y, tn_lg (k + 1) (fun t => tn_cd C wo wt t ∧ tn_or C t c p) (tn_rl C) y → ∃ r, fX9_longest_L101 b c p wo wt h y k = some r ∧ tn_lg 13 (fun t => tn_cd C wo wt t ∧ tn_or C t c p) (tn_rl C) r := fun y hy => by
      rw [fX9_longest_L101_eq, tm_wr_id (by omega) (by omega)]
      exact ih (k + 1) y (by omega) (by omega) hy (by omega)
    have f0 : ¬ tn_cd C wo wt k → ∃ r, fX9_longest_L50 b c p wo wt h x k 0 = some r ∧ tn_lg 13 (fun t => tn_cd C wo wt t ∧ tn_or C t c p) (tn_rl C) r := fun nk => by
      rw [fX9_longest_L50_eq, if_pos rfl]
      exact go x (no (fun y => nk y.1))
    have f1 : ∀ v : Int, v ≠ 0 → tn_cd C wo wt k → tn_tok2 C k → ∃ r, fX9_longest_L50 b c p wo wt h x k v = some r ∧ tn_lg 13 (fun t => tn_cd C wo wt t ∧ tn_or C t c p) (tn_rl C) r := fun v hv ck tk => by
      rw [fX9_longest_L50_eq, if_neg hv, tx9_occurs H ok tk hc hp, Option.bind_some]
      by_cases o : tn_or C k c p
      · rw [tn_b1 o, if_neg (by omega), fX9_longest_L92_eq, fX9_longest_L99_eq]
        have nw : (∀ t : Int, 0 ≤ t → t < k → tn_cd C wo wt t ∧ tn_or C t c p → tn_rl C t < tn_rl C k) → tn_lg (k + 1) (fun t => tn_cd C wo wt t ∧ tn_or C t c p) (tn_rl C) k := fun hh => Or.inr ⟨k0, by omega, ⟨ck, o⟩, fun t t0 t1 ht => by
          by_cases ct : t = k
          · exact Or.inr ⟨by rw [ct], by omega⟩
          · exact Or.inl (hh t t0 (by omega) ht)⟩
        by_cases c1 : x = -99
        · rw [if_pos c1]
          refine go k (nw (fun t t0 t1 ht => ?_))
          rcases hx with ⟨b1, b2⟩ | ⟨b1, b2, b3, b4⟩
          · exact absurd ht (b2 t t0 t1)
          · omega
        · rcases hx with ⟨b1, b2⟩ | ⟨b1, b2, b3, b4⟩
          · exact absurd b1 c1
          · rw [if_neg c1, tx9_len H ⟨tk.1, tk.2.1⟩, Option.bind_some, tx9_len H (t := x) ⟨b1, by omega⟩, Option.bind_some, fX9_longest_L99_eq]
            by_cases c2 : tn_rl C x < tn_rl C k
            · rw [if_pos c2]
              refine go k (nw (fun t t0 t1 ht => ?_))
              rcases b4 t t0 t1 ht with q | q
              · omega
              · omega
            · rw [if_neg c2]
              refine go x (Or.inr ⟨b1, by omega, b3, fun t t0 t1 ht => ?_⟩)
              by_cases ct : t = k
              · rw [ct]
                by_cases cl : tn_rl C k = tn_rl C x
                · exact Or.inr ⟨cl, by omega⟩
                · exact Or.inl (by omega)
              · exact b4 t t0 (by omega) ht
      · rw [tn_b0 o, if_pos rfl]
        exact go x (no (fun y => o y.2))
    rw [fX9_longest_L7_eq, if_neg (by omega)]
    by_cases c12 : k = 12
    · rw [if_pos c12]
      by_cases cw : wt = 0
      · rw [cw] at f0 ⊢
        exact f0 (fun y => by unfold tn_cd at y; rw [if_pos c12] at y; exact y rfl)
      · exact f1 wt cw (by unfold tn_cd; rw [if_pos c12]; exact cw) (by rw [c12]; exact h12 cw)
    · rw [if_neg c12, H.g.1, Option.bind_some, H.l0 (by omega) (by omega), Option.bind_some, show Int.toNat 307 = 307 from rfl, fX9_longest_L49_eq]
      by_cases c2 : k < C 0 307
      · rw [if_pos c2]
        by_cases c3 : k = wo
        · rw [if_pos c3]
          exact f0 (fun y => by unfold tn_cd at y; rw [if_neg c12] at y; exact y.2 c3)
        · rw [if_neg c3]
          exact f1 1 (by omega) (by unfold tn_cd; rw [if_neg c12]; exact ⟨c2, c3⟩) (tn_tok2_of ok hn ⟨k0, c2⟩)
      · rw [if_neg c2]
        exact f0 (fun y => by unfold tn_cd at y; rw [if_neg c12] at y; exact c2 y.1)
theorem tx9_longest (H : tn_E h b C J) (ok : tn_ok (tn_row (C 0) (C 4))) (hn : C 0 307 ≤ 12) {c p wo wt : Int} (hc : 0 ≤ c ∧ c < 6) (hp : 0 ≤ p ∧ p ≤ 40) (h12 : wt ≠ 0 → tn_tok2 C 12) : ∃ r, fX9_longest b c p wo wt h = some r ∧ tn_lg 13 (fun t => tn_cd C wo wt t ∧ tn_or C t c p) (tn_rl C) r := by
  simp only [fX9_longest, tn_th H.1]
  exact tx9_long_l H ok hn hc hp h12 _ 0 (-99) (by omega) (by omega) (Or.inl ⟨rfl, fun t t0 t1 => by omega⟩) rfl
end RFS
