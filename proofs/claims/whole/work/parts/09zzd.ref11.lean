/-! the reference: terms within terms -/
section RFV
variable {h : tm_H} {b : Nat} {C : Nat → Nat → Int} {J : Nat → Int}
theorem tx9_wi_l (H : tn_E h b C J) {x y n i : Int} (hx : tn_tok2 C x) (hy : tn_tok2 C y) (hi : 0 ≤ i) (hl : i + tn_rl C x ≤ tn_rl C y) : ∀ (m : Nat) (k : Int), 0 ≤ k → k ≤ tn_rl C x → (tn_rl C x - k).toNat = m → fX9_nested_L47 b x y h n i 1 (k + 1) = fX9_nested_L110 b x y h n i (tn_b (∀ j : Int, k ≤ j → j < tn_rl C x → C 0 (1 + tn_rt C x j).toNat = C 0 (1 + tn_rt C y (i + j)).toNat)) := by
  obtain ⟨x0, x1, x2, x3, x4⟩ := hx
  obtain ⟨y0, y1, y2, y3, y4⟩ := hy
  intro m
  induction m with
  | zero =>
    intro k k0 k1 hm
    rw [fX9_nested_L47_eq, tx9_len H ⟨x0, x1⟩, Option.bind_some, if_pos (by omega), tn_b1]
    intro j j0 j1; omega
  | succ m ih =>
    intro k k0 k1 hm
    have zer : fX9_nested_L47 b x y h n i 0 (k + 1 + 1) = fX9_nested_L110 b x y h n i 0 := by
      rw [fX9_nested_L47_eq, tx9_len H ⟨x0, x1⟩, Option.bind_some]
      by_cases c : tn_rl C x < k + 1 + 1
      · rw [if_pos c]
      · rw [if_neg c, if_pos rfl]
    rw [fX9_nested_L47_eq, tx9_len H ⟨x0, x1⟩, Option.bind_some, if_neg (by omega), if_neg (by omega), H.g.1, Option.bind_some, tx9_wrd H ⟨x0, x1⟩ (by omega), Option.bind_some, tx9_bas H (x4 k k0 (by omega)), Option.bind_some, Option.bind_some, tm_wr_id (z := i + (k + 1)) (by omega) (by omega), show i + (k + 1) = i + k + 1 by omega, tx9_wrd H ⟨y0, y1⟩ (by omega), Option.bind_some, tx9_bas H (y4 (i + k) (by omega) (by omega)), Option.bind_some, fX9_nested_L102_eq, fX9_nested_L102_eq, tm_wr_id (by omega) (by omega)]
    by_cases c : C 0 (1 + tn_rt C x k).toNat = C 0 (1 + tn_rt C y (i + k)).toNat
    · rw [if_pos c, ih (k + 1) (by omega) (by omega) (by omega)]
      refine congrArg (fun v => fX9_nested_L110 b x y h n i v) (tn_bc ⟨fun z j j0 j1 => ?_, fun z j j0 j1 => z j (by omega) j1⟩)
      by_cases e : j = k
      · rw [e]; exact c
      · exact z j (by omega) j1
    · rw [if_neg c, zer, tn_b0]
      intro z
      exact c (z k (by omega) (by omega))
theorem tx9_nest_l (H : tn_E h b C J) (ok : tn_ok (tn_row (C 0) (C 4))) (hn : C 0 307 ≤ 12) {x y : Int} (hx : 0 ≤ x ∧ x < C 0 307) (hy : 0 ≤ y ∧ y < C 0 307) : ∀ (m : Nat) (k : Int), 0 ≤ k → (k ≤ tn_tl (tn_row (C 0) (C 4)) y - tn_tl (tn_row (C 0) (C 4)) x + 1 ∨ k = 0) → (tn_tl (tn_row (C 0) (C 4)) y - tn_tl (tn_row (C 0) (C 4)) x + 1 - k).toNat = m → fX9_nested_L23 b x y h (tn_sm (fun i => tn_b (tn_wi (tn_row (C 0) (C 4)) x y i)) k.toNat) k = some (tn_sm (fun i => tn_b (tn_wi (tn_row (C 0) (C 4)) x y i)) (tn_tl (tn_row (C 0) (C 4)) y - tn_tl (tn_row (C 0) (C 4)) x + 1).toNat) := by
  have o1 := ok.t hx
  have o2 := ok.t hy
  have rlx : tn_rl C x = tn_tl (tn_row (C 0) (C 4)) x := if_neg (by omega)
  have rly : tn_rl C y = tn_tl (tn_row (C 0) (C 4)) y := if_neg (by omega)
  intro m
  induction m with
  | zero =>
    intro k k0 k1 hm
    rw [fX9_nested_L23_eq, tx9_len H (by omega), Option.bind_some, tx9_len H (by omega), Option.bind_some, rlx, rly, tm_wr_id (by omega) (by omega), if_pos (by omega), show k.toNat = (tn_tl (tn_row (C 0) (C 4)) y - tn_tl (tn_row (C 0) (C 4)) x + 1).toNat by omega]
  | succ m ih =>
    intro k k0 k1 hm
    have r := tn_sm_rg (f := fun i => tn_b (tn_wi (tn_row (C 0) (C 4)) x y i)) (B := 1) (m := k.toNat) (fun i _ _ => tn_b_rg _)
    have q := ih (k + 1) (by omega) (by omega) (by omega)
    rw [tn_sm_su k0] at q
    have w := tx9_wi_l H (n := tn_sm (fun i => tn_b (tn_wi (tn_row (C 0) (C 4)) x y i)) k.toNat) (tn_tok2_of ok hn hx) (tn_tok2_of ok hn hy) k0 (by omega) _ 0 (by omega) (by omega) rfl
    rw [show (0 : Int) + 1 = 1 by omega] at w
    have e : (∀ j : Int, 0 ≤ j → j < tn_rl C x → C 0 (1 + tn_rt C x j).toNat = C 0 (1 + tn_rt C y (k + j)).toNat) ↔ tn_wi (tn_row (C 0) (C 4)) x y k := by
      rw [rlx]
      have rx : ∀ j, tn_rt C x j = C 0 (309 + 6 * x + j).toNat := fun j => if_neg (by omega)
      have ry : ∀ j, tn_rt C y j = C 0 (309 + 6 * y + j).toNat := fun j => if_neg (by omega)
      constructor
      · intro z j j0 j1
        have := z j j0 j1
        rw [rx, ry] at this
        exact this
      · intro z j j0 j1
        rw [rx, ry]
        exact z j j0 j1
    rw [fX9_nested_L23_eq, tx9_len H (by omega), Option.bind_some, tx9_len H (by omega), Option.bind_some, tm_wr_id (by omega) (by omega), if_neg (by omega), w, tn_bc e, fX9_nested_L110_eq, fX9_nested_L121_eq, fX9_nested_L121_eq, tm_wr_id (z := k + 1) (by omega) (by omega), tm_wr_id (by omega) (by omega), tm_wr_id (by omega) (by omega)]
    by_cases c : tn_wi (tn_row (C 0) (C 4)) x y k
    · rw [tn_b1 c] at q ⊢
      rw [if_neg (by omega)]
      exact q
    · rw [tn_b0 c] at q ⊢
      rw [if_pos rfl]
      exact q
theorem tx9_nested (H : tn_E h b C J) (ok : tn_ok (tn_row (C 0) (C 4))) (hn : C 0 307 ≤ 12) (x y : Int) : fX9_nested b x y h = some (sp_nested (tn_row (C 0) (C 4)) x y) := by
  simp only [fX9_nested, tn_th H.1, tx9_isTerm H ok, Option.bind_some]
  unfold sp_nested
  have nt : tn_nT (tn_row (C 0) (C 4)) = C 0 307 := rfl
  rw [nt]
  by_cases c1 : 0 ≤ x ∧ x < C 0 307
  · rw [tn_b1 c1, if_neg (by omega)]
    by_cases c2 : 0 ≤ y ∧ y < C 0 307
    · rw [tn_b1 c2, if_neg (by omega), if_pos (show 0 ≤ x ∧ x < C 0 307 ∧ 0 ≤ y ∧ y < C 0 307 by omega)]
      exact tx9_nest_l H ok hn c1 c2 _ 0 (by omega) (Or.inr rfl) rfl
    · rw [tn_b0 c2, if_pos rfl, if_neg (by omega)]
  · rw [tn_b0 c1, if_pos rfl, if_neg (by omega)]
end RFV
