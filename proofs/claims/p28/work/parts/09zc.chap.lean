/-! chapters -/
/-- the rows of six chapters at a: where each row stands, what is in it -/
def tn_Cr (h : tm_H) (a : Nat) (r : Int → Nat) (F : Int → Nat → Int) (lf : Nat → Int) : Prop :=
  h a = some (.inl (0, [.inr (some (a + 1)), .inr (some (a + 8))])) ∧ (∃ R : Nat → Option Nat, h (a + 1) = some (.inr (5, 6, .inr (.inr R))) ∧ ∀ c : Int, 0 ≤ c → c < 6 → R c.toNat = some (r c)) ∧ h (a + 8) = some (.inr (0, 6, .inl lf)) ∧ (∀ c : Int, 0 ≤ c → c < 6 → a + 2 ≤ r c ∧ r c < a + 8 ∧ h (r c) = some (.inr (0, 40, .inl (F c)))) ∧ ∀ c d : Int, 0 ≤ c → c < 6 → 0 ≤ d → d < 6 → r c = r d → c = d
def tn_C (h : tm_H) (a : Nat) (sz : Int → Int) (wd : Int → Int → Int) : Prop :=
  ∃ (r : Int → Nat) (F : Int → Nat → Int) (lf : Nat → Int), tn_Cr h a r F lf ∧ ∀ c : Int, 0 ≤ c → c < 6 → lf c.toNat = sz c ∧ 0 ≤ sz c ∧ sz c ≤ 40 ∧ ∀ p : Int, 0 ≤ p → p < sz c → F c p.toNat = wd c p
theorem tn_Cr.cg {h h' : tm_H} {a : Nat} {r : Int → Nat} {F : Int → Nat → Int} {lf : Nat → Int} (H : tn_Cr h a r F lf) (e : tn_eq a (a + 9) h h') : tn_Cr h' a r F lf := by
  obtain ⟨h1, ⟨R, h2, h2'⟩, h3, h4, h5⟩ := H
  refine ⟨by rw [e a (by omega) (by omega)]; exact h1, ⟨R, by rw [e (a + 1) (by omega) (by omega)]; exact h2, h2'⟩, by rw [e (a + 8) (by omega) (by omega)]; exact h3, fun c c0 c1 => ?_, h5⟩
  obtain ⟨x, y, z⟩ := h4 c c0 c1
  exact ⟨x, y, by rw [e _ (by omega) (by omega)]; exact z⟩
theorem tn_C.cg {h h' : tm_H} {a : Nat} {sz : Int → Int} {wd : Int → Int → Int} (H : tn_C h a sz wd) (e : tn_eq a (a + 9) h h') : tn_C h' a sz wd := by
  obtain ⟨r, F, lf, h1, h2⟩ := H
  exact ⟨r, F, lf, h1.cg e, h2⟩
theorem tn_C.ext {h : tm_H} {a : Nat} {sz sz' : Int → Int} {wd wd' : Int → Int → Int} (H : tn_C h a sz wd) (e : ∀ c : Int, 0 ≤ c → c < 6 → sz' c = sz c ∧ ∀ p : Int, 0 ≤ p → p < sz c → wd' c p = wd c p) : tn_C h a sz' wd' := by
  obtain ⟨r, F, lf, h1, h2⟩ := H
  refine ⟨r, F, lf, h1, fun c c0 c1 => ?_⟩
  obtain ⟨x, y, z, w⟩ := h2 c c0 c1
  obtain ⟨e1, e2⟩ := e c c0 c1
  rw [e1]
  exact ⟨x, y, z, fun p p0 p1 => (w p p0 p1).trans (e2 p p0 p1).symm⟩
theorem tn_C.sz {h : tm_H} {a : Nat} {sz : Int → Int} {wd : Int → Int → Int} (H : tn_C h a sz wd) {c : Int} (hc : 0 ≤ c ∧ c < 6) : 0 ≤ sz c ∧ sz c ≤ 40 := by
  obtain ⟨r, F, lf, h1, h2⟩ := H
  exact ⟨(h2 c hc.1 hc.2).2.1, (h2 c hc.1 hc.2).2.2.1⟩
/-- one chapter's row and length are new -/
theorem tn_Cr.put {h h' : tm_H} {a : Nat} {r : Int → Nat} {F : Int → Nat → Int} {lf : Nat → Int} (H : tn_Cr h a r F lf) {c : Int} (hc : 0 ≤ c ∧ c < 6) {G : Nat → Int} {lg : Nat → Int} (e1 : h' (r c) = some (.inr (0, 40, .inl G))) (e2 : h' (a + 8) = some (.inr (0, 6, .inl lg))) (e3 : ∀ q, q ≠ r c → q ≠ a + 8 → h' q = h q) : tn_Cr h' a r (fun d => if d = c then G else F d) lg := by
  obtain ⟨h1, ⟨R, h2, h2'⟩, h3, h4, h5⟩ := H
  obtain ⟨x, y, z⟩ := h4 c hc.1 hc.2
  refine ⟨by rw [e3 a (by omega) (by omega)]; exact h1, ⟨R, by rw [e3 (a + 1) (by omega) (by omega)]; exact h2, h2'⟩, e2, fun d d0 d1 => ?_, h5⟩
  obtain ⟨x', y', z'⟩ := h4 d d0 d1
  refine ⟨x', y', ?_⟩
  by_cases cd : d = c
  · subst cd; simp only [if_true]; exact e1
  · simp only [if_neg cd]; rw [e3 _ (fun k => cd (h5 d c d0 d1 hc.1 hc.2 k)) (by omega)]
    exact z'
section CHP
variable {h : tm_H} {a : Nat} {sz : Int → Int} {wd : Int → Int → Int}
theorem tx0_has (H : tn_C h a sz wd) (c : Int) : fX0_has a c h = some (tn_b (0 ≤ c ∧ c < 6)) := by
  obtain ⟨r, F, lf, ⟨h1, h2, h3, h4, h5⟩, h6⟩ := H
  simp only [fX0_has, tn_th h1]
  by_cases c1 : c < 0
  · rw [if_pos c1, tn_b0 (by omega)]
  · by_cases c2 : c < 6
    · rw [if_neg c1, if_pos c2, tn_b1 (by omega)]
    · rw [if_neg c1, if_neg c2, tn_b0 (by omega)]
theorem tx0_hasPlace (H : tn_C h a sz wd) (c p : Int) : fX0_hasPlace a c p h = some (tn_b (0 ≤ c ∧ c < 6 ∧ 0 ≤ p ∧ p < sz c)) := by
  obtain ⟨r, F, lf, ⟨h1, h2, h3, h4, h5⟩, h6⟩ := H
  simp only [fX0_hasPlace, tn_th h1, tn_gR (k := 1) h1 rfl, Option.bind_some]
  by_cases c1 : c < 0
  · rw [if_pos c1, tn_b0 (by omega)]
  · by_cases c2 : c < 6
    · rw [if_neg c1, if_pos c2]
      by_cases c3 : p < 0
      · rw [if_pos c3, tn_b0 (by omega)]
      · rw [if_neg c3, tn_lI h3 (by omega) (by omega), Option.bind_some, (h6 c (by omega) c2).1]
        by_cases c4 : p < sz c
        · rw [if_pos c4, tn_b1 (by omega)]
        · rw [if_neg c4, tn_b0 (by omega)]
    · rw [if_neg c1, if_neg c2, tn_b0 (by omega)]
theorem tx0_lengthOf (H : tn_C h a sz wd) {c : Int} (hc : 0 ≤ c ∧ c < 6) : fX0_lengthOf a c h = some (sz c) := by
  obtain ⟨r, F, lf, ⟨h1, h2, h3, h4, h5⟩, h6⟩ := H
  simp only [fX0_lengthOf, tn_th h1, tn_gR (k := 1) h1 rfl, Option.bind_some]
  rw [if_neg (by omega), if_pos hc.2, tn_lI h3 (by omega) (by omega), Option.bind_some, (h6 c hc.1 hc.2).1]
theorem tx0_wordAt (H : tn_C h a sz wd) {c p : Int} (hc : 0 ≤ c ∧ c < 6) (hp : 0 ≤ p ∧ p < sz c) : fX0_wordAt a c p h = some (wd c p) := by
  obtain ⟨r, F, lf, ⟨h1, ⟨R, h2, h2'⟩, h3, h4, h5⟩, h6⟩ := H
  obtain ⟨x, y, z⟩ := h4 c hc.1 hc.2
  obtain ⟨x1, x2, x3, x4⟩ := h6 c hc.1 hc.2
  simp only [fX0_wordAt, tn_th h1, tn_gR (k := 1) h1 rfl, tn_gR (k := 0) h1 rfl, Option.bind_some]
  rw [if_neg (by omega), if_pos hc.2, if_neg (by omega), tn_lI h3 (by omega) (by omega), Option.bind_some, x1, if_pos hp.2, tn_lR h2 (by omega) (by omega), h2' c hc.1 hc.2, Option.bind_some, tn_lI z hp.1 (by omega), Option.bind_some, x4 p hp.1 hp.2]
theorem tx0_total_l (H : tn_C h a sz wd) : ∀ (m : Nat) (k : Int), 0 ≤ k → k ≤ 6 → (6 - k).toNat = m → fX0_total_L4 a h (tn_sm sz k.toNat) k = some (tn_sm sz 6) := by
  obtain ⟨r, F, lf, ⟨h1, h2, h3, h4, h5⟩, h6⟩ := H
  intro m
  induction m with
  | zero =>
    intro k k0 k1 hm
    rw [fX0_total_L4_eq, if_neg (by omega), show k.toNat = 6 by omega]
  | succ m ih =>
    intro k k0 k1 hm
    have q0 := tn_sm_rg (f := sz) (B := 40) (m := k.toNat) (fun i i0 i1 => ⟨(h6 i i0 (by omega)).2.1, (h6 i i0 (by omega)).2.2.1⟩)
    have q1 := h6 k k0 (by omega)
    rw [fX0_total_L4_eq, if_pos (by omega), tn_gR (k := 1) h1 rfl, Option.bind_some, tn_lI h3 (by omega) (by omega), Option.bind_some, q1.1, tm_wr_id (z := k + 1) (by omega) (by omega), tm_wr_id (by omega) (by omega)]
    have q := ih (k + 1) (by omega) (by omega) (by omega)
    rw [tn_sm_su k0] at q
    exact q
theorem tx0_total (H : tn_C h a sz wd) : fX0_total a h = some (tn_sm sz 6) := by
  have H0 := H
  obtain ⟨r, F, lf, ⟨h1, h2, h3, h4, h5⟩, h6⟩ := H
  simp only [fX0_total, tn_th h1]
  exact tx0_total_l H0 _ 0 (by omega) (by omega) rfl
/-- the words from p on move a place on, and the word comes; b is the row, a the chapters -/
theorem tx0_put_l {lf : Nat → Int} {b : Nat} {c w p : Int} (hb : b ≠ a ∧ b ≠ a + 8) (hc : 0 ≤ c ∧ c < 6) (hp : 0 ≤ p) (hl : 0 ≤ lf c.toNat ∧ lf c.toNat < 40) : ∀ (m : Nat) (k : Int) (h : tm_H) (F : Nat → Int), h a = some (.inl (0, [.inr (some (a + 1)), .inr (some (a + 8))])) → h (a + 8) = some (.inr (0, 6, .inl lf)) → h b = some (.inr (0, 40, .inl F)) → p ≤ k → k < 40 → (k - p).toNat = m →
    ∃ (h' : tm_H) (G : Nat → Int), fX0_put_L50 a c p w b k h = some h' ∧ h' b = some (.inr (0, 40, .inl G)) ∧ h' (a + 8) = some (.inr (0, 6, .inl (tm_up lf c.toNat (lf c.toNat + 1)))) ∧ (∀ q, q ≠ b → q ≠ a + 8 → h' q = h q) ∧ ∀ i : Int, 0 ≤ i → G i.toNat = if i < p then F i.toNat else if i = p then w else if i ≤ k then F (i - 1).toNat else F i.toNat := by
  intro m
  induction m with
  | zero =>
    intro k h F h1 h2 h3 k0 k1 hm
    obtain ⟨hA, eA, pA, oA⟩ := tn_WI w h3 hp (show p < (40 : Nat) by omega)
    obtain ⟨hB, eB, pB, oB⟩ := tn_WI (lf c.toNat + 1) ((oA (a + 8) (by omega)).trans h2) hc.1 (show c < (6 : Nat) by omega)
    refine ⟨hB, _, ?_, by rw [oB b hb.2]; exact pA, pB, fun q q1 q2 => by rw [oB q q2, oA q q1], fun i i0 => ?_⟩
    · rw [fX0_put_L50_eq, if_neg (by omega), eA, Option.bind_some, tn_gR (k := 1) ((oA a (by omega)).trans h1) rfl, Option.bind_some, tn_lI ((oA (a + 8) (by omega)).trans h2) hc.1 (show c < (6 : Nat) by omega), Option.bind_some, tm_wr_id (by omega) (by omega), eB]
      rfl
    · rw [tm_up_app]
      by_cases c1 : i < p
      · rw [if_pos c1, if_neg (by omega)]
      · by_cases c2 : i = p
        · rw [if_neg c1, if_pos c2, if_pos (by omega)]
        · rw [if_neg c1, if_neg c2, if_neg (by omega), if_neg (by omega)]
  | succ m ih =>
    intro k h F h1 h2 h3 k0 k1 hm
    obtain ⟨hA, eA, pA, oA⟩ := tn_WI (F (k - 1).toNat) h3 (show 0 ≤ k by omega) (show k < (40 : Nat) by omega)
    obtain ⟨hB, G, e1, e2, e3, e4, e5⟩ := ih (k - 1) hA _ ((oA a (by omega)).trans h1) ((oA (a + 8) (by omega)).trans h2) pA (by omega) (by omega) (by omega)
    refine ⟨hB, G, ?_, e2, e3, fun q q1 q2 => by rw [e4 q q1 q2, oA q q1], fun i i0 => ?_⟩
    · rw [fX0_put_L50_eq, if_pos (by omega), tm_wr_id (z := k - 1) (by omega) (by omega), tm_wr_id (z := k + (-1)) (by omega) (by omega), tn_lI h3 (by omega) (by omega), Option.bind_some, eA, Option.bind_some, show k + (-1) = k - 1 by omega]
      exact e1
    · rw [e5 i i0, tm_up_app, tm_up_app]
      by_cases c1 : i < p
      · rw [if_pos c1, if_pos c1, if_neg (by omega)]
      · by_cases c2 : i = p
        · rw [if_neg c1, if_neg c1, if_pos c2, if_pos c2]
        · rw [if_neg c1, if_neg c1, if_neg c2, if_neg c2]
          by_cases c3 : i = k
          · rw [if_neg (by omega), if_pos (by omega), if_pos (by omega), c3]
          · by_cases c4 : i ≤ k
            · rw [if_pos (by omega), if_neg (by omega), if_pos (by omega)]
            · rw [if_neg (by omega), if_neg (by omega), if_neg (by omega)]
theorem tx0_put (H : tn_C h a sz wd) {c p w : Int} (hc : 0 ≤ c ∧ c < 6) (hp : 0 ≤ p ∧ p ≤ sz c) (hs : sz c < 40) : ∃ h', fX0_put a c p w h = some h' ∧ tn_C h' a (fun d => if d = c then sz c + 1 else sz d) (fun d i => if d = c then (if i < p then wd c i else if i = p then w else wd c (i - 1)) else wd d i) ∧ tn_fr a (a + 9) h h' := by
  have H0 := H
  obtain ⟨r, F, lf, Hr, h6⟩ := H
  have Hr0 := Hr
  obtain ⟨h1, ⟨R, h2, h2'⟩, h3, h4, h5⟩ := Hr
  obtain ⟨x, y, z⟩ := h4 c hc.1 hc.2
  obtain ⟨x1, x2, x3, x4⟩ := h6 c hc.1 hc.2
  obtain ⟨h', G, e1, e2, e3, e4, e5⟩ := tx0_put_l (lf := lf) (b := r c) (c := c) (w := w) (p := p) (a := a) (by omega) hc hp.1 (by omega) _ (sz c) h (F c) h1 h3 z hp.2 hs rfl
  refine ⟨h', ?_, ⟨r, _, _, Hr0.put hc e2 e3 e4, fun d d0 d1 => ?_⟩, fun q hq => e4 q (by omega) (by omega)⟩
  · simp only [fX0_put, tn_th h1, tx0_has H0, Option.bind_some, tn_b1 hc, tn_gR (k := 1) h1 rfl, tn_gR (k := 0) h1 rfl, tn_lI h3 hc.1 (show c < (6 : Nat) by omega), tn_lR h2 hc.1 (show c < (6 : Nat) by omega), h2' c hc.1 hc.2, x1]
    rw [if_neg (by omega), if_neg (by omega), if_neg (by omega), if_pos hs]
    exact e1
  · rw [tm_up_app]
    by_cases cd : d = c
    · subst cd
      simp only [if_true]
      refine ⟨by rw [x1], by omega, by omega, fun i i0 i1 => ?_⟩
      rw [e5 i i0]
      by_cases c1 : i < p
      · rw [if_pos c1, if_pos c1, x4 i i0 (by omega)]
      · by_cases c2 : i = p
        · rw [if_neg c1, if_neg c1, if_pos c2, if_pos c2]
        · rw [if_neg c1, if_neg c1, if_neg c2, if_neg c2, if_pos (by omega), x4 _ (by omega) (by omega)]
    · simp only [if_neg cd]
      rw [if_neg (by omega)]
      exact h6 d d0 d1
theorem tx0_cut_l {lf : Nat → Int} {b : Nat} {c from_ g s x2 x3 : Int} (hb : b ≠ a ∧ b ≠ a + 8) (hc : 0 ≤ c ∧ c < 6) (hf : 0 ≤ from_) (hl : lf c.toNat = s) (hs : s ≤ 40) (hg : 1 ≤ g ∧ from_ + g ≤ s) : ∀ (m : Nat) (k : Int) (h : tm_H) (F : Nat → Int), h a = some (.inl (0, [.inr (some (a + 1)), .inr (some (a + 8))])) → h (a + 8) = some (.inr (0, 6, .inl lf)) → h b = some (.inr (0, 40, .inl F)) → from_ + g ≤ k → k ≤ s → (s - k).toNat = m →
    ∃ (h' : tm_H) (G : Nat → Int), fX0_cut_L44 a c x2 x3 b g k h = some h' ∧ h' b = some (.inr (0, 40, .inl G)) ∧ h' (a + 8) = some (.inr (0, 6, .inl (tm_up lf c.toNat (s - g)))) ∧ (∀ q, q ≠ b → q ≠ a + 8 → h' q = h q) ∧ ∀ i : Int, 0 ≤ i → i < s - g → G i.toNat = if i < k - g then F i.toNat else F (i + g).toNat := by
  intro m
  induction m with
  | zero =>
    intro k h F h1 h2 h3 k0 k1 hm
    obtain ⟨hB, eB, pB, oB⟩ := tn_WI (s - g) h2 hc.1 (show c < (6 : Nat) by omega)
    refine ⟨hB, F, ?_, by rw [oB b hb.2]; exact h3, pB, fun q q1 q2 => oB q q2, fun i i0 i1 => by rw [if_pos (by omega)]⟩
    rw [fX0_cut_L44_eq, tn_gR (k := 1) h1 rfl, Option.bind_some, tn_lI h2 hc.1 (show c < (6 : Nat) by omega), Option.bind_some, hl, if_neg (by omega), Option.bind_some, tn_lI h2 hc.1 (show c < (6 : Nat) by omega), Option.bind_some, hl, tm_wr_id (by omega) (by omega), eB]
    rfl
  | succ m ih =>
    intro k h F h1 h2 h3 k0 k1 hm
    obtain ⟨hA, eA, pA, oA⟩ := tn_WI (F k.toNat) h3 (show 0 ≤ k - g by omega) (show k - g < (40 : Nat) by omega)
    obtain ⟨hB, G, e1, e2, e3, e4, e5⟩ := ih (k + 1) hA _ ((oA a (by omega)).trans h1) ((oA (a + 8) (by omega)).trans h2) pA (by omega) (by omega) (by omega)
    refine ⟨hB, G, ?_, e2, e3, fun q q1 q2 => by rw [e4 q q1 q2, oA q q1], fun i i0 i1 => ?_⟩
    · rw [fX0_cut_L44_eq, tn_gR (k := 1) h1 rfl, Option.bind_some, tn_lI h2 hc.1 (show c < (6 : Nat) by omega), Option.bind_some, hl, if_pos (by omega), tn_lI h3 (by omega) (by omega), Option.bind_some, tm_wr_id (z := k - g) (by omega) (by omega), tm_wr_id (z := k + 1) (by omega) (by omega), eA, Option.bind_some]
      exact e1
    · rw [e5 i i0 i1, tm_up_app, tm_up_app]
      by_cases c1 : i < k - g
      · rw [if_pos c1, if_pos (by omega), if_neg (by omega)]
      · by_cases c2 : i = k - g
        · rw [if_neg c1, if_pos (by omega), if_pos (by omega), c2, show k - g + g = k by omega]
        · rw [if_neg c1, if_neg (by omega), if_neg (by omega)]
theorem tx0_cut (H : tn_C h a sz wd) {c p q : Int} (hc : 0 ≤ c ∧ c < 6) (hp : 0 ≤ p ∧ p ≤ q ∧ q < sz c) : ∃ h', fX0_cut a c p q h = some h' ∧ tn_C h' a (fun d => if d = c then sz c - (q - p + 1) else sz d) (fun d i => if d = c then (if i < p then wd c i else wd c (i + (q - p + 1))) else wd d i) ∧ tn_fr a (a + 9) h h' := by
  have H0 := H
  obtain ⟨r, F, lf, Hr, h6⟩ := H
  have Hr0 := Hr
  obtain ⟨h1, ⟨R, h2, h2'⟩, h3, h4, h5⟩ := Hr
  obtain ⟨x, y, z⟩ := h4 c hc.1 hc.2
  obtain ⟨x1, x2, x3, x4⟩ := h6 c hc.1 hc.2
  obtain ⟨h', G, e1, e2, e3, e4, e5⟩ := tx0_cut_l (lf := lf) (b := r c) (c := c) (from_ := p) (g := q - p + 1) (s := sz c) (x2 := p) (x3 := q) (a := a) (by omega) hc hp.1 x1 x3 (by omega) _ (q + 1) h (F c) h1 h3 z (by omega) (by omega) rfl
  refine ⟨h', ?_, ⟨r, _, _, Hr0.put hc e2 e3 e4, fun d d0 d1 => ?_⟩, fun q hq => e4 q (by omega) (by omega)⟩
  · simp only [fX0_cut, tn_th h1, tx0_hasPlace H0, Option.bind_some, tn_b1 (show 0 ≤ c ∧ c < 6 ∧ 0 ≤ p ∧ p < sz c by omega), tn_b1 (show 0 ≤ c ∧ c < 6 ∧ 0 ≤ q ∧ q < sz c by omega), tn_gR (k := 0) h1 rfl, tn_lR h2 hc.1 (show c < (6 : Nat) by omega), h2' c hc.1 hc.2]
    rw [if_neg (by omega), if_neg (by omega), if_neg (by omega), tm_wr_id (z := q - p) (by omega) (by omega), tm_wr_id (z := q - p + 1) (by omega) (by omega), tm_wr_id (z := q + 1) (by omega) (by omega)]
    exact e1
  · rw [tm_up_app]
    by_cases cd : d = c
    · subst cd
      simp only [if_true]
      refine ⟨trivial, by omega, by omega, fun i i0 i1 => ?_⟩
      rw [e5 i i0 i1, show q + 1 - (q - p + 1) = p by omega]
      by_cases c1 : i < p
      · rw [if_pos c1, if_pos c1, x4 i i0 (by omega)]
      · rw [if_neg c1, if_neg c1, x4 _ (by omega) (by omega)]
    · simp only [if_neg cd]
      rw [if_neg (by omega)]
      exact h6 d d0 d1
/-- a chapter's row, for reading and for writing -/
theorem tx0_row (H : tn_C h a sz wd) {c : Int} (hc : 0 ≤ c ∧ c < 6) : ∃ b : Nat, tm_gR h 0 0 a = some (a + 1) ∧ tm_lR h 5 (a + 1) c = some b ∧ (∀ p : Int, 0 ≤ p → p < sz c → tm_lI h 0 b p = some (wd c p)) ∧ ∀ p v : Int, 0 ≤ p → p < sz c → ∃ h', tm_wI h 0 b p v = some h' ∧ tn_C h' a sz (fun d i => if d = c ∧ i = p then v else wd d i) ∧ tn_fr a (a + 9) h h' := by
  obtain ⟨r, F, lf, Hr, h6⟩ := H
  have Hr0 := Hr
  obtain ⟨h1, ⟨R, h2, h2'⟩, h3, h4, h5⟩ := Hr
  obtain ⟨x, y, z⟩ := h4 c hc.1 hc.2
  obtain ⟨x1, x2, x3, x4⟩ := h6 c hc.1 hc.2
  refine ⟨r c, tn_gR (k := 0) h1 rfl, ?_, fun p p0 p1 => ?_, fun p v p0 p1 => ?_⟩
  · rw [tn_lR h2 hc.1 (show c < (6 : Nat) by omega)]; exact h2' c hc.1 hc.2
  · rw [tn_lI z p0 (show p < (40 : Nat) by omega), x4 p p0 p1]
  · obtain ⟨hA, eA, pA, oA⟩ := tn_WI v z p0 (show p < (40 : Nat) by omega)
    refine ⟨hA, eA, ⟨r, _, _, Hr0.put hc pA ((oA _ (by omega)).trans h3) (fun q q1 _ => oA q q1), fun d d0 d1 => ?_⟩, fun q hq => oA q (by omega)⟩
    obtain ⟨y1, y2, y3, y4⟩ := h6 d d0 d1
    refine ⟨y1, y2, y3, fun i i0 i1 => ?_⟩
    by_cases cd : d = c
    · subst cd
      simp only [if_true, true_and]
      rw [tm_up_app]
      by_cases ci : i = p
      · rw [if_pos (by omega), if_pos ci]
      · rw [if_neg (by omega), if_neg ci]; exact x4 i i0 i1
    · simp only [if_neg cd]
      rw [if_neg (fun k => cd k.1)]
      exact y4 i i0 i1
theorem tx0_len (H : tn_C h a sz wd) {c : Int} (hc : 0 ≤ c ∧ c < 6) : tm_gR h 0 1 a = some (a + 8) ∧ tm_lI h 0 (a + 8) c = some (sz c) := by
  obtain ⟨r, F, lf, ⟨h1, h2, h3, h4, h5⟩, h6⟩ := H
  exact ⟨tn_gR (k := 1) h1 rfl, by rw [tn_lI h3 hc.1 (show c < (6 : Nat) by omega), (h6 c hc.1 hc.2).1]⟩
/-- how often a word stands in a chapter before a place; in the chapters before one -/
noncomputable def tn_nc (wd : Int → Int → Int) (w c p : Int) : Int := tn_sm (fun i => tn_b (wd c i = w)) p.toNat
noncomputable def tn_nt (sz : Int → Int) (wd : Int → Int → Int) (w c : Int) : Int := tn_sm (fun d => tn_nc wd w d (sz d)) c.toNat
theorem tn_nc_rg {wd : Int → Int → Int} {w c p : Int} (hp : 0 ≤ p) : 0 ≤ tn_nc wd w c p ∧ tn_nc wd w c p ≤ p := by
  have q := tn_sm_rg (f := fun i => tn_b (wd c i = w)) (B := 1) (m := p.toNat) (fun i _ _ => tn_b_rg _)
  unfold tn_nc; omega
theorem tn_nt_rg {sz : Int → Int} {wd : Int → Int → Int} {w c : Int} (hs : ∀ d : Int, 0 ≤ d → d < 6 → 0 ≤ sz d ∧ sz d ≤ 40) (h0 : 0 ≤ c) (h6 : c ≤ 6) : 0 ≤ tn_nt sz wd w c ∧ tn_nt sz wd w c ≤ 240 := by
  have q := tn_sm_rg (f := fun d => tn_nc wd w d (sz d)) (B := 40) (m := c.toNat) (fun i i0 i1 => by
    have := hs i i0 (by omega)
    have := tn_nc_rg (wd := wd) (w := w) (c := i) this.1
    omega)
  unfold tn_nt; omega
theorem tx0_exch_l {w o : Int} : ∀ (m : Nat) (c p : Int) (h : tm_H) (wd' : Int → Int → Int), tn_C h a sz wd' → (∀ d : Int, 0 ≤ d → d < 6 → 0 ≤ sz d ∧ sz d ≤ 40) → (∀ d i : Int, 0 ≤ d → d < 6 → 0 ≤ i → i < sz d → wd' d i = if (d < c ∨ d = c ∧ i < p) ∧ wd d i = w then o else wd d i) → 0 ≤ c → c < 6 → 0 ≤ p → p ≤ sz c → (300 - 41 * c - p).toNat = m →
    ∃ h' wd2, fX0_exchange_L15 a w o (tn_nt sz wd w c + tn_nc wd w c p) c p h = some (tn_nt sz wd w 6, h') ∧ tn_C h' a sz wd2 ∧ (∀ d i : Int, 0 ≤ d → d < 6 → 0 ≤ i → i < sz d → wd2 d i = if wd d i = w then o else wd d i) ∧ tn_fr a (a + 9) h h' := by
  intro m
  induction m using Nat.strongRecOn with
  | _ m ih =>
    intro c p h wd' H hs hw c0 c1 p0 p1 hm
    obtain ⟨l1, l2⟩ := tx0_len H ⟨c0, c1⟩
    obtain ⟨b, b1, b2, b3, b4⟩ := tx0_row H ⟨c0, c1⟩
    have s1 := hs c c0 c1
    have s2 := tn_nc_rg (wd := wd) (w := w) (c := c) p0
    have s3 := tn_nt_rg (wd := wd) (w := w) hs c0 (by omega)
    rw [fX0_exchange_L15_eq, l1, Option.bind_some, l2, Option.bind_some]
    by_cases c2 : p < sz c
    · rw [if_pos c2, b1, Option.bind_some, b2, Option.bind_some, b3 p p0 c2, Option.bind_some, Option.bind_some, b2, Option.bind_some]
      have hx := hw c p c0 c1 p0 c2
      rw [if_neg (by omega)] at hx
      rw [hx]
      have nc1 : tn_nc wd w c (p + 1) = tn_nc wd w c p + tn_b (wd c p = w) := by unfold tn_nc; exact tn_sm_su p0
      by_cases c3 : wd c p = w
      · rw [if_pos c3]
        obtain ⟨h1, e1, H1, f1⟩ := b4 p o p0 c2
        obtain ⟨h2, wd2, e2, H2, w2, f2⟩ := ih (300 - 41 * c - (p + 1)).toNat (by omega) c (p + 1) h1 _ H1 hs (fun d i d0 d1 i0 i1 => by
          by_cases cc : d = c ∧ i = p
          · obtain ⟨cc1, cc2⟩ := cc
            subst cc1; subst cc2
            show (if d = d ∧ i = i then o else wd' d i) = _
            rw [if_pos ⟨rfl, rfl⟩, if_pos ⟨Or.inr ⟨rfl, by omega⟩, c3⟩]
          · simp only [if_neg cc]
            rw [hw d i d0 d1 i0 i1]
            by_cases c4 : (d < c ∨ d = c ∧ i < p) ∧ wd d i = w
            · rw [if_pos c4, if_pos ⟨by omega, c4.2⟩]
            · rw [if_neg c4, if_neg (fun x => c4 ⟨by omega, x.2⟩)]) c0 c1 (by omega) (by omega) rfl
        refine ⟨h2, wd2, ?_, H2, w2, f1.tr f2⟩
        rw [e1, Option.bind_some, fX0_exchange_L55_eq, tm_wr_id (z := p + 1) (by omega) (by omega), tm_wr_id (by omega) (by omega)]
        rw [nc1, tn_b1 c3, ← Int.add_assoc] at e2
        exact e2
      · rw [if_neg c3, fX0_exchange_L55_eq, tm_wr_id (z := p + 1) (by omega) (by omega)]
        obtain ⟨h2, wd2, e2, H2, w2, f2⟩ := ih (300 - 41 * c - (p + 1)).toNat (by omega) c (p + 1) h _ H hs (fun d i d0 d1 i0 i1 => by
            rw [hw d i d0 d1 i0 i1]
            by_cases c4 : (d < c ∨ d = c ∧ i < p) ∧ wd d i = w
            · rw [if_pos c4, if_pos ⟨by omega, c4.2⟩]
            · rw [if_neg c4, if_neg (fun x => c4 ⟨by
                have : ¬ (d = c ∧ i = p) := fun y => by
                  obtain ⟨y1, y2⟩ := y
                  subst y1; subst y2
                  exact c3 x.2
                omega, x.2⟩)]) c0 c1 (by omega) (by omega) rfl
        refine ⟨h2, wd2, ?_, H2, w2, f2⟩
        rw [nc1, tn_b0 c3, Int.add_zero] at e2
        exact e2
    · rw [if_neg c2, tm_wr_id (z := c + 1) (by omega) (by omega)]
      have ps : p = sz c := by omega
      have nt1 : tn_nt sz wd w (c + 1) = tn_nt sz wd w c + tn_nc wd w c p := by rw [ps]; unfold tn_nt; exact tn_sm_su c0
      rw [fX0_exchange_L5_eq, ← nt1]
      by_cases c4 : c + 1 < 6
      · rw [if_pos c4]
        have s4 := hs (c + 1) (by omega) c4
        obtain ⟨h2, wd2, e2, H2, w2, f2⟩ := ih (300 - 41 * (c + 1) - 0).toNat (by omega) (c + 1) 0 h _ H hs (fun d i d0 d1 i0 i1 => by
            rw [hw d i d0 d1 i0 i1]
            by_cases c5 : (d < c ∨ d = c ∧ i < p) ∧ wd d i = w
            · rw [if_pos c5, if_pos ⟨by omega, c5.2⟩]
            · rw [if_neg c5, if_neg (fun x => c5 ⟨by
                have h7 := x.1
                by_cases h8 : d = c
                · subst h8; omega
                · omega, x.2⟩)]) (by omega) c4 (by omega) s4.1 rfl
        refine ⟨h2, wd2, ?_, H2, w2, f2⟩
        rw [show tn_nc wd w (c + 1) 0 = 0 from rfl, Int.add_zero] at e2
        exact e2
      · rw [if_neg c4, show c + 1 = 6 by omega]
        refine ⟨h, wd', rfl, H, fun d i d0 d1 i0 i1 => ?_, tn_fr.rf⟩
        rw [hw d i d0 d1 i0 i1]
        have : d < c ∨ d = c ∧ i < p := by
          by_cases h8 : d = c
          · subst h8; omega
          · omega
        simp only [this, true_and]
theorem tx0_exchange (H : tn_C h a sz wd) (w o : Int) : ∃ h', fX0_exchange a w o h = some (tn_nt sz wd w 6, h') ∧ tn_C h' a sz (fun d i => if wd d i = w then o else wd d i) ∧ tn_fr a (a + 9) h h' := by
  have H0 := H
  obtain ⟨r, F, lf, ⟨h1, h2, h3, h4, h5⟩, h6⟩ := H
  obtain ⟨h', wd2, e1, e2, e3, e4⟩ := tx0_exch_l (w := w) (o := o) _ 0 0 h wd H0 (fun d d0 d1 => tn_C.sz H0 ⟨d0, d1⟩) (fun d i d0 d1 i0 i1 => by rw [if_neg (by omega)]) (by omega) (by omega) (by omega) (tn_C.sz H0 (c := 0) (by omega)).1 rfl
  refine ⟨h', ?_, e2.ext (fun c c0 c1 => ⟨rfl, fun p p0 p1 => (e3 c p c0 c1 p0 p1).symm⟩), e4⟩
  simp only [fX0_exchange, tn_th h1]
  rw [fX0_exchange_L5_eq, if_pos (by omega)]
  exact e1
/-- two chapters change places -/
def tn_pi (x y d : Int) : Int := if d = y then x else if d = x then y else d
theorem tn_pi_rg {x y d : Int} (hx : 0 ≤ x ∧ x < 6) (hy : 0 ≤ y ∧ y < 6) (hd : 0 ≤ d ∧ d < 6) : 0 ≤ tn_pi x y d ∧ tn_pi x y d < 6 := by
  unfold tn_pi; split
  · exact hx
  · split
    · exact hy
    · exact hd
theorem tx0_trade (H : tn_C h a sz wd) {x y : Int} (hx : 0 ≤ x ∧ x < 6) (hy : 0 ≤ y ∧ y < 6) : ∃ h', fX0_trade a x y h = some h' ∧ tn_C h' a (fun d => sz (tn_pi x y d)) (fun d => wd (tn_pi x y d)) ∧ tn_fr a (a + 9) h h' := by
  have H0 := H
  obtain ⟨r, F, lf, ⟨h1, ⟨R, h2, h2'⟩, h3, h4, h5⟩, h6⟩ := H
  obtain ⟨x1, x2, x3⟩ := h4 x hx.1 hx.2
  obtain ⟨y1, y2, y3⟩ := h4 y hy.1 hy.2
  obtain ⟨hA, eA, pA, oA⟩ := tn_WR (c := 100) (b := r y) h2 hx.1 (show x < (6 : Nat) by omega) (by simp [tm_kd, y3])
  obtain ⟨hB, eB, pB, oB⟩ := tn_WR (c := 100) (b := r x) pA hy.1 (show y < (6 : Nat) by omega) (by simp [tm_kd, (oA _ (by omega)).trans x3])
  have g1 : hB a = some (.inl (0, [.inr (some (a + 1)), .inr (some (a + 8))])) := by rw [oB a (by omega), oA a (by omega)]; exact h1
  have g3 : hB (a + 8) = some (.inr (0, 6, .inl lf)) := by rw [oB _ (by omega), oA _ (by omega)]; exact h3
  obtain ⟨hC, eC, pC, oC⟩ := tn_WI (sz y) g3 hx.1 (show x < (6 : Nat) by omega)
  obtain ⟨hD, eD, pD, oD⟩ := tn_WI (sz x) pC hy.1 (show y < (6 : Nat) by omega)
  refine ⟨hD, ?_, ⟨fun d => r (tn_pi x y d), fun d => F (tn_pi x y d), _, ⟨?_, ⟨_, (oD _ (by omega)).trans ((oC _ (by omega)).trans pB), ?_⟩, pD, ?_, ?_⟩, ?_⟩, fun q hq => ?_⟩
  · simp only [fX0_trade, tn_th h1, tx0_has H0, Option.bind_some, tn_b1 hx, tn_b1 hy, tn_gR (k := 0) h1 rfl, tn_lR h2 hx.1 (show x < (6 : Nat) by omega), h2' x hx.1 hx.2, tn_lR h2 hy.1 (show y < (6 : Nat) by omega), h2' y hy.1 hy.2]
    rw [if_neg (by omega), eA, Option.bind_some, tn_gR (k := 0) ((oA a (by omega)).trans h1) rfl, Option.bind_some, eB, Option.bind_some]
    simp only [tn_gR (k := 1) g1 rfl, Option.bind_some, tn_lI g3 hx.1 (show x < (6 : Nat) by omega), tn_lI g3 hy.1 (show y < (6 : Nat) by omega), (h6 x hx.1 hx.2).1, (h6 y hy.1 hy.2).1]
    rw [eC, Option.bind_some, tn_gR (k := 1) ((oC a (by omega)).trans g1) rfl, Option.bind_some, eD]
    rfl
  · rw [oD _ (by omega), oC _ (by omega)]; exact g1
  · intro d d0 d1
    rw [tm_up_app, tm_up_app]
    unfold tn_pi
    dsimp only
    by_cases k1 : d = y
    · rw [if_pos (by omega), if_pos k1]
    · by_cases k2 : d = x
      · rw [if_neg (by omega), if_pos (by omega), if_neg k1, if_pos k2]
      · rw [if_neg (by omega), if_neg (by omega), if_neg k1, if_neg k2]; exact h2' d d0 d1
  · intro d d0 d1
    obtain ⟨z0, z1⟩ := tn_pi_rg hx hy ⟨d0, d1⟩
    obtain ⟨w1, w2, w3⟩ := h4 _ z0 z1
    exact ⟨w1, w2, by dsimp only; rw [oD _ (by omega), oC _ (by omega), oB _ (by omega), oA _ (by omega)]; exact w3⟩
  · intro c d c0 c1 d0 d1 e
    obtain ⟨z0, z1⟩ := tn_pi_rg hx hy ⟨c0, c1⟩
    obtain ⟨z2, z3⟩ := tn_pi_rg hx hy ⟨d0, d1⟩
    have := h5 _ _ z0 z1 z2 z3 e
    unfold tn_pi at this
    split at this <;> split at this <;> (try split at this) <;> (try split at this) <;> omega
  · intro d d0 d1
    obtain ⟨z0, z1⟩ := tn_pi_rg hx hy ⟨d0, d1⟩
    obtain ⟨w1, w2, w3, w4⟩ := h6 _ z0 z1
    refine ⟨?_, w2, w3, w4⟩
    rw [tm_up_app, tm_up_app]
    unfold tn_pi
    dsimp only
    by_cases k1 : d = y
    · rw [if_pos (by omega), if_pos k1]
    · by_cases k2 : d = x
      · rw [if_neg (by omega), if_pos (by omega), if_neg k1, if_pos k2]
      · rw [if_neg (by omega), if_neg (by omega), if_neg k1, if_neg k2]; exact (h6 d d0 d1).1
  · rw [oD q (by omega), oC q (by omega), oB q (by omega), oA q (by omega)]
theorem tx0_copy_l {b : Nat} {r r' : Int → Nat} {F' : Int → Nat → Int} {lf lf' : Nat → Int} (hd : a + 9 ≤ b ∨ b + 9 ≤ a) : ∀ (m : Nat) (k : Int) (h : tm_H) (F : Int → Nat → Int), tn_Cr h a r F lf → tn_Cr h b r' F' lf' → (∀ (c : Int) (i : Nat), 0 ≤ c → c < k → i < 40 → F c i = F' c i) → 0 ≤ k → k ≤ 6 → (6 - k).toNat = m → ∃ h' F2 lf2, fX0_copyFrom_L2 a b k h = some h' ∧ tn_Cr h' a r F2 lf2 ∧ (∀ (c : Int) (i : Nat), 0 ≤ c → c < 6 → i < 40 → F2 c i = F' c i) ∧ (∀ c : Nat, c < 6 → lf2 c = lf' c) ∧ tn_fr a (a + 9) h h' := by
  intro m
  induction m with
  | zero =>
    intro k h F H G hk k0 k1 hm
    have H0 := H
    obtain ⟨h1, ⟨R, h2, h2'⟩, h3, h4, h5⟩ := H
    obtain ⟨g1, ⟨R', g2, g2'⟩, g3, g4, g5⟩ := G
    obtain ⟨hA, eA, pA, oA⟩ := tn_CPI g3 h3 (show b + 8 ≠ a + 8 by omega) (show 0 ≤ (0 : Int) by omega) (show 0 ≤ (0 : Int) by omega) (show 0 ≤ (6 : Int) by omega) (by omega) (by omega)
    refine ⟨hA, F, _, ?_, ⟨?_, ⟨R, ?_, h2'⟩, pA, fun c c0 c1 => ?_, h5⟩, fun c i c0 c1 i1 => hk c i c0 (by omega) i1, fun c c1 => ?_, fun q hq => oA q (by omega)⟩
    · rw [fX0_copyFrom_L2_eq, if_neg (by omega), tn_gR (k := 1) g1 rfl, Option.bind_some, tn_gR (k := 1) h1 rfl, Option.bind_some, eA]
      rfl
    · rw [oA _ (by omega)]; exact h1
    · rw [oA _ (by omega)]; exact h2
    · obtain ⟨x, y, z⟩ := h4 c c0 c1
      exact ⟨x, y, by rw [oA _ (by omega)]; exact z⟩
    · exact tn_cy0 c1
  | succ m ih =>
    intro k h F H G hk k0 k1 hm
    have H0 := H
    have G0 := G
    obtain ⟨h1, ⟨R, h2, h2'⟩, h3, h4, h5⟩ := H
    obtain ⟨g1, ⟨R', g2, g2'⟩, g3, g4, g5⟩ := G
    obtain ⟨x, y, z⟩ := h4 k k0 (by omega)
    obtain ⟨x', y', z'⟩ := g4 k k0 (by omega)
    obtain ⟨hA, eA, pA, oA⟩ := tn_CPI z' z (show r' k ≠ r k by omega) (show 0 ≤ (0 : Int) by omega) (show 0 ≤ (0 : Int) by omega) (show 0 ≤ (40 : Int) by omega) (by omega) (by omega)
    have HA := H0.put ⟨k0, by omega⟩ pA ((oA (a + 8) (by omega)).trans h3) (fun q q1 _ => oA q q1)
    have GA : tn_Cr hA b r' F' lf' := G0.cg (fun q q1 q2 => oA q (by omega))
    obtain ⟨h', F2, lf2, e1, e2, e3, e4, e5⟩ := ih (k + 1) hA _ HA GA (fun c i c0 c1 i1 => by
      by_cases ck : c = k
      · subst ck
        simp only [if_true]
        exact tn_cy0 i1
      · simp only [if_neg ck]
        exact hk c i c0 (by omega) i1) (by omega) (by omega) (by omega)
    refine ⟨h', F2, lf2, ?_, e2, e3, e4, fun q hq => by rw [e5 q hq, oA q (by omega)]⟩
    rw [fX0_copyFrom_L2_eq, if_pos (by omega), tn_gR (k := 0) g1 rfl, Option.bind_some, tn_lR g2 k0 (show k < (6 : Nat) by omega), g2' k k0 (by omega), Option.bind_some, tn_gR (k := 0) h1 rfl, Option.bind_some, tn_lR h2 k0 (show k < (6 : Nat) by omega), h2' k k0 (by omega), Option.bind_some, eA, Option.bind_some, tm_wr_id (by omega) (by omega)]
    exact e1
theorem tx0_copyFrom {b : Nat} {sz' : Int → Int} {wd' : Int → Int → Int} (H : tn_C h a sz wd) (G : tn_C h b sz' wd') (hd : a + 9 ≤ b ∨ b + 9 ≤ a) : ∃ h', fX0_copyFrom a b h = some h' ∧ tn_C h' a sz' wd' ∧ tn_fr a (a + 9) h h' := by
  obtain ⟨r, F, lf, Hr, h6⟩ := H
  obtain ⟨r', F', lf', Gr, g6⟩ := G
  obtain ⟨h', F2, lf2, e1, e2, e3, e4, e5⟩ := tx0_copy_l hd _ 0 h F Hr Gr (fun c i c0 c1 _ => by omega) (by omega) (by omega) rfl
  refine ⟨h', ?_, ⟨r, F2, lf2, e2, fun c c0 c1 => ?_⟩, e5⟩
  · simp only [fX0_copyFrom, tn_th Hr.1]
    exact e1
  · obtain ⟨w1, w2, w3, w4⟩ := g6 c c0 c1
    refine ⟨by rw [e4 _ (by omega)]; exact w1, w2, w3, fun p p0 p1 => ?_⟩
    rw [e3 c _ c0 c1 (by omega)]
    exact w4 p p0 p1
theorem tx0_init {v0 v1 : tm_Fv} (e : h a = some (.inl (0, [v0, v1]))) : ∃ h', fX0_init a h (a + 1) = some (h', a + 9) ∧ tn_C h' a (fun _ => 0) (fun _ _ => 0) ∧ tn_fr a (a + 9) h h' := by
  obtain ⟨h1, e1, p1, r1, o1⟩ := tn_NM h (a + 1) 6 40
  obtain ⟨h2, e2, p2, o2⟩ := tn_SF (k := 0) ((o1 a (by omega)).trans e) (.inr (some (a + 1))) (by simp)
  obtain ⟨h3, e3, p3, o3⟩ := tn_NW h2 (a + 1 + 7) (.inr (0, 6, .inl (fun _ => 0)))
  obtain ⟨h4, e4, p4, o4⟩ := tn_SF (k := 1) ((o3 a (by omega)).trans p2) (.inr (some (a + 1 + 7))) (by simp)
  refine ⟨h4, ?_, ⟨fun c => a + 2 + c.toNat, fun _ _ => 0, fun _ => 0, ⟨p4, ⟨_, (o4 _ (by omega)).trans ((o3 _ (by omega)).trans ((o2 _ (by omega)).trans p1)), fun c c0 c1 => ?_⟩, ?_, fun c c0 c1 => ⟨by dsimp only; omega, by dsimp only; omega, ?_⟩, fun c d c0 c1 d0 d1 e => by dsimp only at e; omega⟩, fun c c0 c1 => ⟨rfl, by dsimp only; omega, by dsimp only; omega, fun p p0 p1 => rfl⟩⟩, fun q hq => ?_⟩
  · simp only [fX0_init, tn_th e, e1, Option.bind_some, e2, e3, e4]
  · dsimp only
    rw [if_pos (by omega)]
  · rw [o4 _ (by omega)]; exact p3
  · dsimp only; rw [o4 _ (by omega), o3 _ (by omega), o2 _ (by omega)]; exact r1 _ (by omega) (by omega)
  · rw [o4 q (by omega), o3 q (by omega), o2 q (by omega), o1 q (by omega)]
end CHP
