/-! terms -/
def tn_Tr (h : tm_H) (a : Nat) (n : Int) (r : Int → Nat) (F : Int → Nat → Int) (lf qf : Nat → Int) : Prop :=
  h a = some (.inl (5, [.inr (some (a + 1)), .inr (some (a + 15)), .inr (some (a + 16)), .inl n])) ∧ (∃ R : Nat → Option Nat, h (a + 1) = some (.inr (5, 13, .inr (.inr R))) ∧ ∀ c : Int, 0 ≤ c → c < 13 → R c.toNat = some (r c)) ∧ h (a + 15) = some (.inr (0, 13, .inl lf)) ∧ h (a + 16) = some (.inr (2, 13, .inl qf)) ∧ (∀ c : Int, 0 ≤ c → c < 13 → a + 2 ≤ r c ∧ r c < a + 15 ∧ h (r c) = some (.inr (0, 4, .inl (F c))) ∧ (qf c.toNat = 0 ∨ qf c.toNat = 1)) ∧ ∀ c d : Int, 0 ≤ c → c < 13 → 0 ≤ d → d < 13 → r c = r d → c = d
def tn_T (h : tm_H) (a : Nat) (n : Int) (tl : Int → Int) (tw : Int → Int → Int) (tq : Int → Int) : Prop :=
  ∃ (r : Int → Nat) (F : Int → Nat → Int) (lf qf : Nat → Int), tn_Tr h a n r F lf qf ∧ 0 ≤ n ∧ n ≤ 13 ∧ ∀ t : Int, 0 ≤ t → t < n → lf t.toNat = tl t ∧ 1 ≤ tl t ∧ tl t ≤ 4 ∧ qf t.toNat = tq t ∧ ∀ k : Int, 0 ≤ k → k < tl t → F t k.toNat = tw t k
theorem tn_Tr.cg {h h' : tm_H} {a : Nat} {n : Int} {r : Int → Nat} {F : Int → Nat → Int} {lf qf : Nat → Int} (H : tn_Tr h a n r F lf qf) (e : tn_eq a (a + 17) h h') : tn_Tr h' a n r F lf qf := by
  obtain ⟨h1, ⟨R, h2, h2'⟩, h3, h4, h5, h6⟩ := H
  refine ⟨by rw [e a (by omega) (by omega)]; exact h1, ⟨R, by rw [e (a + 1) (by omega) (by omega)]; exact h2, h2'⟩, by rw [e (a + 15) (by omega) (by omega)]; exact h3, by rw [e (a + 16) (by omega) (by omega)]; exact h4, fun c c0 c1 => ?_, h6⟩
  obtain ⟨x, y, z⟩ := h5 c c0 c1
  exact ⟨x, y, by rw [e _ (by omega) (by omega)]; exact z⟩
theorem tn_T.cg {h h' : tm_H} {a : Nat} {n : Int} {tl : Int → Int} {tw : Int → Int → Int} {tq : Int → Int} (H : tn_T h a n tl tw tq) (e : tn_eq a (a + 17) h h') : tn_T h' a n tl tw tq := by
  obtain ⟨r, F, lf, qf, h1, h2⟩ := H
  exact ⟨r, F, lf, qf, h1.cg e, h2⟩
theorem tn_T.ext {h : tm_H} {a : Nat} {n : Int} {tl tl' : Int → Int} {tw tw' : Int → Int → Int} {tq tq' : Int → Int} (H : tn_T h a n tl tw tq) (e : ∀ t : Int, 0 ≤ t → t < n → tl' t = tl t ∧ tq' t = tq t ∧ ∀ k : Int, 0 ≤ k → k < tl t → tw' t k = tw t k) : tn_T h a n tl' tw' tq' := by
  obtain ⟨r, F, lf, qf, h1, h2, h3, h4⟩ := H
  refine ⟨r, F, lf, qf, h1, h2, h3, fun t t0 t1 => ?_⟩
  obtain ⟨x, y, z, w, v⟩ := h4 t t0 t1
  obtain ⟨e1, e2, e3⟩ := e t t0 t1
  rw [e1, e2]
  exact ⟨x, y, z, w, fun k k0 k1 => (v k k0 k1).trans (e3 k k0 k1).symm⟩
section TRM
variable {h : tm_H} {a : Nat} {n : Int} {tl : Int → Int} {tw : Int → Int → Int} {tq : Int → Int}
theorem tn_T.rg (H : tn_T h a n tl tw tq) : 0 ≤ n ∧ n ≤ 13 := by
  obtain ⟨r, F, lf, qf, h1, h2, h3, h4⟩ := H
  exact ⟨h2, h3⟩
theorem tn_T.le (H : tn_T h a n tl tw tq) {t : Int} (ht : 0 ≤ t ∧ t < n) : 1 ≤ tl t ∧ tl t ≤ 4 := by
  obtain ⟨r, F, lf, qf, h1, h2, h3, h4⟩ := H
  exact ⟨(h4 t ht.1 ht.2).2.1, (h4 t ht.1 ht.2).2.2.1⟩
theorem tx5_size (H : tn_T h a n tl tw tq) : fX5_size a h = some n := by
  obtain ⟨r, F, lf, qf, ⟨h1, h2⟩, h3⟩ := H
  simp only [fX5_size, tn_th h1, tn_gI (k := 3) h1 rfl, Option.bind_some]
theorem tx5_has (H : tn_T h a n tl tw tq) (t : Int) : fX5_has a t h = some (tn_b (0 ≤ t ∧ t < n)) := by
  obtain ⟨r, F, lf, qf, ⟨h1, h2⟩, h3⟩ := H
  simp only [fX5_has, tn_th h1, tn_gI (k := 3) h1 rfl, Option.bind_some]
  by_cases c1 : t < 0
  · rw [if_pos c1, tn_b0 (by omega)]
  · by_cases c2 : t < n
    · rw [if_neg c1, if_pos c2, tn_b1 (by omega)]
    · rw [if_neg c1, if_neg c2, tn_b0 (by omega)]
theorem tx5_lengthOf (H : tn_T h a n tl tw tq) (t : Int) : fX5_lengthOf a t h = some (if 0 ≤ t ∧ t < n then tl t else 0) := by
  obtain ⟨r, F, lf, qf, ⟨h1, h2, h3, h4, h5, h6⟩, h7, h8, h9⟩ := H
  simp only [fX5_lengthOf, tn_th h1, tn_gI (k := 3) h1 rfl, tn_gR (k := 1) h1 rfl, Option.bind_some]
  by_cases c1 : t < 0
  · rw [if_pos c1, if_neg (by omega)]
  · by_cases c2 : t < n
    · rw [if_neg c1, if_pos c2, if_pos (by omega), tn_lI h3 (by omega) (by omega), Option.bind_some, (h9 t (by omega) c2).1]
    · rw [if_neg c1, if_neg c2, if_neg (by omega)]
/-- a term's row and length -/
theorem tx5_row (H : tn_T h a n tl tw tq) {t : Int} (ht : 0 ≤ t ∧ t < n) : ∃ (b : Nat) (f : Nat → Int), tm_gR h 5 0 a = some (a + 1) ∧ tm_lR h 5 (a + 1) t = some b ∧ h b = some (.inr (0, 4, .inl f)) ∧ (∀ k : Int, 0 ≤ k → k < tl t → f k.toNat = tw t k) ∧ tm_gR h 5 1 a = some (a + 15) ∧ tm_lI h 0 (a + 15) t = some (tl t) ∧ tm_gR h 5 2 a = some (a + 16) ∧ tm_lI h 2 (a + 16) t = some (tq t) := by
  obtain ⟨r, F, lf, qf, ⟨h1, ⟨R, h2, h2'⟩, h3, h4, h5, h6⟩, h7, h8, h9⟩ := H
  obtain ⟨x1, x2, x3, x4, x5⟩ := h9 t ht.1 ht.2
  refine ⟨r t, F t, tn_gR (k := 0) h1 rfl, ?_, (h5 t ht.1 (by omega)).2.2.1, x5, tn_gR (k := 1) h1 rfl, ?_, tn_gR (k := 2) h1 rfl, ?_⟩
  · rw [tn_lR h2 ht.1 (by omega)]; exact h2' t ht.1 (by omega)
  · rw [tn_lI h3 ht.1 (by omega), x1]
  · rw [tn_lI h4 ht.1 (by omega), x4]
theorem tx5_n (H : tn_T h a n tl tw tq) : tm_gI h 5 3 a = some n := by
  obtain ⟨r, F, lf, qf, ⟨h1, h2⟩, h3⟩ := H
  exact tn_gI (k := 3) h1 rfl
theorem tx5_wordAt (H : tn_T h a n tl tw tq) {t : Int} (ht : 0 ≤ t ∧ t < n) {k : Int} (hk : 0 ≤ k) : fX5_wordAt a t k h = some (if k < tl t then tw t k else -99) := by
  have H0 := H
  obtain ⟨b, f, r1, r2, r3, r4, r5, r6, r7, r8⟩ := tx5_row H ht
  obtain ⟨r, F, lf, qf, ⟨h1, h2⟩, h3⟩ := H
  have q := tn_T.le H0 ht
  simp only [fX5_wordAt, tn_th h1, tx5_n H0, Option.bind_some, r1, r2, r5, r6]
  rw [if_neg (by omega), if_pos ht.2, if_neg (by omega)]
  by_cases c : k < tl t
  · rw [if_pos c, if_pos c, tn_lI r3 hk (by omega), Option.bind_some, r4 k hk c]
  · rw [if_neg c, if_neg c]
theorem tx5_isQuiet (H : tn_T h a n tl tw tq) {t : Int} (ht : 0 ≤ t ∧ t < n) : fX5_isQuiet a t h = some (tn_b (tq t ≠ 0)) := by
  have H0 := H
  obtain ⟨b, f, r1, r2, r3, r4, r5, r6, r7, r8⟩ := tx5_row H ht
  obtain ⟨r, F, lf, qf, ⟨h1, h2⟩, h3⟩ := H
  simp only [fX5_isQuiet, tn_th h1, tx5_has H0, tn_b1 ht, Option.bind_some, r7, r8]
  rw [if_neg (by omega)]
  by_cases c : tq t = 0
  · rw [if_pos c, tn_b0 (by omega)]
  · rw [if_neg c, tn_b1 c]
theorem tx5_quietCount_l (H : tn_T h a n tl tw tq) : ∀ (m : Nat) (k : Int), 0 ≤ k → k ≤ n → (n - k).toNat = m → fX5_quietCount_L4 a h (tn_sm (fun t => tn_b (tq t ≠ 0)) k.toNat) k = some (tn_sm (fun t => tn_b (tq t ≠ 0)) n.toNat) := by
  have hn := H.rg
  intro m
  induction m with
  | zero =>
    intro k k0 k1 hm
    rw [fX5_quietCount_L4_eq, tx5_n H, Option.bind_some, if_neg (by omega), show k = n by omega]
  | succ m ih =>
    intro k k0 k1 hm
    obtain ⟨b, f, r1, r2, r3, r4, r5, r6, r7, r8⟩ := tx5_row H (t := k) (by omega)
    have r := tn_sm_rg (f := fun t => tn_b (tq t ≠ 0)) (B := 1) (m := k.toNat) (fun i _ _ => tn_b_rg _)
    rw [fX5_quietCount_L4_eq, tx5_n H, Option.bind_some, if_pos (by omega), r7, Option.bind_some, r8, Option.bind_some, fX5_quietCount_L24_eq, fX5_quietCount_L24_eq, tm_wr_id (z := k + 1) (by omega) (by omega)]
    have q := ih (k + 1) (by omega) (by omega) (by omega)
    rw [tn_sm_su k0] at q
    by_cases c : tq k = 0
    · rw [if_pos c]
      rw [tn_b0 (by omega), Int.add_zero] at q
      exact q
    · rw [if_neg c, tm_wr_id (by omega) (by omega)]
      rw [tn_b1 c] at q
      exact q
theorem tx5_quietCount (H : tn_T h a n tl tw tq) : fX5_quietCount a h = some (tn_sm (fun t => tn_b (tq t ≠ 0)) n.toNat) := by
  have H0 := H
  obtain ⟨r, F, lf, qf, ⟨h1, h2⟩, h3⟩ := H
  simp only [fX5_quietCount, tn_th h1]
  exact tx5_quietCount_l H0 _ 0 (by omega) h3.1 rfl
theorem tx5_hush (H : tn_T h a n tl tw tq) {t v : Int} (ht : 0 ≤ t ∧ t < n) (hv : v = 0 ∨ v = 1) : ∃ h', fX5_hush a t v h = some h' ∧ tn_T h' a n tl tw (fun u => if u = t then v else tq u) ∧ tn_fr a (a + 17) h h' := by
  have H0 := H
  obtain ⟨r, F, lf, qf, ⟨h1, ⟨R, h2, h2'⟩, h3, h4, h5, h6⟩, h7, h8, h9⟩ := H
  obtain ⟨hA, eA, pA, oA⟩ := tn_WZ v h4 ht.1 (show t < (13 : Nat) by omega) hv
  refine ⟨hA, ?_, ⟨r, F, lf, _, ⟨?_, ⟨R, ?_, h2'⟩, ?_, pA, fun c c0 c1 => ?_, h6⟩, h7, h8, fun u u0 u1 => ?_⟩, fun q hq => oA q (by omega)⟩
  · simp only [fX5_hush, tn_th h1, tx5_has H0, tn_b1 ht, Option.bind_some, tn_gR (k := 2) h1 rfl, eA]
    rfl
  · rw [oA _ (by omega)]; exact h1
  · rw [oA _ (by omega)]; exact h2
  · rw [oA _ (by omega)]; exact h3
  · obtain ⟨x, y, z, w⟩ := h5 c c0 c1
    refine ⟨x, y, by rw [oA _ (by omega)]; exact z, ?_⟩
    rw [tm_up_app]
    split
    · exact hv
    · exact w
  · obtain ⟨x1, x2, x3, x4, x5⟩ := h9 u u0 u1
    refine ⟨x1, x2, x3, ?_, x5⟩
    rw [tm_up_app]
    dsimp only
    by_cases c : u = t
    · rw [if_pos c, if_pos (by omega)]
    · rw [if_neg c, if_neg (by omega)]; exact x4
/-- a term comes, its words out of a row -/
theorem tx5_add (H : tn_T h a n tl tw tq) {b : Nat} {l : Int} {g : Nat → Int} (hb : b < a ∨ a + 17 ≤ b) (eb : h b = some (.inr (0, 4, .inl g))) (hl : 1 ≤ l ∧ l ≤ 4) (hn : n < 13) : ∃ h', fX5_add a b l h = some h' ∧ tn_T h' a (n + 1) (fun t => if t = n then l else tl t) (fun t k => if t = n then g k.toNat else tw t k) (fun t => if t = n then 0 else tq t) ∧ tn_fr a (a + 17) h h' := by
  obtain ⟨r, F, lf, qf, ⟨h1, ⟨R, h2, h2'⟩, h3, h4, h5, h6⟩, h7, h8, h9⟩ := H
  obtain ⟨y1, y2, y3, y4⟩ := h5 n h7 hn
  obtain ⟨hA, eA, pA, oA⟩ := tn_CPI (n := l) eb y3 (by omega) (show 0 ≤ (0 : Int) by omega) (show 0 ≤ (0 : Int) by omega) (by omega) (by omega) (by omega)
  obtain ⟨hB, eB, pB, oB⟩ := tn_WI l ((oA (a + 15) (by omega)).trans h3) h7 (show n < (13 : Nat) by omega)
  obtain ⟨hC, eC, pC, oC⟩ := tn_WZ 0 ((oB (a + 16) (by omega)).trans ((oA (a + 16) (by omega)).trans h4)) h7 (show n < (13 : Nat) by omega) (Or.inl rfl)
  obtain ⟨hD, eD, pD, oD⟩ := tn_SF (k := 3) ((oC a (by omega)).trans ((oB a (by omega)).trans ((oA a (by omega)).trans h1))) (.inl (n + 1)) (by simp)
  have gA : hA a = _ := (oA a (by omega)).trans h1
  have gB : hB a = _ := (oB a (by omega)).trans gA
  have gC : hC a = _ := (oC a (by omega)).trans gB
  refine ⟨hD, ?_, ⟨r, fun t => if t = n then tm_cy g (F n) (Int.toNat 0) (Int.toNat 0) l.toNat else F t, _, _, ⟨pD, ⟨R, ?_, h2'⟩, (oD _ (by omega)).trans ((oC _ (by omega)).trans pB), (oD _ (by omega)).trans pC, fun c c0 c1 => ?_, h6⟩, by omega, by omega, fun t t0 t1 => ?_⟩, fun q hq => ?_⟩
  · simp only [fX5_add, tn_th h1, tn_gI (k := 3) h1 rfl, tn_gR (k := 0) h1 rfl, Option.bind_some, tn_lR h2 h7 (show n < (13 : Nat) by omega), h2' n h7 hn]
    rw [if_pos hn, if_neg (by omega), if_neg (by omega), show tm_len h 0 b = some 4 by simp [tm_len, eb], Option.bind_some, if_neg (by omega), eA, Option.bind_some, tn_gR (k := 1) gA rfl, Option.bind_some, tn_gI (k := 3) gA rfl, Option.bind_some, eB, Option.bind_some, tn_gR (k := 2) gB rfl, Option.bind_some, tn_gI (k := 3) gB rfl, Option.bind_some, eC, Option.bind_some, tn_gI (k := 3) gC rfl, Option.bind_some, tm_wr_id (by omega) (by omega), eD]
    rfl
  · rw [oD _ (by omega), oC _ (by omega), oB _ (by omega), oA _ (by omega)]; exact h2
  · obtain ⟨z1, z2, z3, z4⟩ := h5 c c0 c1
    refine ⟨z1, z2, ?_, ?_⟩
    · rw [oD _ (by omega), oC _ (by omega), oB _ (by omega)]
      dsimp only
      by_cases cc : c = n
      · rw [if_pos cc, cc]; exact pA
      · rw [if_neg cc, oA _ (fun k => cc (h6 c n c0 c1 h7 hn k))]; exact z3
    · rw [tm_up_app]; split
      · exact Or.inl rfl
      · exact z4
  · rw [tm_up_app, tm_up_app]
    by_cases cc : t = n
    · subst cc
      simp only [if_true]
      exact ⟨trivial, by omega, by omega, trivial, fun k k0 k1 => tn_cy0 (by omega)⟩
    · simp only [if_neg cc]
      rw [if_neg (by omega), if_neg (by omega)]
      exact h9 t t0 (by omega)
  · rw [oD q (by omega), oC q (by omega), oB q (by omega), oA q (by omega)]
theorem tx5_drop_l {d : Int} {x : Nat} (hn : 0 ≤ n ∧ n ≤ 13) (hd : 0 ≤ d) : ∀ (m : Nat) (k : Int) (h : tm_H) (R : Nat → Option Nat) (lf qf : Nat → Int), h a = some (.inl (5, [.inr (some (a + 1)), .inr (some (a + 15)), .inr (some (a + 16)), .inl n])) → h (a + 1) = some (.inr (5, 13, .inr (.inr R))) → h (a + 15) = some (.inr (0, 13, .inl lf)) → h (a + 16) = some (.inr (2, 13, .inl qf)) → (∀ c : Int, 0 ≤ c → c < 13 → ∃ (b : Nat) (f : Nat → Int), R c.toNat = some b ∧ b ≠ a + 1 ∧ b ≠ a + 15 ∧ b ≠ a + 16 ∧ b ≠ a ∧ h b = some (.inr (0, 4, .inl f))) → (∀ c : Int, 0 ≤ c → c < 13 → qf c.toNat = 0 ∨ qf c.toNat = 1) → x ≠ a + 1 → x ≠ a + 15 → x ≠ a + 16 → x ≠ a → (∃ f, h x = some (.inr (0, 4, .inl f))) → d < k → k ≤ n → (n - k).toNat = m →
    ∃ (h' : tm_H) (R' : Nat → Option Nat) (lf' qf' : Nat → Int), fX5_drop_L20 a d x k h = some h' ∧ h' a = some (.inl (5, [.inr (some (a + 1)), .inr (some (a + 15)), .inr (some (a + 16)), .inl (n - 1)])) ∧ h' (a + 1) = some (.inr (5, 13, .inr (.inr R'))) ∧ h' (a + 15) = some (.inr (0, 13, .inl lf')) ∧ h' (a + 16) = some (.inr (2, 13, .inl qf')) ∧ (∀ c : Int, 0 ≤ c → c < 13 → R' c.toNat = (if c = n - 1 then some x else if k - 1 ≤ c ∧ c < n - 1 then R (c + 1).toNat else R c.toNat) ∧ lf' c.toNat = (if k - 1 ≤ c ∧ c < n - 1 then lf (c + 1).toNat else lf c.toNat) ∧ qf' c.toNat = (if k - 1 ≤ c ∧ c < n - 1 then qf (c + 1).toNat else qf c.toNat)) ∧ ∀ q, q ≠ a → q ≠ a + 1 → q ≠ a + 15 → q ≠ a + 16 → h' q = h q := by
  intro m
  induction m with
  | zero =>
    intro k h R lf qf h1 h2 h3 h4 hR hq x1 x2 x3 x4 hx k0 k1 hm
    obtain ⟨fx, hx⟩ := hx
    obtain ⟨hA, eA, pA, oA⟩ := tn_SF (k := 3) h1 (.inl (n - 1)) (by simp)
    obtain ⟨hB, eB, pB, oB⟩ := tn_WR (c := 100) (b := x) (i := n - 1) ((oA (a + 1) (by omega)).trans h2) (by omega) (by omega) (by simp [tm_kd, (oA x x4).trans hx])
    refine ⟨hB, _, lf, qf, ?_, (oB a (by omega)).trans pA, pB, ?_, ?_, fun c c0 c1 => ⟨?_, ?_, ?_⟩, fun q q1 q2 q3 q4 => by rw [oB q q2, oA q q1]⟩
    · rw [fX5_drop_L20_eq, tn_gI (k := 3) h1 rfl, Option.bind_some, if_neg (by omega), Option.bind_some, tm_wr_id (by omega) (by omega), eA, Option.bind_some, tn_gR (k := 0) pA rfl, Option.bind_some, tn_gI (k := 3) pA rfl, Option.bind_some, eB]
      rfl
    · rw [oB _ (by omega), oA _ (by omega)]; exact h3
    · rw [oB _ (by omega), oA _ (by omega)]; exact h4
    · rw [tm_up_app]
      by_cases cc : c = n - 1
      · rw [if_pos cc, if_pos (by omega)]
      · rw [if_neg cc, if_neg (by omega), if_neg (by omega)]
    · rw [if_neg (by omega)]
    · rw [if_neg (by omega)]
  | succ m ih =>
    intro k h R lf qf h1 h2 h3 h4 hR hq x1 x2 x3 x4 hx k0 k1 hm
    obtain ⟨b, fb, b1, b2, b3, b4, b5, b6⟩ := hR k (by omega) (by omega)
    obtain ⟨hA, eA, pA, oA⟩ := tn_WR (c := 100) (b := b) (i := k - 1) h2 (by omega) (by omega) (by simp [tm_kd, b6])
    obtain ⟨hB, eB, pB, oB⟩ := tn_WI (i := k - 1) (lf k.toNat) ((oA (a + 15) (by omega)).trans h3) (by omega) (by omega)
    obtain ⟨hC, eC, pC, oC⟩ := tn_WZ (i := k - 1) (qf k.toNat) ((oB (a + 16) (by omega)).trans ((oA (a + 16) (by omega)).trans h4)) (by omega) (by omega) (hq k (by omega) (by omega))
    have gA : hA a = _ := (oA a (by omega)).trans h1
    have gB : hB a = _ := (oB a (by omega)).trans gA
    have gC : hC a = _ := (oC a (by omega)).trans gB
    obtain ⟨h', R', lf', qf', e1, e2, e3, e4, e5, e6, e7⟩ := ih (k + 1) hC _ _ _ gC ((oC (a + 1) (by omega)).trans ((oB (a + 1) (by omega)).trans pA)) ((oC (a + 15) (by omega)).trans pB) pC (fun c c0 c1 => by
      rw [tm_up_app]
      by_cases cc : c.toNat = (k - 1).toNat
      · rw [if_pos cc]
        exact ⟨b, fb, rfl, b2, b3, b4, b5, by rw [oC _ b4, oB _ b3, oA _ b2]; exact b6⟩
      · rw [if_neg cc]
        obtain ⟨b', fb', c1, c2, c3, c4, c5, c6⟩ := hR c c0 c1
        exact ⟨b', fb', c1, c2, c3, c4, c5, by rw [oC _ c4, oB _ c3, oA _ c2]; exact c6⟩) (fun c c0 c1 => by
      rw [tm_up_app]
      split
      · exact hq k (by omega) (by omega)
      · exact hq c c0 c1) x1 x2 x3 x4 (by
      obtain ⟨fx, hx⟩ := hx
      exact ⟨fx, by rw [oC _ x3, oB _ x2, oA _ x1]; exact hx⟩) (by omega) (by omega) (by omega)
    refine ⟨h', R', lf', qf', ?_, e2, e3, e4, e5, fun c c0 c1 => ?_, fun q q1 q2 q3 q4 => by rw [e7 q q1 q2 q3 q4, oC q q4, oB q q3, oA q q2]⟩
    · rw [fX5_drop_L20_eq, tn_gI (k := 3) h1 rfl, Option.bind_some, if_pos (by omega), tn_gR (k := 0) h1 rfl, Option.bind_some, Option.bind_some, tn_lR h2 (by omega) (by omega), b1, Option.bind_some, tm_wr_id (z := k - 1) (by omega) (by omega), tm_wr_id (z := k + 1) (by omega) (by omega), eA, Option.bind_some, tn_gR (k := 1) gA rfl, Option.bind_some, Option.bind_some, tn_lI ((oA (a + 15) (by omega)).trans h3) (by omega) (by omega), Option.bind_some, eB, Option.bind_some, tn_gR (k := 2) gB rfl, Option.bind_some, Option.bind_some, tn_lI ((oB (a + 16) (by omega)).trans ((oA (a + 16) (by omega)).trans h4)) (by omega) (by omega), Option.bind_some, eC, Option.bind_some]
      exact e1
    · obtain ⟨y1, y2, y3⟩ := e6 c c0 c1
      rw [y1, y2, y3]
      simp only [tm_up_app]
      by_cases c2 : c = n - 1
      · subst c2
        rw [if_pos rfl, if_pos rfl, if_neg (by omega), if_neg (by omega), if_neg (by omega), if_neg (by omega), if_neg (by omega), if_neg (by omega)]
        exact ⟨rfl, rfl, rfl⟩
      · rw [if_neg c2, if_neg c2]
        by_cases c3 : c = k - 1
        · subst c3
          rw [if_neg (by omega), if_pos (by omega), if_pos (by omega), if_neg (by omega), if_pos (by omega), if_pos (by omega), if_neg (by omega), if_pos (by omega), if_pos (by omega), show k - 1 + 1 = k by omega]
          exact ⟨b1 ▸ rfl, rfl, rfl⟩
        · by_cases c4 : k - 1 ≤ c ∧ c < n - 1
          · rw [if_pos (by omega), if_neg (by omega), if_pos c4, if_pos (by omega), if_neg (by omega), if_pos c4, if_pos (by omega), if_neg (by omega), if_pos c4]
            exact ⟨rfl, rfl, rfl⟩
          · rw [if_neg (by omega), if_neg (by omega), if_neg c4, if_neg (by omega), if_neg (by omega), if_neg c4, if_neg (by omega), if_neg (by omega), if_neg c4]
            exact ⟨rfl, rfl, rfl⟩
/-- where a row goes as term d goes out of n -/
def tn_sg (n d t : Int) : Int := if t = n - 1 then d else if d ≤ t ∧ t < n - 1 then t + 1 else t
theorem tx5_drop (H : tn_T h a n tl tw tq) {d : Int} (hd : 0 ≤ d ∧ d < n) : ∃ h', fX5_drop a d h = some h' ∧ tn_T h' a (n - 1) (fun t => tl (if t < d then t else t + 1)) (fun t => tw (if t < d then t else t + 1)) (fun t => tq (if t < d then t else t + 1)) ∧ tn_fr a (a + 17) h h' := by
  have H0 := H
  obtain ⟨r, F, lf, qf, ⟨h1, ⟨R, h2, h2'⟩, h3, h4, h5, h6⟩, h7, h8, h9⟩ := H
  obtain ⟨w1, w2, w3, w4⟩ := h5 d hd.1 (by omega)
  have sr : ∀ t, 0 ≤ t → t < 13 → 0 ≤ tn_sg n d t ∧ tn_sg n d t < 13 := by
    intro t t0 t1
    unfold tn_sg
    split
    · omega
    · split <;> omega
  obtain ⟨h', R', lf', qf', e1, e2, e3, e4, e5, e6, e7⟩ := tx5_drop_l (a := a) (n := n) (d := d) (x := r d) ⟨h7, h8⟩ hd.1 _ (d + 1) h R lf qf h1 h2 h3 h4 (fun c c0 c1 => by
    obtain ⟨y1, y2, y3, y4⟩ := h5 c c0 c1
    exact ⟨r c, F c, h2' c c0 c1, by omega, by omega, by omega, by omega, y3⟩) (fun c c0 c1 => (h5 c c0 c1).2.2.2) (by omega) (by omega) (by omega) (by omega) ⟨F d, w3⟩ (by omega) (by omega) rfl
  refine ⟨h', ?_, ⟨fun t => r (tn_sg n d t), fun t => F (tn_sg n d t), lf', qf', ⟨e2, ⟨R', e3, fun c c0 c1 => ?_⟩, e4, e5, fun c c0 c1 => ?_, fun c e c0 c1 d0 d1 ee => ?_⟩, by omega, by omega, fun t t0 t1 => ?_⟩, fun q hq => e7 q (by omega) (by omega) (by omega) (by omega)⟩
  · simp only [fX5_drop, tn_th h1, tx5_has H0, tn_b1 hd, Option.bind_some, tn_gR (k := 0) h1 rfl, tn_lR h2 hd.1 (show d < (13 : Nat) by omega), h2' d hd.1 (show d < 13 by omega)]
    rw [if_neg (by omega), tm_wr_id (by omega) (by omega)]
    exact e1
  · rw [(e6 c c0 c1).1]
    unfold tn_sg
    dsimp only
    by_cases cc : c = n - 1
    · rw [if_pos cc, if_pos cc]
    · rw [if_neg cc, if_neg cc]
      by_cases c2 : d ≤ c ∧ c < n - 1
      · rw [if_pos (by omega), if_pos c2]; exact h2' (c + 1) (by omega) (by omega)
      · rw [if_neg (by omega), if_neg c2]; exact h2' c c0 c1
  · obtain ⟨s0, s1⟩ := sr c c0 c1
    obtain ⟨y1, y2, y3, y4⟩ := h5 _ s0 s1
    refine ⟨y1, y2, ?_, ?_⟩
    · rw [e7 _ (by dsimp only; omega) (by dsimp only; omega) (by dsimp only; omega) (by dsimp only; omega)]; exact y3
    · rw [(e6 c c0 c1).2.2]
      split
      · exact (h5 (c + 1) (by omega) (by omega)).2.2.2
      · exact (h5 c c0 c1).2.2.2
  · dsimp only at ee
    obtain ⟨s0, s1⟩ := sr c c0 c1
    obtain ⟨s2, s3⟩ := sr e d0 d1
    have q := h6 _ _ s0 s1 s2 s3 ee
    unfold tn_sg at q
    split at q <;> split at q <;> (try split at q) <;> (try split at q) <;> omega
  · have q := h9 (if t < d then t else t + 1) (by split <;> omega) (by split <;> omega)
    obtain ⟨y1, y2, y3⟩ := e6 t t0 (by omega)
    have sg : tn_sg n d t = if t < d then t else t + 1 := by
      unfold tn_sg
      by_cases c1 : t < d
      · rw [if_neg (by omega), if_neg (by omega), if_pos c1]
      · rw [if_neg (by omega), if_pos (by omega), if_neg c1]
    dsimp only
    rw [sg, y2, y3]
    obtain ⟨q1, q2, q3, q4, q5⟩ := q
    by_cases c1 : t < d
    · simp only [if_neg (show ¬ (d + 1 - 1 ≤ t ∧ t < n - 1) by omega), if_pos c1] at q1 q2 q3 q4 q5 ⊢
      exact ⟨q1, q2, q3, q4, q5⟩
    · simp only [if_pos (show d + 1 - 1 ≤ t ∧ t < n - 1 by omega), if_neg c1] at q1 q2 q3 q4 q5 ⊢
      exact ⟨q1, q2, q3, q4, q5⟩
theorem tx5_same_l {w : Nat} {nW : Int} {bs : Int → Int} {sp : Int → Int64} (W : tn_W h w nW bs sp) {b1 b2 : Nat} {f g : Nat → Int} {l : Int} (e1 : h b1 = some (.inr (0, 4, .inl f))) (e2 : h b2 = some (.inr (0, 4, .inl g))) (hl : l ≤ 4) (hf : ∀ k : Int, 0 ≤ k → k < l → 0 ≤ f k.toNat ∧ f k.toNat < nW) (hg : ∀ k : Int, 0 ≤ k → k < l → 0 ≤ g k.toNat ∧ g k.toNat < nW) : ∀ (m : Nat) (k : Int), 0 ≤ k → (l - k).toNat = m → fX5_sameBases_L3 w b1 b2 l h k = some (tn_b (∀ i : Int, k ≤ i → i < l → bs (f i.toNat) = bs (g i.toNat))) := by
  intro m
  induction m with
  | zero =>
    intro k k0 hm
    rw [fX5_sameBases_L3_eq, if_neg (by omega), tn_b1]
    intro i i0 i1; omega
  | succ m ih =>
    intro k k0 hm
    rw [fX5_sameBases_L3_eq, if_pos (by omega), show tm_len h 0 b1 = some 4 by simp [tm_len, e1], Option.bind_some, if_pos (by omega), show tm_len h 0 b2 = some 4 by simp [tm_len, e2], Option.bind_some, if_pos (by omega), tn_lI e1 k0 (by omega), Option.bind_some, tx7_base W (hf k k0 (by omega)), Option.bind_some, tn_lI e2 k0 (by omega), Option.bind_some, tx7_base W (hg k k0 (by omega)), Option.bind_some]
    by_cases c : bs (f k.toNat) = bs (g k.toNat)
    · rw [if_pos c, tm_wr_id (by omega) (by omega), ih (k + 1) (by omega) (by omega), tn_bc]
      refine ⟨fun x i i0 i1 => ?_, fun x i i0 i1 => x i (by omega) i1⟩
      by_cases cc : i = k
      · subst cc; exact c
      · exact x i (by omega) i1
    · rw [if_neg c, tn_b0]
      intro x
      exact c (x k (by omega) (by omega))
theorem tx5_sameBases {w : Nat} {nW : Int} {bs : Int → Int} {sp : Int → Int64} (W : tn_W h w nW bs sp) {b1 b2 : Nat} {f g : Nat → Int} {l : Int} (e1 : h b1 = some (.inr (0, 4, .inl f))) (e2 : h b2 = some (.inr (0, 4, .inl g))) (hl : l ≤ 4) (hf : ∀ k : Int, 0 ≤ k → k < l → 0 ≤ f k.toNat ∧ f k.toNat < nW) (hg : ∀ k : Int, 0 ≤ k → k < l → 0 ≤ g k.toNat ∧ g k.toNat < nW) : fX5_sameBases w b1 b2 l h = some (tn_b (∀ i : Int, 0 ≤ i → i < l → bs (f i.toNat) = bs (g i.toNat))) := by
  unfold fX5_sameBases
  exact tx5_same_l W e1 e2 hl hf hg _ 0 (by omega) rfl
theorem tx5_like_l {w : Nat} {nW : Int} {bs : Int → Int} {sp : Int → Int64} (W : tn_W h w nW bs sp) (H : tn_T h a n tl tw tq) (hw : ∀ t k : Int, 0 ≤ t → t < n → 0 ≤ k → k < tl t → 0 ≤ tw t k ∧ tw t k < nW) {b : Nat} {g : Nat → Int} {l : Int} (e2 : h b = some (.inr (0, 4, .inl g))) (hl : l ≤ 4) (hg : ∀ k : Int, 0 ≤ k → k < l → 0 ≤ g k.toNat ∧ g k.toNat < nW) : ∀ (m : Nat) (t : Int), 0 ≤ t → (n - t).toNat = m → fX5_hasLike_L3 a w b l h t = some (tn_b (∃ u : Int, t ≤ u ∧ u < n ∧ tl u = l ∧ ∀ k : Int, 0 ≤ k → k < l → bs (tw u k) = bs (g k.toNat))) := by
  have hn := H.rg
  intro m
  induction m with
  | zero =>
    intro t t0 hm
    rw [fX5_hasLike_L3_eq, tx5_n H, Option.bind_some, if_neg (by omega), tn_b0]
    rintro ⟨u, u0, u1, _⟩
    omega
  | succ m ih =>
    intro t t0 hm
    obtain ⟨b1, f, r1, r2, r3, r4, r5, r6, r7, r8⟩ := tx5_row H (t := t) (by omega)
    have nx : fX5_hasLike_L41 a w b l h t = fX5_hasLike_L3 a w b l h (t + 1) := by rw [fX5_hasLike_L41_eq, tm_wr_id (by omega) (by omega)]
    rw [fX5_hasLike_L3_eq, tx5_n H, Option.bind_some, if_pos (by omega), r5, Option.bind_some, r6, Option.bind_some, nx, ih (t + 1) (by omega) (by omega)]
    by_cases c : tl t = l
    · rw [if_pos c, r1, Option.bind_some, r2, Option.bind_some, tx5_sameBases W r3 e2 hl (fun k k0 k1 => by rw [r4 k k0 (by omega)]; exact hw t k t0 (by omega) k0 (by omega)) hg, Option.bind_some]
      by_cases c2 : ∀ i : Int, 0 ≤ i → i < l → bs (f i.toNat) = bs (g i.toNat)
      · rw [tn_b1 c2, if_neg (by omega), tn_b1]
        exact ⟨t, by omega, by omega, c, fun k k0 k1 => by rw [← r4 k k0 (by omega)]; exact c2 k k0 k1⟩
      · rw [tn_b0 c2, if_pos rfl, tn_bc]
        refine ⟨fun ⟨u, u0, u1, u2⟩ => ⟨u, by omega, u1, u2⟩, fun ⟨u, u0, u1, u2, u3⟩ => ⟨u, ?_, u1, u2, u3⟩⟩
        by_cases cu : u = t
        · subst cu
          exact absurd (fun i i0 i1 => by rw [r4 i i0 (by omega)]; exact u3 i i0 i1) c2
        · omega
    · rw [if_neg c, tn_bc]
      refine ⟨fun ⟨u, u0, u1, u2⟩ => ⟨u, by omega, u1, u2⟩, fun ⟨u, u0, u1, u2, u3⟩ => ⟨u, ?_, u1, u2, u3⟩⟩
      by_cases cu : u = t
      · subst cu; exact absurd u2 c
      · omega
theorem tx5_hasLike {w : Nat} {nW : Int} {bs : Int → Int} {sp : Int → Int64} (W : tn_W h w nW bs sp) (H : tn_T h a n tl tw tq) (hw : ∀ t k : Int, 0 ≤ t → t < n → 0 ≤ k → k < tl t → 0 ≤ tw t k ∧ tw t k < nW) {b : Nat} {g : Nat → Int} {l : Int} (e2 : h b = some (.inr (0, 4, .inl g))) (hl : l ≤ 4) (hg : ∀ k : Int, 0 ≤ k → k < l → 0 ≤ g k.toNat ∧ g k.toNat < nW) : fX5_hasLike a w b l h = some (tn_b (∃ u : Int, 0 ≤ u ∧ u < n ∧ tl u = l ∧ ∀ k : Int, 0 ≤ k → k < l → bs (tw u k) = bs (g k.toNat))) := by
  have H0 := H
  obtain ⟨r, F, lf, qf, ⟨h1, h2⟩, h3⟩ := H
  simp only [fX5_hasLike, tn_th h1]
  exact tx5_like_l W H0 hw e2 hl hg _ 0 (by omega) rfl
theorem tx5_two_l {w : Nat} {nW : Int} {bs : Int → Int} {sp : Int → Int64} (W : tn_W h w nW bs sp) (H : tn_T h a n tl tw tq) (hw : ∀ t k : Int, 0 ≤ t → t < n → 0 ≤ k → k < tl t → 0 ≤ tw t k ∧ tw t k < nW) : ∀ (m : Nat) (t u : Int), 0 ≤ t → t < u → t < n → u ≤ n → (400 - 20 * t - u).toNat = m → fX5_twoAreAlike_L14 a w h t u = some (tn_b (∃ x y : Int, t ≤ x ∧ x < y ∧ y < n ∧ (x = t → u ≤ y) ∧ tl x = tl y ∧ ∀ k : Int, 0 ≤ k → k < tl x → bs (tw x k) = bs (tw y k))) := by
  have hn := H.rg
  intro m
  induction m using Nat.strongRecOn with
  | _ m ih =>
    intro t u t0 tu tn un hm
    obtain ⟨b1, f, r1, r2, r3, r4, r5, r6, r7, r8⟩ := tx5_row H (t := t) (by omega)
    have tt := tn_T.le H (t := t) (by omega)
    rw [fX5_twoAreAlike_L14_eq, tx5_n H, Option.bind_some]
    by_cases c1 : u < n
    · obtain ⟨b2, g, q1, q2, q3, q4, q5, q6, q7, q8⟩ := tx5_row H (t := u) (by omega)
      have nx : fX5_twoAreAlike_L64 a w h t u = fX5_twoAreAlike_L14 a w h t (u + 1) := by rw [fX5_twoAreAlike_L64_eq, tm_wr_id (by omega) (by omega)]
      rw [if_pos c1, r5, Option.bind_some, r6, Option.bind_some, Option.bind_some, q6, Option.bind_some, nx, ih (400 - 20 * t - (u + 1)).toNat (by omega) t (u + 1) t0 (by omega) tn (by omega) rfl]
      by_cases c : tl t = tl u
      · rw [if_pos c, r1, Option.bind_some, r2, Option.bind_some, Option.bind_some, q2, Option.bind_some, Option.bind_some, r6, Option.bind_some, tx5_sameBases W r3 q3 (by omega) (fun k k0 k1 => by rw [r4 k k0 (by omega)]; exact hw t k t0 (by omega) k0 (by omega)) (fun k k0 k1 => by rw [q4 k k0 (by omega)]; exact hw u k (by omega) (by omega) k0 (by omega)), Option.bind_some]
        by_cases c2 : ∀ i : Int, 0 ≤ i → i < tl t → bs (f i.toNat) = bs (g i.toNat)
        · rw [tn_b1 c2, if_neg (by omega), tn_b1]
          exact ⟨t, u, by omega, tu, c1, by omega, c, fun k k0 k1 => by rw [← r4 k k0 (by omega), ← q4 k k0 (by omega)]; exact c2 k k0 k1⟩
        · rw [tn_b0 c2, if_pos rfl, tn_bc]
          refine ⟨fun ⟨x, y, u0, u1, u2, u3, u4⟩ => ⟨x, y, u0, u1, u2, by omega, u4⟩, fun ⟨x, y, u0, u1, u2, u3, u4, u5⟩ => ⟨x, y, u0, u1, u2, ?_, u4, u5⟩⟩
          intro cx
          have := u3 cx
          by_cases cu : y = u
          · subst cu; subst cx
            exact absurd (fun i i0 i1 => by rw [r4 i i0 (by omega), q4 i i0 (by omega)]; exact u5 i i0 i1) c2
          · omega
      · rw [if_neg c, tn_bc]
        refine ⟨fun ⟨x, y, u0, u1, u2, u3, u4⟩ => ⟨x, y, u0, u1, u2, by omega, u4⟩, fun ⟨x, y, u0, u1, u2, u3, u4, u5⟩ => ⟨x, y, u0, u1, u2, ?_, u4, u5⟩⟩
        intro cx
        have := u3 cx
        by_cases cu : y = u
        · subst cu; subst cx; exact absurd u4 c
        · omega
    · rw [if_neg c1, tm_wr_id (by omega) (by omega), fX5_twoAreAlike_L2_eq, tx5_n H, Option.bind_some]
      by_cases c2 : t + 1 < n
      · rw [if_pos c2, tm_wr_id (by omega) (by omega), ih (400 - 20 * (t + 1) - (t + 1 + 1)).toNat (by omega) (t + 1) (t + 1 + 1) (by omega) (by omega) c2 (by omega) rfl, tn_bc]
        exact ⟨fun ⟨x, y, u0, u1, u2, u3, u4⟩ => ⟨x, y, by omega, u1, u2, by omega, u4⟩, fun ⟨x, y, u0, u1, u2, u3, u4⟩ => ⟨x, y, by
          by_cases cx : x = t
          · have := u3 cx; omega
          · omega, u1, u2, by omega, u4⟩⟩
      · rw [if_neg c2, tn_b0]
        rintro ⟨x, y, u0, u1, u2, u3, u4⟩
        omega
theorem tx5_twoAreAlike {w : Nat} {nW : Int} {bs : Int → Int} {sp : Int → Int64} (W : tn_W h w nW bs sp) (H : tn_T h a n tl tw tq) (hw : ∀ t k : Int, 0 ≤ t → t < n → 0 ≤ k → k < tl t → 0 ≤ tw t k ∧ tw t k < nW) : fX5_twoAreAlike a w h = some (tn_b (∃ x y : Int, 0 ≤ x ∧ x < y ∧ y < n ∧ tl x = tl y ∧ ∀ k : Int, 0 ≤ k → k < tl x → bs (tw x k) = bs (tw y k))) := by
  have H0 := H
  have hn := H.rg
  obtain ⟨r, F, lf, qf, ⟨h1, h2⟩, h3⟩ := H
  simp only [fX5_twoAreAlike, tn_th h1]
  rw [fX5_twoAreAlike_L2_eq, tx5_n H0, Option.bind_some]
  by_cases c : 0 < n
  · rw [if_pos c, tm_wr_id (by omega) (by omega), tx5_two_l W H0 hw _ 0 (0 + 1) (by omega) (by omega) c (by omega) rfl, tn_bc]
    exact ⟨fun ⟨x, y, u0, u1, u2, u3, u4⟩ => ⟨x, y, u0, u1, u2, u4⟩, fun ⟨x, y, u0, u1, u2, u4⟩ => ⟨x, y, u0, u1, u2, by omega, u4⟩⟩
  · rw [if_neg c, tn_b0]
    rintro ⟨x, y, u0, u1, u2, u4⟩
    omega
theorem tx5_copy_l {b : Nat} {n' : Int} {r r' : Int → Nat} {F' : Int → Nat → Int} {lf' qf' : Nat → Int} (hd : a + 17 ≤ b ∨ b + 17 ≤ a) : ∀ (m : Nat) (k : Int) (h : tm_H) (F : Int → Nat → Int) (lf qf : Nat → Int), tn_Tr h a n r F lf qf → tn_Tr h b n' r' F' lf' qf' → (∀ (c : Int), 0 ≤ c → c < k → (∀ i : Nat, i < 4 → F c i = F' c i) ∧ lf c.toNat = lf' c.toNat ∧ qf c.toNat = qf' c.toNat) → 0 ≤ k → k ≤ 13 → (13 - k).toNat = m → ∃ h' F2 lf2 qf2, fX5_copyFrom_L2 a b k h = some h' ∧ tn_Tr h' a n' r F2 lf2 qf2 ∧ (∀ (c : Int), 0 ≤ c → c < 13 → (∀ i : Nat, i < 4 → F2 c i = F' c i) ∧ lf2 c.toNat = lf' c.toNat ∧ qf2 c.toNat = qf' c.toNat) ∧ tn_fr a (a + 17) h h' := by
  intro m
  induction m with
  | zero =>
    intro k h F lf qf H G hk k0 k1 hm
    obtain ⟨h1, ⟨R, h2, h2'⟩, h3, h4, h5, h6⟩ := H
    obtain ⟨g1, g2⟩ := G
    obtain ⟨hA, eA, pA, oA⟩ := tn_SF (k := 3) h1 (.inl n') (by simp)
    refine ⟨hA, F, lf, qf, ?_, ⟨pA, ⟨R, ?_, h2'⟩, ?_, ?_, fun c c0 c1 => ?_, h6⟩, fun c c0 c1 => hk c c0 (by omega), fun q hq => oA q (by omega)⟩
    · rw [fX5_copyFrom_L2_eq, if_neg (by omega), tn_gI (k := 3) g1 rfl, Option.bind_some, eA]
      rfl
    · rw [oA _ (by omega)]; exact h2
    · rw [oA _ (by omega)]; exact h3
    · rw [oA _ (by omega)]; exact h4
    · obtain ⟨x, y, z, w⟩ := h5 c c0 c1
      exact ⟨x, y, by rw [oA _ (by omega)]; exact z, w⟩
  | succ m ih =>
    intro k h F lf qf H G hk k0 k1 hm
    have G0 := G
    obtain ⟨h1, ⟨R, h2, h2'⟩, h3, h4, h5, h6⟩ := H
    obtain ⟨g1, ⟨R', g2, g2'⟩, g3, g4, g5, g6⟩ := G
    obtain ⟨x, y, z, w⟩ := h5 k k0 (by omega)
    obtain ⟨x', y', z', w'⟩ := g5 k k0 (by omega)
    obtain ⟨hA, eA, pA, oA⟩ := tn_CPI z' z (show r' k ≠ r k by omega) (show 0 ≤ (0 : Int) by omega) (show 0 ≤ (0 : Int) by omega) (show 0 ≤ (4 : Int) by omega) (by omega) (by omega)
    obtain ⟨hB, eB, pB, oB⟩ := tn_WI (lf' k.toNat) ((oA (a + 15) (by omega)).trans h3) k0 (show k < (13 : Nat) by omega)
    obtain ⟨hC, eC, pC, oC⟩ := tn_WZ (qf' k.toNat) ((oB (a + 16) (by omega)).trans ((oA (a + 16) (by omega)).trans h4)) k0 (show k < (13 : Nat) by omega) w'
    have gA : hA a = _ := (oA a (by omega)).trans h1
    have gB : hB a = _ := (oB a (by omega)).trans gA
    have gC : hC a = _ := (oC a (by omega)).trans gB
    have kA : hA b = _ := (oA b (by omega)).trans g1
    have kB : hB b = _ := (oB b (by omega)).trans kA
    have GC : tn_Tr hC b n' r' F' lf' qf' := G0.cg (fun q q1 q2 => by rw [oC q (by omega), oB q (by omega), oA q (by omega)])
    have HC : tn_Tr hC a n r (fun c => if c = k then tm_cy (F' k) (F k) (Int.toNat 0) (Int.toNat 0) (Int.toNat 4) else F c) (tm_up lf k.toNat (lf' k.toNat)) (tm_up qf k.toNat (qf' k.toNat)) := by
      refine ⟨gC, ⟨R, ?_, h2'⟩, ?_, pC, fun c c0 c1 => ?_, h6⟩
      · rw [oC _ (by omega), oB _ (by omega), oA _ (by omega)]; exact h2
      · rw [oC _ (by omega)]; exact pB
      · obtain ⟨y1, y2, y3, y4⟩ := h5 c c0 c1
        refine ⟨y1, y2, ?_, ?_⟩
        · rw [oC _ (by omega), oB _ (by omega)]
          dsimp only
          by_cases ck : c = k
          · subst ck; rw [if_pos rfl]; exact pA
          · rw [if_neg ck, oA _ (fun e => ck (h6 c k c0 c1 k0 (by omega) e))]; exact y3
        · rw [tm_up_app]
          split
          · exact w'
          · exact y4
    obtain ⟨h', F2, lf2, qf2, e1, e2, e3, e5⟩ := ih (k + 1) hC _ _ _ HC GC (fun c c0 c1 => by
      rw [tm_up_app, tm_up_app]
      by_cases ck : c = k
      · subst ck
        rw [if_pos rfl, if_pos rfl, if_pos rfl]
        exact ⟨fun i i1 => tn_cy0 i1, rfl, rfl⟩
      · rw [if_neg ck, if_neg (by omega), if_neg (by omega)]
        exact hk c c0 (by omega)) (by omega) (by omega) (by omega)
    refine ⟨h', F2, lf2, qf2, ?_, e2, e3, fun q hq => by rw [e5 q hq, oC q (by omega), oB q (by omega), oA q (by omega)]⟩
    rw [fX5_copyFrom_L2_eq, if_pos (by omega), tn_gR (k := 0) g1 rfl, Option.bind_some, tn_lR g2 k0 (show k < (13 : Nat) by omega), g2' k k0 (by omega), Option.bind_some, tn_gR (k := 0) h1 rfl, Option.bind_some, tn_lR h2 k0 (show k < (13 : Nat) by omega), h2' k k0 (by omega), Option.bind_some, eA, Option.bind_some, tn_gR (k := 1) gA rfl, Option.bind_some, tn_gR (k := 1) kA rfl, Option.bind_some, tn_lI ((oA (b + 15) (by omega)).trans g3) k0 (by omega), Option.bind_some, eB, Option.bind_some, tn_gR (k := 2) gB rfl, Option.bind_some, tn_gR (k := 2) kB rfl, Option.bind_some, tn_lI ((oB (b + 16) (by omega)).trans ((oA (b + 16) (by omega)).trans g4)) k0 (by omega), Option.bind_some, eC, Option.bind_some, tm_wr_id (by omega) (by omega)]
    exact e1
theorem tx5_copyFrom {b : Nat} {n' : Int} {tl' : Int → Int} {tw' : Int → Int → Int} {tq' : Int → Int} (H : tn_T h a n tl tw tq) (G : tn_T h b n' tl' tw' tq') (hd : a + 17 ≤ b ∨ b + 17 ≤ a) : ∃ h', fX5_copyFrom a b h = some h' ∧ tn_T h' a n' tl' tw' tq' ∧ tn_fr a (a + 17) h h' := by
  obtain ⟨r, F, lf, qf, Hr, h7, h8, h9⟩ := H
  obtain ⟨r', F', lf', qf', Gr, g7, g8, g9⟩ := G
  obtain ⟨h', F2, lf2, qf2, e1, e2, e3, e5⟩ := tx5_copy_l hd _ 0 h F lf qf Hr Gr (fun c c0 c1 => by omega) (by omega) (by omega) rfl
  refine ⟨h', ?_, ⟨r, F2, lf2, qf2, e2, g7, g8, fun t t0 t1 => ?_⟩, e5⟩
  · simp only [fX5_copyFrom, tn_th Hr.1]
    exact e1
  · obtain ⟨w1, w2, w3, w4, w5⟩ := g9 t t0 t1
    obtain ⟨y1, y2, y3⟩ := e3 t t0 (by omega)
    rw [y2, y3]
    refine ⟨w1, w2, w3, w4, fun k k0 k1 => ?_⟩
    rw [y1 _ (by omega)]
    exact w5 k k0 k1
theorem tx5_init {v0 v1 v2 v3 : tm_Fv} (e : h a = some (.inl (5, [v0, v1, v2, v3]))) : ∃ h', fX5_init a h (a + 1) = some (h', a + 17) ∧ tn_T h' a 0 (fun _ => 0) (fun _ _ => 0) (fun _ => 0) ∧ tn_fr a (a + 17) h h' := by
  obtain ⟨h1, e1, p1, r1, o1⟩ := tn_NM h (a + 1) 13 4
  obtain ⟨h2, e2, p2, o2⟩ := tn_SF (k := 0) ((o1 a (by omega)).trans e) (.inr (some (a + 1))) (by simp)
  obtain ⟨h3, e3, p3, o3⟩ := tn_NW h2 (a + 1 + 14) (.inr (0, 13, .inl (fun _ => 0)))
  obtain ⟨h4, e4, p4, o4⟩ := tn_SF (k := 1) ((o3 a (by omega)).trans p2) (.inr (some (a + 1 + 14))) (by simp)
  obtain ⟨h5, e5, p5, o5⟩ := tn_NW h4 (a + 1 + 15) (.inr (2, 13, .inl (fun _ => 0)))
  obtain ⟨h6, e6, p6, o6⟩ := tn_SF (k := 2) ((o5 a (by omega)).trans p4) (.inr (some (a + 1 + 15))) (by simp)
  obtain ⟨h7, e7, p7, o7⟩ := tn_SF (k := 3) p6 (.inl 0) (by simp)
  refine ⟨h7, ?_, ⟨fun c => a + 2 + c.toNat, fun _ _ => 0, fun _ => 0, fun _ => 0, ⟨p7, ⟨_, (o7 _ (by omega)).trans ((o6 _ (by omega)).trans ((o5 _ (by omega)).trans ((o4 _ (by omega)).trans ((o3 _ (by omega)).trans ((o2 _ (by omega)).trans p1))))), fun c c0 c1 => ?_⟩, ?_, ?_, fun c c0 c1 => ⟨by dsimp only; omega, by dsimp only; omega, ?_, Or.inl rfl⟩, fun c d c0 c1 d0 d1 e => by dsimp only at e; omega⟩, by omega, by omega, fun t t0 t1 => by omega⟩, fun q hq => ?_⟩
  · simp only [fX5_init, tn_th e, e1, Option.bind_some, e2, e3, e4, e5, e6, e7]
  · dsimp only
    rw [if_pos (by omega)]
  · rw [o7 _ (by omega), o6 _ (by omega), o5 _ (by omega), o4 _ (by omega)]; exact p3
  · rw [o7 _ (by omega), o6 _ (by omega)]; exact p5
  · dsimp only; rw [o7 _ (by omega), o6 _ (by omega), o5 _ (by omega), o4 _ (by omega), o3 _ (by omega), o2 _ (by omega)]; exact r1 _ (by omega) (by omega)
  · rw [o7 q (by omega), o6 q (by omega), o5 q (by omega), o4 q (by omega), o3 q (by omega), o2 q (by omega), o1 q (by omega)]
end TRM
