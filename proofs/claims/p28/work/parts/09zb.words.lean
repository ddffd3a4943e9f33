/-! words, the rest -/
/-- the first place below n that is so, -99 if there is none -/
def tn_ff (n : Int) (P : Int → Prop) (r : Int) : Prop := (r = -99 ∧ ∀ w : Int, 0 ≤ w → w < n → ¬ P w) ∨ (0 ≤ r ∧ r < n ∧ P r ∧ ∀ w : Int, 0 ≤ w → w < r → ¬ P w)
theorem tn_ff.uq {n : Int} {P Q : Int → Prop} {r s : Int} (a : tn_ff n P r) (b : tn_ff n Q s) (e : ∀ w : Int, 0 ≤ w → w < n → (P w ↔ Q w)) : r = s := by
  rcases a with ⟨a1, a2⟩ | ⟨a1, a2, a3, a4⟩
  · rcases b with ⟨b1, b2⟩ | ⟨b1, b2, b3, b4⟩
    · omega
    · exact absurd ((e s b1 b2).mpr b3) (a2 s b1 b2)
  · rcases b with ⟨b1, b2⟩ | ⟨b1, b2, b3, b4⟩
    · exact absurd ((e r a1 a2).mp a3) (b2 r a1 a2)
    · by_cases c : r < s
      · exact absurd ((e r a1 a2).mp a3) (b4 r a1 c)
      · by_cases d : s < r
        · exact absurd ((e s b1 b2).mpr b3) (a4 s b1 d)
        · omega
/-- sums -/
def tn_sm (f : Int → Int) : Nat → Int
  | 0 => 0
  | m + 1 => tn_sm f m + f m
theorem tn_sm_rg {f : Int → Int} {B : Int} : ∀ {m : Nat}, (∀ i : Int, 0 ≤ i → i < m → 0 ≤ f i ∧ f i ≤ B) → 0 ≤ tn_sm f m ∧ tn_sm f m ≤ B * m
  | 0, _ => by simp [tn_sm]
  | m + 1, e => by
    have h1 := tn_sm_rg (f := f) (B := B) (m := m) (fun i a b => e i a (by omega))
    have h2 := e m (by omega) (by omega)
    have h3 : B * ((m + 1 : Nat) : Int) = B * m + B := by rw [Int.natCast_add, Int.mul_add]; simp
    rw [h3]
    simp only [tn_sm]
    omega
theorem tn_sm_cg {f g : Int → Int} : ∀ {m : Nat}, (∀ i : Int, 0 ≤ i → i < m → f i = g i) → tn_sm f m = tn_sm g m
  | 0, _ => rfl
  | m + 1, e => by simp only [tn_sm]; rw [tn_sm_cg (fun i a b => e i a (by omega)), e m (by omega) (by omega)]
theorem tn_sm_su {f : Int → Int} {k : Int} (h : 0 ≤ k) : tn_sm f (k + 1).toNat = tn_sm f k.toNat + f k := by
  rw [show (k + 1).toNat = k.toNat + 1 by omega]
  simp only [tn_sm]
  rw [Int.toNat_of_nonneg h]
/-- one where it is so -/
theorem tn_b_rg (P : Prop) : 0 ≤ tn_b P ∧ tn_b P ≤ 1 := by rcases tn_b01 P with h | h <;> rw [h] <;> omega
section WRD2
variable {h : tm_H} {a : Nat} {n : Int} {bs : Int → Int} {sp : Int → Int64}
theorem tn_lcmp {x y : Int64} : tm_lcmp x y = 0 ↔ x = y := by
  unfold tm_lcmp lg_cmp
  by_cases c : x = y
  · subst c
    by_cases c2 : x < x
    · exact absurd c2 (Int64.lt_irrefl)
    · simp [c2]
  · by_cases c2 : y < x
    · simp [c, c2]
    · simp [c, c2]
/-- the byte of a spelling -/
def tn_by (s : Int64) (i : Int) : Int := tm_and (tm_l2i (tm_lushr s (tm_wr (i * 8)))) 255
theorem tx7_letterAt (H : tn_W h a n bs sp) {w i : Int} (hw : 0 ≤ w ∧ w < n) (hi : 0 ≤ i) : fX7_letterAt a w i h = some (if i < 8 then (if tn_by (sp w) i = 0 then -99 else tn_by (sp w) i) else -99) := by
  have H0 := H
  obtain ⟨S, B, h1, h2, h3, h4, h5, h6⟩ := H
  simp only [fX7_letterAt, tn_th h1, tx7_has H0, Option.bind_some, tn_b1 hw, tn_gR (k := 0) h1 rfl, tn_lL h2 (show 0 ≤ w by omega) (show w < (60 : Nat) by omega), (h6 w hw.1 hw.2).2]
  rw [if_neg (by omega), if_neg (by omega)]
  by_cases c : i < 8
  · rw [if_pos c, if_pos c]
    by_cases c2 : tn_by (sp w) i = 0
    · rw [if_pos c2]; unfold tn_by at c2; rw [if_pos c2]
    · rw [if_neg c2]; unfold tn_by at c2; rw [if_neg c2]; rfl
  · rw [if_neg c, if_neg c]
theorem tx7_formCount_l (H : tn_W h a n bs sp) : ∀ (m : Nat) (k : Int), 0 ≤ k → k ≤ n → (n - k).toNat = m → fX7_formCount_L4 a h (tn_sm (fun w => tn_b (bs w ≠ w)) k.toNat) k = some (tn_sm (fun w => tn_b (bs w ≠ w)) n.toNat) := by
  obtain ⟨S, B, h1, h2, h3, h4, h5, h6⟩ := H
  intro m
  induction m with
  | zero =>
    intro k k0 k1 hm
    rw [fX7_formCount_L4_eq, tn_gI (k := 2) h1 rfl, Option.bind_some, if_neg (by omega), show k = n by omega]
  | succ m ih =>
    intro k k0 k1 hm
    have r := tn_sm_rg (f := fun w => tn_b (bs w ≠ w)) (B := 1) (m := k.toNat) (fun i _ _ => tn_b_rg _)
    rw [fX7_formCount_L4_eq, tn_gI (k := 2) h1 rfl, Option.bind_some, if_pos (by omega), tn_gR (k := 1) h1 rfl, Option.bind_some, tn_lI h3 (by omega) (by omega), Option.bind_some, (h6 k k0 (by omega)).1, fX7_formCount_L25_eq, fX7_formCount_L25_eq, tm_wr_id (z := k + 1) (by omega) (by omega)]
    have q := ih (k + 1) (by omega) (by omega) (by omega)
    rw [tn_sm_su k0] at q
    by_cases c : bs k = k
    · rw [if_pos c]
      rw [tn_b0 (by omega), Int.add_zero] at q
      exact q
    · rw [if_neg c, tm_wr_id (by omega) (by omega)]
      rw [tn_b1 c] at q
      exact q
theorem tx7_formCount (H : tn_W h a n bs sp) : fX7_formCount a h = some (tn_sm (fun w => tn_b (bs w ≠ w)) n.toNat) := by
  have H0 := H
  obtain ⟨S, B, h1, h2, h3, h4, h5, h6⟩ := H
  simp only [fX7_formCount, tn_th h1]
  exact tx7_formCount_l H0 _ 0 (by omega) h4 rfl
theorem tx7_add (H : tn_W h a n bs sp) (s : Int64) (hn : n < 60) : ∃ h', fX7_add a s h = some (n, h') ∧ tn_W h' a (n + 1) (fun w => if w = n then n else bs w) (fun w => if w = n then s else sp w) ∧ tn_fr a (a + 3) h h' := by
  obtain ⟨S, B, h1, h2, h3, h4, h5, h6⟩ := H
  have g1 : tm_up (tm_up h (a + 1) (some (.inr (1, 60, .inr (.inl (tm_up S n.toNat s)))))) (a + 2) (some (.inr (0, 60, .inl (tm_up B n.toNat n)))) a = some (.inl (7, [.inr (some (a + 1)), .inr (some (a + 2)), .inl n])) := by
    rw [tm_up_ne (by omega), tm_up_ne (by omega)]; exact h1
  have g0 : tm_up h (a + 1) (some (.inr (1, 60, .inr (.inl (tm_up S n.toNat s))))) a = some (.inl (7, [.inr (some (a + 1)), .inr (some (a + 2)), .inl n])) := by
    rw [tm_up_ne (by omega)]; exact h1
  have g2 : tm_up h (a + 1) (some (.inr (1, 60, .inr (.inl (tm_up S n.toNat s))))) (a + 2) = some (.inr (0, 60, .inl B)) := by
    rw [tm_up_ne (by omega)]; exact h3
  refine ⟨tm_up (tm_up (tm_up h (a + 1) (some (.inr (1, 60, .inr (.inl (tm_up S n.toNat s)))))) (a + 2) (some (.inr (0, 60, .inl (tm_up B n.toNat n))))) a (some (.inl (7, [.inr (some (a + 1)), .inr (some (a + 2)), .inl (n + 1)]))), ?_, ⟨tm_up S n.toNat s, tm_up B n.toNat n, tm_up_self _ _ _, ?_, ?_, by omega, by omega, ?_⟩, ((tn_fr.up (by omega) (by omega)).put (by omega) (by omega)).put (by omega) (by omega)⟩
  · simp only [fX7_add, tn_th h1, tn_gI (k := 2) h1 rfl, tn_gR (k := 0) h1 rfl, Option.bind_some, tn_wL s h2 h4 (show n < (60 : Nat) by omega)]
    rw [if_pos hn]
    simp only [tn_gR (k := 1) g0 rfl, tn_gI (k := 2) g0 rfl, Option.bind_some, tn_wI n g2 h4 (show n < (60 : Nat) by omega)]
    simp only [tn_gI (k := 2) g1 rfl, Option.bind_some, tm_wr_id (show -2147483648 ≤ n + 1 by omega) (show n + 1 < 2147483648 by omega)]
    rw [tn_sF g1 _ (show 2 < 3 by omega), Option.bind_some, tn_gI (k := 2) (fs := [.inr (some (a + 1)), .inr (some (a + 2)), .inl n].set 2 (.inl (n + 1))) (tm_up_self _ _ _) rfl, Option.bind_some, tm_wr_id (by omega) (by omega), show n + 1 - 1 = n by omega]
    rfl
  · rw [tm_up_ne (by omega), tm_up_ne (by omega)]; exact tm_up_self _ _ _
  · rw [tm_up_ne (by omega)]; exact tm_up_self _ _ _
  · intro w w0 w1
    rw [tm_up_app, tm_up_app]
    by_cases c : w = n
    · subst c; simp
    · rw [if_neg (by omega), if_neg (by omega)]
      simp only [if_neg c]
      exact h6 w w0 (by omega)
theorem tx7_add_no (H : tn_W h a n bs sp) (s : Int64) (hn : ¬ n < 60) : fX7_add a s h = some (-99, h) := by
  obtain ⟨S, B, h1, h2, h3, h4, h5, h6⟩ := H
  simp only [fX7_add, tn_th h1, tn_gI (k := 2) h1 rfl, Option.bind_some]
  rw [if_neg hn]
theorem tx7_copyFrom {b : Nat} {n' : Int} {bs' : Int → Int} {sp' : Int → Int64} (H : tn_W h a n bs sp) (G : tn_W h b n' bs' sp') (hd : a + 3 ≤ b ∨ b + 3 ≤ a) : ∃ h', fX7_copyFrom a b h = some h' ∧ tn_W h' a n' bs' sp' ∧ tn_fr a (a + 3) h h' := by
  obtain ⟨S, B, h1, h2, h3, h4, h5, h6⟩ := H
  obtain ⟨S', B', k1, k2, k3, k4, k5, k6⟩ := G
  have g0 : ∀ q, q ≠ a + 1 → tm_up h (a + 1) (some (.inr (1, 60, .inr (.inl (tm_cy S' S 0 0 60))))) q = h q := fun q hq => tm_up_ne hq
  have g1 : ∀ q, q ≠ a + 1 → q ≠ a + 2 → tm_up (tm_up h (a + 1) (some (.inr (1, 60, .inr (.inl (tm_cy S' S 0 0 60)))))) (a + 2) (some (.inr (0, 60, .inl (tm_cy B' B 0 0 60)))) q = h q := fun q hq hq2 => by rw [tm_up_ne hq2]; exact g0 q hq
  refine ⟨tm_up (tm_up (tm_up h (a + 1) (some (.inr (1, 60, .inr (.inl (tm_cy S' S 0 0 60)))))) (a + 2) (some (.inr (0, 60, .inl (tm_cy B' B 0 0 60))))) a (some (.inl (7, [.inr (some (a + 1)), .inr (some (a + 2)), .inl n']))), ?_, ⟨tm_cy S' S 0 0 60, tm_cy B' B 0 0 60, tm_up_self _ _ _, ?_, ?_, k4, k5, ?_⟩, ((tn_fr.up (by omega) (by omega)).put (by omega) (by omega)).put (by omega) (by omega)⟩
  · simp only [fX7_copyFrom, tn_th h1, tn_gR (k := 0) h1 rfl, tn_gR (k := 0) k1 rfl, Option.bind_some]
    rw [tn_cpL k2 h2 (by omega) (by omega) (by omega) (by omega) (by omega) (by omega), Option.bind_some]
    rw [show Int.toNat 0 = 0 from rfl, show Int.toNat 60 = 60 from rfl]
    simp only [tn_gR (k := 1) ((g0 a (by omega)).trans h1) rfl, tn_gR (k := 1) ((g0 b (by omega)).trans k1) rfl, Option.bind_some]
    rw [tn_cpI ((g0 (b + 2) (by omega)).trans k3) ((g0 (a + 2) (by omega)).trans h3) (by omega) (by omega) (by omega) (by omega) (by omega) (by omega), Option.bind_some]
    rw [show Int.toNat 0 = 0 from rfl, show Int.toNat 60 = 60 from rfl]
    rw [tn_gI (k := 2) ((g1 b (by omega) (by omega)).trans k1) rfl, Option.bind_some, tn_sF ((g1 a (by omega) (by omega)).trans h1) _ (show 2 < 3 by omega)]
    rfl
  · rw [tm_up_ne (by omega), tm_up_ne (by omega)]; exact tm_up_self _ _ _
  · rw [tm_up_ne (by omega)]; exact tm_up_self _ _ _
  · intro w w0 w1
    unfold tm_cy
    rw [if_pos (by omega), if_pos (by omega), show 0 + (w.toNat - 0) = w.toNat by omega]
    exact k6 w w0 w1
end WRD2
section WRD3
theorem tx7_init_l (a n0 : Nat) : ∀ (m : Nat) (k : Int) (h : tm_H) (n : Int) (bs : Int → Int) (sp : Int → Int64), tn_W h a n bs sp → n = k - 97 → (∀ w : Int, 0 ≤ w → w < n → bs w = w ∧ sp w = tm_i2l (97 + w)) → 97 ≤ k → k ≤ 123 → (123 - k).toNat = m → ∃ h', fX7_init_L28 a n0 k h = some (h', n0 + 2) ∧ tn_W h' a 26 (fun w => w) (fun w => tm_i2l (97 + w)) ∧ tn_fr a (a + 3) h h' := by
  intro m
  induction m with
  | zero =>
    intro k h n bs sp H hn hb k0 k1 hm
    refine ⟨h, ?_, ?_, tn_fr.rf⟩
    · rw [fX7_init_L28_eq, if_pos (by omega)]
    · have : n = 26 := by omega
      subst this
      exact H.ext (fun w w0 w1 => ⟨(hb w w0 w1).1.symm, (hb w w0 w1).2.symm⟩)
  | succ m ih =>
    intro k h n bs sp H hn hb k0 k1 hm
    obtain ⟨h1, e1, H1, f1⟩ := tx7_add H (tm_i2l k) (by omega)
    obtain ⟨h2, e2, H2, f2⟩ := ih (k + 1) h1 (n + 1) _ _ H1 (by omega) (fun w w0 w1 => by
      by_cases c : w = n
      · subst c; simp only [if_true]; exact ⟨trivial, by rw [show 97 + w = k by omega]⟩
      · simp only [if_neg c]; exact hb w w0 (by omega)) (by omega) (by omega) (by omega)
    refine ⟨h2, ?_, H2, f1.tr f2⟩
    rw [fX7_init_L28_eq, if_neg (by omega), e1, Option.bind_some, tm_wr_id (by omega) (by omega)]
    exact e2
theorem tx7_init {h : tm_H} {a : Nat} {v0 v1 v2 : tm_Fv} (e : h a = some (.inl (7, [v0, v1, v2]))) : ∃ h', fX7_init a h (a + 1) = some (h', a + 3) ∧ tn_W h' a 26 (fun w => w) (fun w => tm_i2l (97 + w)) ∧ tn_fr a (a + 3) h h' := by
  obtain ⟨h1, e1, p1, o1⟩ := tn_NW h (a + 1) (.inr (1, 60, .inr (.inl (fun _ => 0))))
  obtain ⟨h2, e2, p2, o2⟩ := tn_SF (k := 0) ((o1 a (by omega)).trans e) (.inr (some (a + 1))) (by simp)
  obtain ⟨h3, e3, p3, o3⟩ := tn_NW h2 (a + 1 + 1) (.inr (0, 60, .inl (fun _ => 0)))
  obtain ⟨h4, e4, p4, o4⟩ := tn_SF (k := 1) ((o3 a (by omega)).trans p2) (.inr (some (a + 1 + 1))) (by simp)
  obtain ⟨h5, e5, p5, o5⟩ := tn_SF (k := 2) p4 (.inl 0) (by simp)
  have H5 : tn_W h5 a 0 (fun w => w) (fun w => tm_i2l (97 + w)) := by
    refine ⟨fun _ => 0, fun _ => 0, p5, ?_, ?_, by omega, by omega, fun w a b => by omega⟩
    · rw [o5 _ (by omega), o4 _ (by omega), o3 _ (by omega), o2 _ (by omega)]; exact p1
    · rw [o5 _ (by omega), o4 _ (by omega)]; exact p3
  obtain ⟨h6, e6, p6, f6⟩ := tx7_init_l a (a + 1) _ 97 h5 0 _ _ H5 (by omega) (fun w a b => by omega) (by omega) (by omega) rfl
  refine ⟨h6, ?_, p6, fun q hq => ?_⟩
  · simp only [fX7_init, tn_th e, e1, Option.bind_some, e2, e3, e4, e5]
    exact e6
  · rw [f6 q hq, o5 q (by omega), o4 q (by omega), o3 q (by omega), o2 q (by omega), o1 q (by omega)]
end WRD3
