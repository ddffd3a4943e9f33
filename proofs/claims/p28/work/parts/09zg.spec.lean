/-! what reading a chapter is: g is the longest term at a place (-99: none), w is how wide a term is -/
theorem tn_lg.uq {m : Int} {P : Int → Prop} {len : Int → Int} {x y : Int} (a : tn_lg m P len x) (b : tn_lg m P len y) : x = y := by
  rcases a with ⟨a1, a2⟩ | ⟨a1, a2, a3, a4⟩
  · rcases b with ⟨b1, b2⟩ | ⟨b1, b2, b3, b4⟩
    · omega
    · exact absurd b3 (a2 y b1 b2)
  · rcases b with ⟨b1, b2⟩ | ⟨b1, b2, b3, b4⟩
    · exact absurd a3 (b2 x a1 a2)
    · have := a4 y b1 b2 b3
      have := b4 x a1 a2 a3
      omega
noncomputable def tn_L (s : tn_St) (c p : Int) : Int := Classical.epsilon (fun r => tn_lg (tn_nT s) (fun t => tn_oc s t c p) (tn_tl s) r)
theorem tn_L_eq {s : tn_St} {c p r : Int} (H : tn_lg (tn_nT s) (fun t => tn_oc s t c p) (tn_tl s) r) : tn_L s c p = r := (Classical.epsilon_spec (p := fun r => tn_lg (tn_nT s) (fun t => tn_oc s t c p) (tn_tl s) r) ⟨r, H⟩).uq H
/-- the place from which, and the place behind, before a place is read -/
def tn_rd (g w : Int → Int) : Nat → Int × Int
  | 0 => (0, 0)
  | p + 1 => if (p : Int) < (tn_rd g w p).2 then tn_rd g w p else ((p : Int), p + w (g p))
/-- a reading begins at a place (or no term is there) -/
def tn_be (g w : Int → Int) (p : Int) : Prop := ¬ p < (tn_rd g w p.toNat).2
def tn_fm (g w : Int → Int) (p : Int) : Int := (tn_rd g w (p + 1).toNat).1
def tn_ov (g w : Int → Int) (p : Int) : Int := g (tn_fm g w p)
def tn_wh (g w : Int → Int) (p : Int) : Int := if tn_ov g w p = -99 then -99 else p - tn_fm g w p
/-- a term is read from a place on -/
def tn_us (g w : Int → Int) (t p : Int) : Prop := tn_be g w p ∧ g p = t
/-- a mark stands at a place -/
def tn_mk (g w q : Int → Int) (p : Int) : Prop := tn_be g w p ∧ g p ≠ -99 ∧ q (g p) = 0 ∧ ∀ r : Int, 0 ≤ r → r < p → ¬ tn_us g w (g p) r
section RD
variable {g w : Int → Int}
theorem tn_rd_su {p : Int} (h : 0 ≤ p) : tn_rd g w (p + 1).toNat = if p < (tn_rd g w p.toNat).2 then tn_rd g w p.toNat else (p, p + w (g p)) := by
  rw [show (p + 1).toNat = p.toNat + 1 by omega]
  simp only [tn_rd]
  rw [Int.toNat_of_nonneg h]
/-- the place from which lies before, and a reading begins there -/
theorem tn_rd_fm : ∀ (m : Nat), 0 < m → 0 ≤ (tn_rd g w m).1 ∧ (tn_rd g w m).1 < m ∧ (tn_rd g w m).2 = (tn_rd g w m).1 + w (g (tn_rd g w m).1) ∧ tn_be g w (tn_rd g w m).1
  | 0, h => absurd h (by omega)
  | m + 1, _ => by
    simp only [tn_rd]
    by_cases c : (m : Int) < (tn_rd g w m).2
    · rw [if_pos c]
      by_cases c2 : 0 < m
      · obtain ⟨a, b, d, e⟩ := tn_rd_fm m c2
        exact ⟨a, by omega, d, e⟩
      · have : m = 0 := by omega
        subst this
        simp [tn_rd] at c
    · rw [if_neg c]
      refine ⟨by dsimp only; omega, by dsimp only; omega, rfl, ?_⟩
      unfold tn_be
      dsimp only
      rw [Int.toNat_natCast]
      exact c
theorem tn_fm_be {p : Int} (h : 0 ≤ p) (b : tn_be g w p) : tn_fm g w p = p := by
  unfold tn_fm
  rw [tn_rd_su h]
  unfold tn_be at b
  rw [if_neg b]
theorem tn_fm_rg {p : Int} (h : 0 ≤ p) : 0 ≤ tn_fm g w p ∧ tn_fm g w p ≤ p ∧ tn_be g w (tn_fm g w p) := by
  obtain ⟨a, b, c, d⟩ := tn_rd_fm (g := g) (w := w) (p + 1).toNat (by omega)
  unfold tn_fm
  exact ⟨a, by omega, d⟩
theorem tn_fm_nb {p : Int} (h : 0 ≤ p) (b : ¬ tn_be g w p) : tn_fm g w p < p := by
  obtain ⟨a, e, c⟩ := tn_fm_rg (g := g) (w := w) h
  by_cases d : tn_fm g w p = p
  · rw [d] at c; exact absurd c b
  · omega
/-- what depends on places below alone -/
theorem tn_rd_cg {g' w' : Int → Int} : ∀ {m : Nat}, (∀ p : Int, 0 ≤ p → p < m → g' p = g p ∧ w' (g p) = w (g p)) → tn_rd g' w' m = tn_rd g w m
  | 0, _ => rfl
  | m + 1, e => by
    simp only [tn_rd]
    rw [tn_rd_cg (m := m) (fun p a b => e p a (by omega)), (e m (by omega) (by omega)).1, (e m (by omega) (by omega)).2]
end RD
/-- sums: more, if one is more -/
theorem tn_sm_le {f g : Int → Int} : ∀ {m : Nat}, (∀ i : Int, 0 ≤ i → i < m → f i ≤ g i) → tn_sm f m ≤ tn_sm g m
  | 0, _ => Int.le_refl _
  | m + 1, e => by
    have h1 := tn_sm_le (f := f) (g := g) (m := m) (fun i a b => e i a (by omega))
    have h2 := e m (by omega) (by omega)
    simp only [tn_sm]
    omega
theorem tn_sm_lt {f g : Int → Int} {t : Int} : ∀ {m : Nat}, (∀ i : Int, 0 ≤ i → i < m → f i ≤ g i) → 0 ≤ t → t < m → f t + 1 ≤ g t → tn_sm f m + 1 ≤ tn_sm g m
  | 0, _, h0, h1, _ => by omega
  | m + 1, e, h0, h1, h2 => by
    simp only [tn_sm]
    by_cases c : t = m
    · subst c
      have := tn_sm_le (f := f) (g := g) (m := m) (fun i a b => e i a (by omega))
      omega
    · have := tn_sm_lt (f := f) (g := g) (t := t) (m := m) (fun i a b => e i a (by omega)) h0 (by omega) h2
      have := e m (by omega) (by omega)
      omega
theorem tn_sm_1 : ∀ {m : Nat}, tn_sm (fun _ => 1) m = m
  | 0 => rfl
  | m + 1 => by simp only [tn_sm]; rw [tn_sm_1]; omega
theorem tn_sm_0 {f : Int → Int} : ∀ {m : Nat}, (∀ i : Int, 0 ≤ i → i < m → f i = 0) → tn_sm f m = 0
  | 0, _ => rfl
  | m + 1, e => by simp only [tn_sm]; rw [tn_sm_0 (m := m) (fun i a b => e i a (by omega)), e m (by omega) (by omega)]; rfl
/-- numbers of marks: in a chapter before a place -/
noncomputable def tn_km (g w q : Int → Int) (p : Int) : Int := tn_sm (fun i => tn_b (tn_mk g w q i)) p.toNat
theorem tn_km_su {g w q : Int → Int} {p : Int} (h : 0 ≤ p) : tn_km g w q (p + 1) = tn_km g w q p + tn_b (tn_mk g w q p) := tn_sm_su h
theorem tn_b_le {P Q : Prop} (h : P → Q) : tn_b P ≤ tn_b Q := by
  by_cases c : P
  · rw [tn_b1 c, tn_b1 (h c)]; omega
  · rw [tn_b0 c]; exact (tn_b_rg Q).1
/-- no more marks than terms that were read -/
theorem tn_km_seen {g w q : Int → Int} {N : Nat} (hg : ∀ p : Int, 0 ≤ p → g p = -99 ∨ 0 ≤ g p ∧ g p < N) : ∀ (m : Nat), tn_km g w q m ≤ tn_sm (fun t => tn_b (∃ r : Int, 0 ≤ r ∧ r < m ∧ tn_us g w t r)) N
  | 0 => by
    have := tn_sm_rg (f := fun t => tn_b (∃ r : Int, 0 ≤ r ∧ r < ((0 : Nat) : Int) ∧ tn_us g w t r)) (B := 1) (m := N) (fun i _ _ => tn_b_rg _)
    exact this.1
  | m + 1 => by
    have ih := tn_km_seen (w := w) (q := q) hg m
    have su : tn_km g w q ((m + 1 : Nat) : Int) = tn_km g w q m + tn_b (tn_mk g w q m) := by
      rw [show ((m + 1 : Nat) : Int) = (m : Int) + 1 by omega]; exact tn_km_su (by omega)
    rw [su]
    have le : ∀ i : Int, 0 ≤ i → i < N → tn_b (∃ r : Int, 0 ≤ r ∧ r < (m : Int) ∧ tn_us g w i r) ≤ tn_b (∃ r : Int, 0 ≤ r ∧ r < ((m + 1 : Nat) : Int) ∧ tn_us g w i r) := fun i _ _ => tn_b_le (fun ⟨r, a, b, c⟩ => ⟨r, a, by omega, c⟩)
    by_cases c : tn_mk g w q m
    · rw [tn_b1 c]
      obtain ⟨c1, c2, c3, c4⟩ := c
      rcases hg m (by omega) with h | ⟨h0, h1⟩
      · exact absurd h c2
      · have := tn_sm_lt (f := fun t => tn_b (∃ r : Int, 0 ≤ r ∧ r < (m : Int) ∧ tn_us g w t r)) (g := fun t => tn_b (∃ r : Int, 0 ≤ r ∧ r < ((m + 1 : Nat) : Int) ∧ tn_us g w t r)) (t := g m) (m := N) le h0 h1 (by
          rw [tn_b0 (fun ⟨r, a, b, c⟩ => c4 r a b c), tn_b1 ⟨(m : Int), by omega, by omega, c1, rfl⟩]; omega)
        omega
    · rw [tn_b0 c]
      have := tn_sm_le (m := N) le
      omega
theorem tn_km_le {g w q : Int → Int} {N : Nat} (hg : ∀ p : Int, 0 ≤ p → g p = -99 ∨ 0 ≤ g p ∧ g p < N) {p : Int} (hp : 0 ≤ p) : 0 ≤ tn_km g w q p ∧ tn_km g w q p ≤ N := by
  have a := tn_km_seen (w := w) (q := q) hg p.toNat
  rw [Int.toNat_of_nonneg hp] at a
  have b := tn_sm_rg (f := fun t => tn_b (∃ r : Int, 0 ≤ r ∧ r < p ∧ tn_us g w t r)) (B := 1) (m := N) (fun i _ _ => tn_b_rg _)
  have d := tn_sm_rg (f := fun i => tn_b (tn_mk g w q i)) (B := 1) (m := p.toNat) (fun i _ _ => tn_b_rg _)
  unfold tn_km at *
  omega
theorem tn_km_lt {g w q : Int → Int} {N : Nat} (hg : ∀ p : Int, 0 ≤ p → g p = -99 ∨ 0 ≤ g p ∧ g p < N) {p : Int} (hp : 0 ≤ p) (hm : tn_mk g w q p) : tn_km g w q p < N := by
  have a := tn_km_le (w := w) (q := q) hg (p := p + 1) (by omega)
  rw [tn_km_su hp, tn_b1 hm] at a
  omega

/-- the first that is so, one place more -/
theorem tn_ff.no {n r : Int} {P : Int → Prop} (a : tn_ff n P r) (h : ¬ P n) : tn_ff (n + 1) P r := by
  rcases a with ⟨a1, a2⟩ | ⟨a1, a2, a3, a4⟩
  · refine Or.inl ⟨a1, fun w w0 w1 => ?_⟩
    by_cases c : w = n
    · rw [c]; exact h
    · exact a2 w w0 (by omega)
  · exact Or.inr ⟨a1, by omega, a3, a4⟩
theorem tn_ff.old {n r : Int} {P : Int → Prop} (a : tn_ff n P r) (h : r ≠ -99) : tn_ff (n + 1) P r := by
  rcases a with ⟨a1, a2⟩ | ⟨a1, a2, a3, a4⟩
  · exact absurd a1 h
  · exact Or.inr ⟨a1, by omega, a3, a4⟩
theorem tn_ff.new {n : Int} {P : Int → Prop} (a : tn_ff n P (-99)) (h : P n) (hn : 0 ≤ n) : tn_ff (n + 1) P n := by
  rcases a with ⟨a1, a2⟩ | ⟨a1, a2, a3, a4⟩
  · exact Or.inr ⟨hn, by omega, h, a2⟩
  · omega
theorem tn_ff.cg {n r : Int} {P Q : Int → Prop} (a : tn_ff n P r) (e : ∀ w : Int, 0 ≤ w → w < n → (P w ↔ Q w)) : tn_ff n Q r := by
  rcases a with ⟨a1, a2⟩ | ⟨a1, a2, a3, a4⟩
  · exact Or.inl ⟨a1, fun w w0 w1 k => a2 w w0 w1 ((e w w0 w1).mpr k)⟩
  · exact Or.inr ⟨a1, a2, (e r a1 a2).mp a3, fun w w0 w1 k => a4 w w0 w1 ((e w w0 (by omega)).mpr k)⟩
/-- sums over the places before one, all chapters' -/
def tn_s2 (f : Int → Int → Int) (sz : Int → Int) (c p : Int) : Int := tn_sm (fun d => tn_sm (f d) (sz d).toNat) c.toNat + tn_sm (f c) p.toNat
theorem tn_s2_p {f : Int → Int → Int} {sz : Int → Int} {c p : Int} (h : 0 ≤ p) : tn_s2 f sz c (p + 1) = tn_s2 f sz c p + f c p := by
  unfold tn_s2; rw [tn_sm_su h]; omega
theorem tn_s2_c {f : Int → Int → Int} {sz : Int → Int} {c : Int} (h : 0 ≤ c) : tn_s2 f sz (c + 1) 0 = tn_s2 f sz c (sz c) := by
  unfold tn_s2; rw [tn_sm_su h]; exact Int.add_zero _
theorem tn_s2_0 {f : Int → Int → Int} {sz : Int → Int} : tn_s2 f sz 0 0 = 0 := rfl
theorem tn_s2_rg {f : Int → Int → Int} {sz : Int → Int} {c p : Int} (hf : ∀ d i : Int, 0 ≤ f d i ∧ f d i ≤ 1) (hs : ∀ d : Int, 0 ≤ d → d < 6 → 0 ≤ sz d ∧ sz d ≤ 40) (c0 : 0 ≤ c) (c1 : c ≤ 6) (p0 : 0 ≤ p) : 0 ≤ tn_s2 f sz c p ∧ tn_s2 f sz c p ≤ 40 * c + p := by
  have a := tn_sm_rg (f := fun d => tn_sm (f d) (sz d).toNat) (B := 40) (m := c.toNat) (fun i i0 i1 => by
    have h1 := hs i i0 (by omega)
    have h2 := tn_sm_rg (f := f i) (B := 1) (m := (sz i).toNat) (fun j _ _ => hf i j)
    omega)
  have b := tn_sm_rg (f := f c) (B := 1) (m := p.toNat) (fun j _ _ => hf c j)
  unfold tn_s2; omega
theorem tn_s2_cg {f g : Int → Int → Int} {sz : Int → Int} {c p : Int} (e : ∀ d i : Int, 0 ≤ d → 0 ≤ i → (d < c ∧ i < sz d ∨ d = c ∧ i < p) → f d i = g d i) (hc : 0 ≤ c) (hp : 0 ≤ p) : tn_s2 f sz c p = tn_s2 g sz c p := by
  unfold tn_s2
  rw [tn_sm_cg (f := f c) (g := g c) (fun i i0 i1 => e c i hc i0 (by omega)), tn_sm_cg (fun d d0 d1 => tn_sm_cg (fun i i0 i1 => e d i d0 i0 (by omega)))]
/-- sums grow -/
theorem tn_sm_mo {f : Int → Int} (hf : ∀ i : Int, 0 ≤ f i) {m n : Nat} (h : m ≤ n) : tn_sm f m ≤ tn_sm f n := by
  induction n with
  | zero => rw [show m = 0 by omega]; exact Int.le_refl _
  | succ n ih =>
    by_cases c : m = n + 1
    · rw [c]; exact Int.le_refl _
    · have := ih (by omega)
      have := hf n
      simp only [tn_sm]
      omega
theorem tn_s2_mo {f : Int → Int → Int} {sz : Int → Int} {c p d q : Int} (hf : ∀ d i : Int, 0 ≤ f d i) (d0 : 0 ≤ d) (hq : 0 ≤ q ∧ q ≤ sz d) (hp : 0 ≤ p) (h : d < c ∨ d = c ∧ q ≤ p) : tn_s2 f sz d q ≤ tn_s2 f sz c p := by
  rcases h with h | ⟨h1, h2⟩
  · have a : tn_s2 f sz d q ≤ tn_s2 f sz d (sz d) := by
      unfold tn_s2
      have := tn_sm_mo (f := f d) (hf d) (m := q.toNat) (n := (sz d).toNat) (by omega)
      omega
    rw [← tn_s2_c d0] at a
    have b : tn_s2 f sz (d + 1) 0 ≤ tn_s2 f sz c p := by
      unfold tn_s2
      have q1 := tn_sm_mo (f := fun d => tn_sm (f d) (sz d).toNat) (fun i => tn_sm_mo (f := f i) (hf i) (m := 0) (n := (sz i).toNat) (by omega)) (m := (d + 1).toNat) (n := c.toNat) (by omega)
      have q2 := tn_sm_mo (f := f c) (hf c) (m := 0) (n := p.toNat) (by omega)
      have q3 : tn_sm (f (d + 1)) (Int.toNat 0) = 0 := rfl
      have q4 : tn_sm (f c) 0 = 0 := rfl
      omega
    omega
  · subst h1
    unfold tn_s2
    have := tn_sm_mo (f := f d) (hf d) (m := q.toNat) (n := p.toNat) (by omega)
    omega
/-- places in their order -/
def tn_bf (c p d q : Int) : Prop := d < c ∨ d = c ∧ q < p
theorem tn_s2_lt {f : Int → Int → Int} {sz : Int → Int} {c p d q : Int} (hf : ∀ d i : Int, 0 ≤ f d i) (d0 : 0 ≤ d) (hq : 0 ≤ q ∧ q < sz d) (hp : 0 ≤ p) (h : tn_bf c p d q) (e : f d q = 1) : tn_s2 f sz d q < tn_s2 f sz c p := by
  have a : tn_s2 f sz d (q + 1) ≤ tn_s2 f sz c p := tn_s2_mo hf d0 ⟨by omega, by omega⟩ hp (by unfold tn_bf at h; omega)
  rw [tn_s2_p hq.1, e] at a
  omega
