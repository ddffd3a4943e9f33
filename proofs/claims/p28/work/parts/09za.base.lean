/-! THE PURE MATHEMATICS: what the class's parts are in the heap -/
theorem tn_gI {h : tm_H} {c k a : Nat} {fs : List tm_Fv} {v : Int} (e : h a = some (.inl (c, fs))) (hv : fs[k]? = some (.inl v)) : tm_gI h c k a = some v := by simp [tm_gI, e, hv]
theorem tn_gR {h : tm_H} {c k a : Nat} {fs : List tm_Fv} {v : Nat} (e : h a = some (.inl (c, fs))) (hv : fs[k]? = some (.inr (some v))) : tm_gR h c k a = some v := by simp [tm_gR, e, hv]
theorem tn_sF {h : tm_H} {c k a : Nat} {fs : List tm_Fv} (e : h a = some (.inl (c, fs))) (v : tm_Fv) (hk : k < fs.length) : tm_sF h c k a v = some (tm_up h a (some (.inl (c, fs.set k v)))) := by simp [tm_sF, e, hk]
theorem tn_lI {h : tm_H} {t a n : Nat} {f : Nat → Int} {i : Int} (e : h a = some (.inr (t, n, .inl f))) (h0 : 0 ≤ i) (h1 : i < n) : tm_lI h t a i = some (f i.toNat) := by simp [tm_lI, e, h0, h1]
theorem tn_lL {h : tm_H} {t a n : Nat} {f : Nat → Int64} {i : Int} (e : h a = some (.inr (t, n, .inr (.inl f)))) (h0 : 0 ≤ i) (h1 : i < n) : tm_lL h t a i = some (f i.toNat) := by simp [tm_lL, e, h0, h1]
theorem tn_lR {h : tm_H} {t a n : Nat} {f : Nat → Option Nat} {i : Int} (e : h a = some (.inr (t, n, .inr (.inr f)))) (h0 : 0 ≤ i) (h1 : i < n) : tm_lR h t a i = f i.toNat := by simp [tm_lR, e, h0, h1]
theorem tn_wI {h : tm_H} {t a n : Nat} {f : Nat → Int} {i : Int} (v : Int) (e : h a = some (.inr (t, n, .inl f))) (h0 : 0 ≤ i) (h1 : i < n) : tm_wI h t a i v = some (tm_up h a (some (.inr (t, n, .inl (tm_up f i.toNat v))))) := by simp [tm_wI, e, h0, h1]
theorem tn_wZ {h : tm_H} {t a n : Nat} {f : Nat → Int} {i : Int} (v : Int) (e : h a = some (.inr (t, n, .inl f))) (h0 : 0 ≤ i) (h1 : i < n) (hv : v = 0 ∨ v = 1) : tm_wZ h t a i v = some (tm_up h a (some (.inr (t, n, .inl (tm_up f i.toNat v))))) := by rw [tm_wZ, if_pos hv, tn_wI v e h0 h1]
theorem tn_wL {h : tm_H} {t a n : Nat} {f : Nat → Int64} {i : Int} (v : Int64) (e : h a = some (.inr (t, n, .inr (.inl f)))) (h0 : 0 ≤ i) (h1 : i < n) : tm_wL h t a i v = some (tm_up h a (some (.inr (t, n, .inr (.inl (tm_up f i.toNat v)))))) := by simp [tm_wL, e, h0, h1]
theorem tn_wR {h : tm_H} {t a n c b : Nat} {f : Nat → Option Nat} {i : Int} (e : h a = some (.inr (t, n, .inr (.inr f)))) (h0 : 0 ≤ i) (h1 : i < n) (hk : tm_kd h c b = true) : tm_wR h t a i c b = some (tm_up h a (some (.inr (t, n, .inr (.inr (tm_up f i.toNat (some b))))))) := by simp [tm_wR, e, h0, h1, hk]
theorem tn_cpI {h : tm_H} {t a b n1 n2 : Nat} {f g : Nat → Int} {sp dp n : Int} (e1 : h a = some (.inr (t, n1, .inl f))) (e2 : h b = some (.inr (t, n2, .inl g))) (hab : a ≠ b) (h1 : 0 ≤ sp) (h2 : 0 ≤ dp) (h3 : 0 ≤ n) (h4 : sp + n ≤ n1) (h5 : dp + n ≤ n2) : tm_cpI h t a sp b dp n = some (tm_up h b (some (.inr (t, n2, .inl (tm_cy f g sp.toNat dp.toNat n.toNat))))) := by simp [tm_cpI, e1, e2, hab, h1, h2, h3, h4, h5]
theorem tn_cpL {h : tm_H} {t a b n1 n2 : Nat} {f g : Nat → Int64} {sp dp n : Int} (e1 : h a = some (.inr (t, n1, .inr (.inl f)))) (e2 : h b = some (.inr (t, n2, .inr (.inl g)))) (hab : a ≠ b) (h1 : 0 ≤ sp) (h2 : 0 ≤ dp) (h3 : 0 ≤ n) (h4 : sp + n ≤ n1) (h5 : dp + n ≤ n2) : tm_cpL h t a sp b dp n = some (tm_up h b (some (.inr (t, n2, .inr (.inl (tm_cy f g sp.toNat dp.toNat n.toNat)))))) := by simp [tm_cpL, e1, e2, hab, h1, h2, h3, h4, h5]
theorem tn_th {α : Type} {h : tm_H} {c a : Nat} {fs : List tm_Fv} {k : Option α} (e : h a = some (.inl (c, fs))) : tm_th h c a k = k := tm_th_of ⟨fs, e⟩
/-- the heap changes in a block of addresses alone -/
def tn_fr (lo hi : Nat) (h h' : tm_H) : Prop := ∀ q : Nat, q < lo ∨ hi ≤ q → h' q = h q
theorem tn_fr.rf {lo hi : Nat} {h : tm_H} : tn_fr lo hi h h := fun _ _ => rfl
theorem tn_fr.tr {lo hi : Nat} {h h1 h2 : tm_H} (a : tn_fr lo hi h h1) (b : tn_fr lo hi h1 h2) : tn_fr lo hi h h2 := fun q hq => (b q hq).trans (a q hq)
theorem tn_fr.wide {lo hi lo' hi' : Nat} {h h1 : tm_H} (a : tn_fr lo hi h h1) (h1' : lo' ≤ lo) (h2 : hi ≤ hi') : tn_fr lo' hi' h h1 := fun q hq => a q (by omega)
theorem tn_fr.up {lo hi a : Nat} {h : tm_H} {o : Option tm_Ob} (h1 : lo ≤ a) (h2 : a < hi) : tn_fr lo hi h (tm_up h a o) := fun q hq => tm_up_ne (by omega)
theorem tn_fr.put {lo hi a : Nat} {h h1 : tm_H} {o : Option tm_Ob} (f : tn_fr lo hi h h1) (h1' : lo ≤ a) (h2 : a < hi) : tn_fr lo hi h (tm_up h1 a o) := f.tr (tn_fr.up h1' h2)
/-- writes: the heap that comes, by what stands in it -/
theorem tn_SF {h : tm_H} {c k a : Nat} {fs : List tm_Fv} (e : h a = some (.inl (c, fs))) (v : tm_Fv) (hk : k < fs.length) : ∃ h', tm_sF h c k a v = some h' ∧ h' a = some (.inl (c, fs.set k v)) ∧ ∀ q, q ≠ a → h' q = h q := ⟨_, tn_sF e v hk, tm_up_self _ _ _, fun _ hq => tm_up_ne hq⟩
theorem tn_WI {h : tm_H} {t a n : Nat} {f : Nat → Int} {i : Int} (v : Int) (e : h a = some (.inr (t, n, .inl f))) (h0 : 0 ≤ i) (h1 : i < n) : ∃ h', tm_wI h t a i v = some h' ∧ h' a = some (.inr (t, n, .inl (tm_up f i.toNat v))) ∧ ∀ q, q ≠ a → h' q = h q := ⟨_, tn_wI v e h0 h1, tm_up_self _ _ _, fun _ hq => tm_up_ne hq⟩
theorem tn_WZ {h : tm_H} {t a n : Nat} {f : Nat → Int} {i : Int} (v : Int) (e : h a = some (.inr (t, n, .inl f))) (h0 : 0 ≤ i) (h1 : i < n) (hv : v = 0 ∨ v = 1) : ∃ h', tm_wZ h t a i v = some h' ∧ h' a = some (.inr (t, n, .inl (tm_up f i.toNat v))) ∧ ∀ q, q ≠ a → h' q = h q := ⟨_, tn_wZ v e h0 h1 hv, tm_up_self _ _ _, fun _ hq => tm_up_ne hq⟩
theorem tn_WL {h : tm_H} {t a n : Nat} {f : Nat → Int64} {i : Int} (v : Int64) (e : h a = some (.inr (t, n, .inr (.inl f)))) (h0 : 0 ≤ i) (h1 : i < n) : ∃ h', tm_wL h t a i v = some h' ∧ h' a = some (.inr (t, n, .inr (.inl (tm_up f i.toNat v)))) ∧ ∀ q, q ≠ a → h' q = h q := ⟨_, tn_wL v e h0 h1, tm_up_self _ _ _, fun _ hq => tm_up_ne hq⟩
theorem tn_WR {h : tm_H} {t a n c b : Nat} {f : Nat → Option Nat} {i : Int} (e : h a = some (.inr (t, n, .inr (.inr f)))) (h0 : 0 ≤ i) (h1 : i < n) (hk : tm_kd h c b = true) : ∃ h', tm_wR h t a i c b = some h' ∧ h' a = some (.inr (t, n, .inr (.inr (tm_up f i.toNat (some b))))) ∧ ∀ q, q ≠ a → h' q = h q := ⟨_, tn_wR e h0 h1 hk, tm_up_self _ _ _, fun _ hq => tm_up_ne hq⟩
theorem tn_CPI {h : tm_H} {t a b n1 n2 : Nat} {f g : Nat → Int} {sp dp n : Int} (e1 : h a = some (.inr (t, n1, .inl f))) (e2 : h b = some (.inr (t, n2, .inl g))) (hab : a ≠ b) (h1 : 0 ≤ sp) (h2 : 0 ≤ dp) (h3 : 0 ≤ n) (h4 : sp + n ≤ n1) (h5 : dp + n ≤ n2) : ∃ h', tm_cpI h t a sp b dp n = some h' ∧ h' b = some (.inr (t, n2, .inl (tm_cy f g sp.toNat dp.toNat n.toNat))) ∧ ∀ q, q ≠ b → h' q = h q := ⟨_, tn_cpI e1 e2 hab h1 h2 h3 h4 h5, tm_up_self _ _ _, fun _ hq => tm_up_ne hq⟩
theorem tn_NW (h : tm_H) (n : Nat) (o : tm_Ob) : ∃ h', tm_nw h n o = some h' ∧ h' n = some o ∧ ∀ q, q ≠ n → h' q = h q := ⟨_, rfl, tm_up_self _ _ _, fun _ hq => tm_up_ne hq⟩
theorem tn_NM (h : tm_H) (n N K : Nat) : ∃ h', tm_nm h n N K = some h' ∧ h' n = some (.inr (5, N, .inr (.inr (fun i => if i < N then some (n + 1 + i) else none)))) ∧ (∀ q, n < q → q ≤ n + N → h' q = some (.inr (0, K, .inl (fun _ => 0)))) ∧ ∀ q, q < n ∨ n + N < q → h' q = h q := by
  refine ⟨_, rfl, if_pos rfl, fun q h1 h2 => ?_, fun q hq => ?_⟩
  · show (if q = n then _ else if n < q ∧ q ≤ n + N then _ else _) = _
    rw [if_neg (by omega), if_pos ⟨h1, h2⟩]
  · show (if q = n then _ else if n < q ∧ q ≤ n + N then _ else _) = _
    rw [if_neg (by omega), if_neg (by omega)]
theorem tn_cy0 {α : Type} {f g : Nat → α} {n k : Nat} (h : k < n) : tm_cy f g (Int.toNat 0) (Int.toNat 0) n k = f k := by
  unfold tm_cy
  rw [if_pos (by simp; omega)]
  simp
/-- two heaps are the same in a block -/
def tn_eq (lo hi : Nat) (h h' : tm_H) : Prop := ∀ q : Nat, lo ≤ q → q < hi → h' q = h q
theorem tn_fr.off {lo hi lo' hi' : Nat} {h h1 : tm_H} (a : tn_fr lo hi h h1) (hd : hi ≤ lo' ∨ hi' ≤ lo) : tn_eq lo' hi' h h1 := fun q h1 h2 => a q (by omega)
theorem tn_eq.sub {lo hi lo' hi' : Nat} {h h1 : tm_H} (a : tn_eq lo hi h h1) (h1' : lo ≤ lo') (h2 : hi' ≤ hi) : tn_eq lo' hi' h h1 := fun q x y => a q (by omega) (by omega)
/-- a proposition as 1 or 0 -/
noncomputable def tn_b (P : Prop) : Int := @ite _ P (Classical.propDecidable P) 1 0
theorem tn_b1 {P : Prop} (h : P) : tn_b P = 1 := by unfold tn_b; exact @if_pos _ (Classical.propDecidable P) h _ _ _
theorem tn_b0 {P : Prop} (h : ¬ P) : tn_b P = 0 := by unfold tn_b; exact @if_neg _ (Classical.propDecidable P) h _ _ _
theorem tn_bc {P Q : Prop} (h : P ↔ Q) : tn_b P = tn_b Q := by
  by_cases hp : P
  · rw [tn_b1 hp, tn_b1 (h.mp hp)]
  · rw [tn_b0 hp, tn_b0 (fun q => hp (h.mpr q))]
theorem tn_b01 (P : Prop) : tn_b P = 0 ∨ tn_b P = 1 := by
  by_cases hp : P
  · exact Or.inr (tn_b1 hp)
  · exact Or.inl (tn_b0 hp)
theorem tn_zr (P : Prop) : tm_zr (tn_b P) = some (tn_b P) := by unfold tm_zr; exact if_pos (tn_b01 P)
/-- a value, changed at one place -/
theorem tn_upi {f : Nat → Int} {g : Int → Int} {w b v : Int} (hw : 0 ≤ w) (hv : 0 ≤ v) (h : f v.toNat = g v) : tm_up f w.toNat b v.toNat = if v = w then b else g v := by
  rw [tm_up_app]
  by_cases c : v = w
  · rw [if_pos c, if_pos (by omega)]
  · rw [if_neg c, if_neg (by omega)]; exact h
/-! words -/
def tn_W (h : tm_H) (a : Nat) (n : Int) (bs : Int → Int) (sp : Int → Int64) : Prop :=
  ∃ (S : Nat → Int64) (B : Nat → Int), h a = some (.inl (7, [.inr (some (a + 1)), .inr (some (a + 2)), .inl n])) ∧ h (a + 1) = some (.inr (1, 60, .inr (.inl S))) ∧ h (a + 2) = some (.inr (0, 60, .inl B)) ∧ 0 ≤ n ∧ n ≤ 60 ∧ ∀ w : Int, 0 ≤ w → w < n → B w.toNat = bs w ∧ S w.toNat = sp w
theorem tn_W.cg {h h' : tm_H} {a : Nat} {n : Int} {bs : Int → Int} {sp : Int → Int64} (H : tn_W h a n bs sp) (e : tn_eq a (a + 3) h h') : tn_W h' a n bs sp := by
  obtain ⟨S, B, h1, h2, h3, h4⟩ := H
  exact ⟨S, B, by rw [e a (by omega) (by omega)]; exact h1, by rw [e (a + 1) (by omega) (by omega)]; exact h2, by rw [e (a + 2) (by omega) (by omega)]; exact h3, h4⟩
theorem tn_W.ext {h : tm_H} {a : Nat} {n : Int} {bs bs' : Int → Int} {sp sp' : Int → Int64} (H : tn_W h a n bs sp) (e : ∀ w : Int, 0 ≤ w → w < n → bs' w = bs w ∧ sp' w = sp w) : tn_W h a n bs' sp' := by
  obtain ⟨S, B, h1, h2, h3, h4, h5, h6⟩ := H
  exact ⟨S, B, h1, h2, h3, h4, h5, fun w a b => ⟨(h6 w a b).1.trans (e w a b).1.symm, (h6 w a b).2.trans (e w a b).2.symm⟩⟩
section WRD
variable {h : tm_H} {a : Nat} {n : Int} {bs : Int → Int} {sp : Int → Int64}
theorem tx7_size (H : tn_W h a n bs sp) : fX7_size a h = some n := by
  obtain ⟨S, B, h1, h2, h3, h4, h5, h6⟩ := H
  simp only [fX7_size, tn_th h1, tn_gI (k := 2) h1 rfl, Option.bind_some]
theorem tx7_has (H : tn_W h a n bs sp) (w : Int) : fX7_has a w h = some (tn_b (0 ≤ w ∧ w < n)) := by
  obtain ⟨S, B, h1, h2, h3, h4, h5, h6⟩ := H
  simp only [fX7_has, tn_th h1, tn_gI (k := 2) h1 rfl, Option.bind_some]
  by_cases c1 : w < 0
  · rw [if_pos c1, tn_b0 (by omega)]
  · by_cases c2 : w < n
    · rw [if_neg c1, if_pos c2, tn_b1 (by omega)]
    · rw [if_neg c1, if_neg c2, tn_b0 (by omega)]
theorem tx7_baseOf (H : tn_W h a n bs sp) (w : Int) : fX7_baseOf a w h = some (if 0 ≤ w ∧ w < n then bs w else -99) := by
  obtain ⟨S, B, h1, h2, h3, h4, h5, h6⟩ := H
  simp only [fX7_baseOf, tn_th h1, tn_gI (k := 2) h1 rfl, tn_gR (k := 1) h1 rfl, Option.bind_some]
  by_cases c1 : w < 0
  · rw [if_pos c1, if_neg (by omega)]
  · by_cases c2 : w < n
    · rw [if_neg c1, if_pos c2, if_pos (by omega), tn_lI h3 (by omega) (by omega), (h6 w (by omega) c2).1]
      rfl
    · rw [if_neg c1, if_neg c2, if_neg (by omega)]
theorem tx7_base (H : tn_W h a n bs sp) {w : Int} (hw : 0 ≤ w ∧ w < n) : fX7_baseOf a w h = some (bs w) := by rw [tx7_baseOf H, if_pos hw]
theorem tx7_putBase (H : tn_W h a n bs sp) {w b : Int} (hw : 0 ≤ w ∧ w < n) (hb : 0 ≤ b ∧ b < n) : ∃ h', fX7_putBase a w b h = some h' ∧ tn_W h' a n (fun v => if v = w then b else bs v) sp ∧ tn_fr a (a + 3) h h' := by
  have H0 := H
  obtain ⟨S, B, h1, h2, h3, h4, h5, h6⟩ := H
  refine ⟨tm_up h (a + 2) (some (.inr (0, 60, .inl (tm_up B w.toNat b)))), ?_, ⟨S, tm_up B w.toNat b, ?_, ?_, tm_up_self _ _ _, h4, h5, ?_⟩, tn_fr.up (by omega) (by omega)⟩
  · simp only [fX7_putBase, tn_th h1, tx7_has H0, Option.bind_some, tn_b1 hw, tn_b1 hb, tn_gR (k := 1) h1 rfl, tn_wI b h3 (show 0 ≤ w by omega) (show w < (60 : Nat) by omega)]
    rfl
  · rw [tm_up_ne (by omega)]; exact h1
  · rw [tm_up_ne (by omega)]; exact h2
  · intro v v0 v1
    exact ⟨tn_upi (by omega) v0 (h6 v v0 v1).1, (h6 v v0 v1).2⟩
theorem tx7_isForm (H : tn_W h a n bs sp) {w : Int} (hw : 0 ≤ w ∧ w < n) : fX7_isForm a w h = some (tn_b (bs w ≠ w)) := by
  have H0 := H
  obtain ⟨S, B, h1, h2, h3, h4, h5, h6⟩ := H
  simp only [fX7_isForm, tn_th h1, tx7_base H0 hw, Option.bind_some]
  by_cases c : bs w = w
  · rw [if_pos c, tn_b0 (by omega)]
  · rw [if_neg c, tn_b1 c]
/-- is there a form of w among the words from k on -/
theorem tx7_hasForms_l (H : tn_W h a n bs sp) (w : Int) : ∀ (m : Nat) (k : Int), 0 ≤ k → (n - k).toNat = m → fX7_hasForms_L2 a w h k = some (tn_b (∃ v : Int, k ≤ v ∧ v < n ∧ v ≠ w ∧ bs v = w)) := by
  obtain ⟨S, B, h1, h2, h3, h4, h5, h6⟩ := H
  intro m
  induction m with
  | zero =>
    intro k k0 hm
    rw [fX7_hasForms_L2_eq, tn_gI (k := 2) h1 rfl, Option.bind_some, if_neg (by omega), tn_b0]
    rintro ⟨v, _, _, _⟩
    omega
  | succ m ih =>
    intro k k0 hm
    have nx : fX7_hasForms_L27 a w h k = fX7_hasForms_L2 a w h (k + 1) := by rw [fX7_hasForms_L27_eq, tm_wr_id (by omega) (by omega)]
    rw [fX7_hasForms_L2_eq, tn_gI (k := 2) h1 rfl, Option.bind_some, if_pos (by omega), tn_gR (k := 1) h1 rfl, Option.bind_some, tn_lI h3 (by omega) (by omega), Option.bind_some, nx, ih (k + 1) (by omega) (by omega), (h6 k k0 (by omega)).1]
    by_cases c1 : k = w
    · rw [if_pos c1, tn_bc]
      exact ⟨fun ⟨v, e1, e2, e3, e4⟩ => ⟨v, by omega, e2, e3, e4⟩, fun ⟨v, e1, e2, e3, e4⟩ => ⟨v, by omega, e2, e3, e4⟩⟩
    · rw [if_neg c1]
      by_cases c2 : bs k = w
      · rw [if_pos c2, tn_b1 ⟨k, by omega, by omega, c1, c2⟩]
      · rw [if_neg c2, tn_bc]
        refine ⟨fun ⟨v, e1, e2, e3, e4⟩ => ⟨v, by omega, e2, e3, e4⟩, fun ⟨v, e1, e2, e3, e4⟩ => ⟨v, ?_, e2, e3, e4⟩⟩
        by_cases c3 : v = k
        · subst c3; exact absurd e4 c2
        · omega
theorem tx7_hasForms (H : tn_W h a n bs sp) (w : Int) : fX7_hasForms a w h = some (tn_b (∃ v : Int, 0 ≤ v ∧ v < n ∧ v ≠ w ∧ bs v = w)) := by
  have H0 := H
  obtain ⟨S, B, h1, h2, h3, h4, h5, h6⟩ := H
  simp only [fX7_hasForms, tn_th h1]
  exact tx7_hasForms_l H0 w _ 0 (by omega) rfl
end WRD
