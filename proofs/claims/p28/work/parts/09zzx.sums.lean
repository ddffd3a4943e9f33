/-! sums over terms, chapters and places -/
theorem tl_sm_add {f g : Int → Int} : ∀ (m : Nat), tn_sm (fun i => f i + g i) m = tn_sm f m + tn_sm g m
  | 0 => rfl
  | m + 1 => by
    simp only [tn_sm]
    rw [tl_sm_add m]
    omega
theorem tl_sm_swap {f : Int → Int → Int} {n : Nat} : ∀ (m : Nat), tn_sm (fun i => tn_sm (fun j => f i j) n) m = tn_sm (fun j => tn_sm (fun i => f i j) m) n
  | 0 => by
    rw [tn_sm_0 (f := fun j => tn_sm (fun i => f i j) 0) (fun i _ _ => rfl)]
    rfl
  | m + 1 => by
    have e : (fun j => tn_sm (fun i => f i j) (m + 1)) = (fun j => tn_sm (fun i => f i j) m + f (m : Int) j) := by
      funext j
      simp only [tn_sm]
    rw [e, tl_sm_add, ← tl_sm_swap (f := f) (n := n) m]
    simp only [tn_sm]
theorem tl_sm_one {P : Prop} {v : Int} : ∀ (m : Nat), tn_sm (fun t => tn_b (P ∧ v = t)) m = tn_b (P ∧ 0 ≤ v ∧ v < (m : Int))
  | 0 => (tn_b0 (fun q => by have := q.2.1; have := q.2.2; omega)).symm
  | m + 1 => by
    simp only [tn_sm]
    rw [tl_sm_one m]
    by_cases p : P
    · by_cases c : v = (m : Int)
      · rw [tn_b0 (fun q => by have := q.2.2; omega), tn_b1 ⟨p, c⟩, tn_b1 ⟨p, by omega, by omega⟩]
        rfl
      · rw [tn_b0 (P := P ∧ v = (m : Int)) (fun q => c q.2)]
        rw [tl_b_iff (show (P ∧ 0 ≤ v ∧ v < (m : Int)) ↔ (P ∧ 0 ≤ v ∧ v < ((m + 1 : Nat) : Int)) from ⟨fun q => ⟨q.1, q.2.1, by have := q.2.2; omega⟩, fun q => ⟨q.1, q.2.1, by have := q.2.2; omega⟩⟩)]
        omega
    · rw [tn_b0 (fun q => p q.1), tn_b0 (fun q => p q.1), tn_b0 (fun q => p q.1)]
      rfl
theorem tl_b_or {P Q : Prop} (h : ¬ (P ∧ Q)) : tn_b (P ∨ Q) = tn_b P + tn_b Q := by
  by_cases p : P
  · rw [tn_b1 (Or.inl p), tn_b1 p, tn_b0 (fun q => h ⟨p, q⟩)]
    rfl
  · by_cases q : Q
    · rw [tn_b1 (Or.inr q), tn_b0 p, tn_b1 q]
      rfl
    · rw [tn_b0 (fun r => r.elim p q), tn_b0 p, tn_b0 q]
      rfl
theorem tl_s26 (f : Int → Int → Int) (sz : Int → Int) : tn_s2 f sz 6 0 = tn_sm (fun d => tn_sm (f d) (sz d).toNat) 6 := Int.add_zero _
/-- the numbers of a term's marks, readings, occurrences -/
noncomputable def tl_T8 (s : tn_St) (t : Int) : Int := tn_sm (fun d => tn_b (tn_hm s t d (tn_sz s d))) 6
noncomputable def tl_T6 (s : tn_St) (t : Int) : Int := tn_s2 (tn_fu s t) (tn_sz s) 6 0
noncomputable def tl_T5 (s : tn_St) (t : Int) : Int := tn_b (tn_tq s t ≠ 0)
theorem tl_hm_su (s : tn_St) (t d : Int) {p : Int} (p0 : 0 ≤ p) : tn_b (tn_hm s t d (p + 1)) = tn_b (tn_hm s t d p) + tn_b (tn_mk (tn_L s d) (tn_w s) (tn_tq s) p ∧ tn_L s d p = t) := by
  rw [← tl_b_or]
  · refine tl_b_iff ⟨fun ⟨q, q0, q1, k, e⟩ => ?_, fun h => ?_⟩
    · by_cases c : q = p
      · subst c; exact Or.inr ⟨k, e⟩
      · exact Or.inl ⟨q, q0, by omega, k, e⟩
    · rcases h with ⟨q, q0, q1, k, e⟩ | ⟨k, e⟩
      · exact ⟨q, q0, by omega, k, e⟩
      · exact ⟨p, p0, by omega, k, e⟩
  · rintro ⟨⟨q, q0, q1, k, e⟩, k', e'⟩
    refine k'.2.2.2 q q0 q1 ⟨k.1, ?_⟩
    rw [e, e']
section SMS
variable {a : Nat} {s : tn_St} {z : Int} {st : Int → tn_St} {h : tm_H}
theorem tl_V.Lr (V : tl_V a s z st h) {c p : Int} (hc : 0 ≤ c ∧ c < 6) (hp : 0 ≤ p) : tn_L s c p = -99 ∨ 0 ≤ tn_L s c p ∧ tn_L s c p < tn_nT s := by
  rcases V.L hc hp with ⟨e, _⟩ | ⟨e1, e2, _⟩
  · exact Or.inl e
  · exact Or.inr ⟨e1, e2⟩
/-- the marks of a chapter, term by term -/
theorem tl_its_d (V : tl_V a s z st h) {d : Int} (hd : 0 ≤ d ∧ d < 6) : ∀ (m : Nat), tn_sm (fun t => tn_b (tn_hm s t d (m : Int))) (tn_nT s).toNat = tn_sm (tn_fk s d) m
  | 0 => by
    rw [tn_sm_0 (fun i _ _ => tn_b0 (by rintro ⟨q, q0, q1, _⟩; omega))]
    rfl
  | m + 1 => by
    have nT := V.g.nT
    have e : (fun t => tn_b (tn_hm s t d ((m + 1 : Nat) : Int))) = (fun t => tn_b (tn_hm s t d (m : Int)) + tn_b (tn_mk (tn_L s d) (tn_w s) (tn_tq s) (m : Int) ∧ tn_L s d (m : Int) = t)) := by
      funext t
      rw [show ((m + 1 : Nat) : Int) = (m : Int) + 1 by omega]
      exact tl_hm_su s t d (by omega)
    rw [e, tl_sm_add, tl_its_d V hd m, tl_sm_one]
    simp only [tn_sm]
    have e2 : tn_b (tn_mk (tn_L s d) (tn_w s) (tn_tq s) (m : Int) ∧ 0 ≤ tn_L s d (m : Int) ∧ tn_L s d (m : Int) < ((tn_nT s).toNat : Int)) = tn_fk s d (m : Int) := by
      unfold tn_fk
      refine tl_b_iff ⟨fun q => q.1, fun q => ⟨q, ?_⟩⟩
      rcases V.Lr hd (p := (m : Int)) (by omega) with y | y
      · exact absurd y q.2.1
      · omega
    rw [e2]
theorem tl_its (V : tl_V a s z st h) : tn_sm (tl_T8 s) (tn_nT s).toNat = tn_M s := by
  have e : tn_M s = tn_sm (fun d => tn_sm (tn_fk s d) (tn_sz s d).toNat) 6 := tl_s26 _ _
  rw [e]
  show tn_sm (fun t => tn_sm (fun d => tn_b (tn_hm s t d (tn_sz s d))) 6) (tn_nT s).toNat = _
  rw [tl_sm_swap]
  refine tn_sm_cg (fun d d0 d1 => ?_)
  have sz := V.g.ok.c (c := d) ⟨d0, by omega⟩
  have q := tl_its_d V (d := d) ⟨d0, by omega⟩ (tn_sz s d).toNat
  rw [Int.toNat_of_nonneg sz.1] at q
  exact q
theorem tl_reads (V : tl_V a s z st h) : tn_sm (tl_T6 s) (tn_nT s).toNat = tn_s2 (tn_fq s) (tn_sz s) 6 0 := by
  have e : ∀ f : Int → Int → Int, tn_s2 f (tn_sz s) 6 0 = tn_sm (fun d => tn_sm (f d) (tn_sz s d).toNat) 6 := fun f => tl_s26 f _
  rw [e]
  have e2 : tl_T6 s = fun t => tn_sm (fun d => tn_sm (tn_fu s t d) (tn_sz s d).toNat) 6 := by
    funext t
    exact e (tn_fu s t)
  rw [e2, tl_sm_swap]
  refine tn_sm_cg (fun d d0 d1 => ?_)
  show tn_sm (fun t => tn_sm (fun i => tn_fu s t d i) (tn_sz s d).toNat) (tn_nT s).toNat = _
  rw [tl_sm_swap]
  refine tn_sm_cg (fun i i0 i1 => ?_)
  have nT := V.g.nT
  show tn_sm (fun t => tn_b (tn_be (tn_L s d) (tn_w s) i ∧ tn_L s d i = t)) (tn_nT s).toNat = tn_b (tn_be (tn_L s d) (tn_w s) i ∧ tn_L s d i ≠ -99)
  rw [tl_sm_one]
  refine tl_b_iff ⟨fun q => ⟨q.1, by have := q.2.1; omega⟩, fun q => ⟨q.1, ?_⟩⟩
  rcases V.Lr (c := d) ⟨d0, by omega⟩ i0 with y | y
  · exact absurd y q.2
  · omega
theorem tl_sm_ge {f : Int → Int} {t : Int} : ∀ {m : Nat}, (∀ i : Int, 0 ≤ i → i < m → 0 ≤ f i) → 0 ≤ t → t < m → f t ≤ tn_sm f m
  | 0, _, h0, h1 => by omega
  | m + 1, e, h0, h1 => by
    simp only [tn_sm]
    have em := e m (by omega) (by omega)
    by_cases c : t = m
    · subst c
      have : ∀ {k : Nat}, (∀ i : Int, 0 ≤ i → i < k → 0 ≤ f i) → 0 ≤ tn_sm f k := fun {k} q => by
        have := tn_sm_le (f := fun _ => 0) (g := f) (m := k) q
        rw [tn_sm_0 (fun _ _ _ => rfl)] at this
        exact this
      have := this (k := m) (fun i a b => e i a (by omega))
      omega
    · have := tl_sm_ge (f := f) (t := t) (m := m) (fun i a b => e i a (by omega)) h0 (by omega)
      omega
/-- a term has no more marks than readings, no more readings than occurrences -/
theorem tl_86 (V : tl_V a s z st h) (t : Int) : tl_T8 s t ≤ tl_T6 s t := by
  have e : tl_T6 s t = tn_sm (fun d => tn_sm (tn_fu s t d) (tn_sz s d).toNat) 6 := tl_s26 _ _
  rw [e]
  refine tn_sm_le (fun d d0 d1 => ?_)
  have sz := V.g.ok.c (c := d) ⟨d0, by omega⟩
  by_cases c : tn_hm s t d (tn_sz s d)
  · rw [tn_b1 c]
    obtain ⟨q, q0, q1, k, e⟩ := c
    have := tl_sm_ge (f := tn_fu s t d) (t := q) (m := (tn_sz s d).toNat) (fun i _ _ => (tn_fu_rg s t d i).1) q0 (by omega)
    rw [show tn_fu s t d q = 1 from tn_b1 ⟨k.1, e⟩] at this
    exact this
  · rw [tn_b0 c]
    exact (tn_sm_rg (B := 1) (fun i _ _ => tn_fu_rg s t d i)).1
theorem tl_67 (V : tl_V a s z st h) {t : Int} (ht : 0 ≤ t ∧ t < tn_nT s) : tl_T6 s t ≤ tn_ot s t 6 := by
  have e : tl_T6 s t = tn_sm (fun d => tn_sm (tn_fu s t d) (tn_sz s d).toNat) 6 := tl_s26 _ _
  rw [e]
  unfold tn_ot
  refine tn_sm_le (fun d d0 d1 => ?_)
  unfold tn_ob
  refine tn_sm_le (fun i i0 i1 => ?_)
  refine tn_b_le (fun u => ?_)
  rcases V.L (c := d) ⟨d0, by omega⟩ i0 with ⟨e1, _⟩ | ⟨_, _, oc, _⟩
  · have := u.2
    omega
  · rw [u.2] at oc
    exact oc
theorem tl_T5_8 {t : Int} (q : tn_tq s t ≠ 0) : tl_T8 s t = 0 := by
  unfold tl_T8
  refine tn_sm_0 (fun d d0 d1 => tn_b0 ?_)
  rintro ⟨r, r0, r1, k, e⟩
  have := k.2.2.1
  rw [e] at this
  exact q this
theorem tl_T8_rg (t : Int) : 0 ≤ tl_T8 s t ∧ tl_T8 s t ≤ 6 := by
  have := tn_sm_rg (f := fun d => tn_b (tn_hm s t d (tn_sz s d))) (B := 1) (m := 6) (fun i _ _ => tn_b_rg _)
  unfold tl_T8
  omega
theorem tl_T6_rg (g : tl_g s) (t : Int) : 0 ≤ tl_T6 s t ∧ tl_T6 s t ≤ 240 := by
  have := tn_s2_rg (f := tn_fu s t) (sz := tn_sz s) (c := 6) (p := 0) (fun d i => tn_fu_rg s t d i) (fun d d0 d1 => g.ok.c ⟨d0, d1⟩) (by omega) (by omega) (by omega)
  unfold tl_T6
  omega
theorem tl_nest1 {t : Int} (ht : 0 ≤ t ∧ t < tn_nT s) : sp_nested s t t = 1 := by
  unfold sp_nested
  rw [if_pos (by omega), show (tn_tl s t - tn_tl s t + 1).toNat = 1 by omega]
  show 0 + tn_b (tn_wi s t t ((0 : Nat) : Int)) = 1
  rw [tn_b1 (show tn_wi s t t ((0 : Nat) : Int) from fun k _ _ => by rw [show ((0 : Nat) : Int) + k = k by omega])]
  rfl
end SMS
