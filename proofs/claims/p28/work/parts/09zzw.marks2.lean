/-! the marks of a chapter, counted by the law -/
theorem tl_b_iff {P Q : Prop} (h : P ↔ Q) : tn_b P = tn_b Q := by rw [propext h]
section MK2
variable {a : Nat} {s : tn_St} {z : Int} {st : Int → tn_St} {c : Int}
theorem tl_s2_run {k w : Int} (k0 : 0 ≤ k) (be : tn_be (tn_L s c) (tn_w s) k) (ew : tn_w s (tn_L s c k) = w) : ∀ i : Nat, (i : Int) + 1 ≤ w → tn_s2 (tn_fk s) (tn_sz s) c (k + ((i : Int) + 1)) = tn_s2 (tn_fk s) (tn_sz s) c k + tn_fk s c k
  | 0, _ => by
    rw [show k + (((0 : Nat) : Int) + 1) = k + 1 by omega]
    exact tn_s2_p k0
  | i + 1, h => by
    have ih := tl_s2_run k0 be ew i (by omega)
    rw [show k + (((i + 1 : Nat) : Int) + 1) = k + ((i : Int) + 1) + 1 by omega, tn_s2_p (by omega), ih]
    have e : tn_fk s c (k + ((i : Int) + 1)) = 0 := tn_b0 (fun q => tl_nb_run k0 be (i := (i : Int) + 1) (by omega) (by rw [ew]; omega) q.1)
    rw [e]
    omega
theorem tl_mi_l (hc : 0 ≤ c ∧ c < 6) {fr : Int} (hf : -1000 ≤ fr ∧ fr ≤ 1000) : ∀ (m : Nat) (k x6 : Int) (h : tm_H), tl_V a s z st h → 0 ≤ k → k ≤ tn_sz s c → tn_be (tn_L s c) (tn_w s) k → (∀ t : Int, 0 ≤ t → t < tn_nT s → tn_bit x6 t = tn_b (tl_E s c k t)) → (tn_sz s c - k).toNat ≤ m → ∃ h', fL_marksIn_L15 a c fr (tn_sz s c) k (tn_s2 (tn_fk s) (tn_sz s) c k) x6 h = some (tn_s2 (tn_fk s) (tn_sz s) c (tn_sz s c) - fr, h') ∧ tl_V a s z st h'
  | 0, k, x6, h, V, k0, k1, be, hb, hm => by
    have s2 := tl_s2 V.g hc k0
    have sz := V.g.ok.c hc
    refine ⟨h, ?_, V⟩
    rw [fL_marksIn_L15_eq, if_neg (by omega), tm_wr_id (by omega) (by omega), show k = tn_sz s c by omega]
  | m + 1, k, x6, h, V, k0, k1, be, hb, hm => by
    have s2 := tl_s2 V.g hc k0
    have sz := V.g.ok.c hc
    have nT := V.g.nT
    by_cases kn : k < tn_sz s c
    · rcases V.L hc k0 with ⟨et, no⟩ | ⟨t0, t1, oc, _⟩
      · obtain ⟨h1, e1, V1⟩ := tl_mi_no hc (x5 := tn_s2 (tn_fk s) (tn_sz s) c k) (x6 := x6) (fr := fr) V ⟨k0, kn⟩ be et
        have e2 : tn_s2 (tn_fk s) (tn_sz s) c (k + 1) = tn_s2 (tn_fk s) (tn_sz s) c k + 0 := by
          rw [tn_s2_p k0, show tn_fk s c k = 0 from tn_b0 (fun q => q.2.1 et)]
        obtain ⟨h', e', V'⟩ := tl_mi_l hc hf m (k + 1) (tm_or x6 0) h1 V1 (by omega) (by omega) (tl_be_next k0 be (v := 1) (by omega) (Or.inr ⟨rfl, by rw [et, tl_w99]; omega⟩)) (fun t t0 t1 => by
          rw [tl_bit_or0, hb t t0 t1]
          refine tl_b_iff ⟨fun ⟨r, r0, r1, u⟩ => ⟨r, r0, by omega, u⟩, fun ⟨r, r0, r1, u⟩ => ?_⟩
          by_cases rk : r = k
          · subst rk
            have := u.2
            omega
          · exact ⟨r, r0, by omega, u⟩) (by omega)
        refine ⟨h', ?_, V'⟩
        rw [e1, tm_wr_id (z := k + 1) (by omega) (by omega), tm_wr_id (z := tn_s2 (tn_fk s) (tn_sz s) c k + 0) (by omega) (by omega), ← e2]
        exact e'
      · have ht : 0 ≤ tn_L s c k ∧ tn_L s c k < tn_nT s := ⟨t0, t1⟩
        have tl := V.g.ok.t ht
        have oc1 := oc.1
        have ew : tn_w s (tn_L s c k) = tn_tl s (tn_L s c k) := tl_w ht
        obtain ⟨h1, e1, V1⟩ := tl_mi_at hc (x6 := x6) (fr := fr) V ⟨k0, kn⟩ be rfl ht oc (hb _ t0 t1)
        have e2 : tn_s2 (tn_fk s) (tn_sz s) c (k + tn_tl s (tn_L s c k)) = tn_s2 (tn_fk s) (tn_sz s) c k + tn_b (tn_mk (tn_L s c) (tn_w s) (tn_tq s) k) := by
          have q := tl_s2_run k0 be ew (tn_tl s (tn_L s c k) - 1).toNat (by omega)
          rw [show k + (((tn_tl s (tn_L s c k) - 1).toNat : Int) + 1) = k + tn_tl s (tn_L s c k) by omega] at q
          exact q
        have brg := tn_b_rg (tn_mk (tn_L s c) (tn_w s) (tn_tq s) k)
        have hE : ∀ t : Int, tl_E s c (k + tn_tl s (tn_L s c k)) t ↔ tl_E s c k t ∨ t = tn_L s c k := fun t => by
          constructor
          · rintro ⟨r, r0, r1, u⟩
            by_cases lt : r < k
            · exact Or.inl ⟨r, r0, lt, u⟩
            · by_cases eq : r = k
              · subst eq; exact Or.inr u.2.symm
              · have := tl_nb_run k0 be (i := r - k) (by omega) (by rw [ew]; omega)
                rw [show k + (r - k) = r by omega] at this
                exact absurd u.1 this
          · rintro (⟨r, r0, r1, u⟩ | e)
            · exact ⟨r, r0, by omega, u⟩
            · exact ⟨k, k0, by omega, be, e.symm⟩
        obtain ⟨h', e', V'⟩ := tl_mi_l hc hf m (k + tn_tl s (tn_L s c k)) (tm_or x6 (if tn_b (¬ tl_E s c k (tn_L s c k)) = 0 then 0 else tm_shl 1 (tn_L s c k))) h1 V1 (by omega) (by omega) (tl_be_next k0 be (v := tn_tl s (tn_L s c k)) (by omega) (Or.inl ew.symm)) (fun t t0' t1' => by
          by_cases E : tl_E s c k (tn_L s c k)
          · rw [tn_b0 (fun f => f E : ¬ ¬ tl_E s c k (tn_L s c k)), if_pos rfl, tl_bit_or0, hb t t0' t1']
            refine tl_b_iff ⟨fun q => (hE t).mpr (Or.inl q), fun q => ?_⟩
            rcases (hE t).mp q with y | y
            · exact y
            · rw [y]; exact E
          · rw [tn_b1 E, if_neg (by omega), tn_bit_or x6 ⟨t0', by omega⟩ ⟨t0, by omega⟩]
            by_cases y : t = tn_L s c k
            · rw [if_pos y, tn_b1 ((hE t).mpr (Or.inr y))]
            · rw [if_neg y, hb t t0' t1']
              refine tl_b_iff ⟨fun q => (hE t).mpr (Or.inl q), fun q => ?_⟩
              rcases (hE t).mp q with y' | y'
              · exact y'
              · exact absurd y' y) (by omega)
        refine ⟨h', ?_, V'⟩
        rw [e1, tm_wr_id (z := k + tn_tl s (tn_L s c k)) (by omega) (by omega), tm_wr_id (z := tn_s2 (tn_fk s) (tn_sz s) c k + tn_b (tn_mk (tn_L s c) (tn_w s) (tn_tq s) k)) (by omega) (by omega), ← e2]
        exact e'
    · refine ⟨h, ?_, V⟩
      rw [fL_marksIn_L15_eq, if_neg (by omega), tm_wr_id (by omega) (by omega), show k = tn_sz s c by omega]
theorem lk_marksIn {h : tm_H} (V : tl_V a s z st h) (hc : 0 ≤ c ∧ c < 6) : ∃ h', fL_marksIn a c (tn_s2 (tn_fk s) (tn_sz s) c 0) h = some (tn_s2 (tn_fk s) (tn_sz s) c (tn_sz s c) - tn_s2 (tn_fk s) (tn_sz s) c 0, h') ∧ tl_V a s z st h' := by
  have s2 := tl_s2 V.g hc (Int.le_refl 0)
  have sz := V.g.ok.c hc
  have nT := V.g.nT
  obtain ⟨h1, e1, V1⟩ := lk_size V hc
  obtain ⟨h', e', V'⟩ := tl_mi_l hc (fr := tn_s2 (tn_fk s) (tn_sz s) c 0) (by omega) _ 0 0 h1 V1 (by omega) (by omega) (by unfold tn_be; simp [tn_rd]) (fun t t0 t1 => by
    rw [tn_bit0 ⟨t0, by omega⟩, tn_b0]
    rintro ⟨r, r0, r1, _⟩
    omega) (Nat.le_refl _)
  refine ⟨h', ?_, V'⟩
  simp only [fL_marksIn, e1, Option.bind_some]
  exact e'
end MK2
