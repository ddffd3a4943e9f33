section BTH
variable {h : tm_H} {a b : Nat} {s : tn_St} {l : Int} {x : Int → Int} {z : Int} {st : Int → tn_St} {C : Nat → Nat → Int} {J : Nat → Int}
/-- what is asked of a new state -/
def tn_gd (s : tn_St) (o : Option tn_St) : Prop := ∀ s', o = some s' → tn_ok s' ∧ tn_nT s' ≤ 12 ∧ tn_n s' = tn_n s
theorem tn_gd_no (s : tn_St) : tn_gd s none := fun _ e => by cases e
theorem tn_gd_of {s s' : tn_St} (h : tn_ok s' ∧ tn_nT s' ≤ 12 ∧ tn_n s' = tn_n s) : tn_gd s (some s') := fun _ e => by cases e; exact h
end BTH
section GDS
variable {s : tn_St}
theorem tn_gd_insert (ok : tn_ok s) (nT : tn_nT s ≤ 12) (c p w : Int) : tn_gd s (sp_insert s c p w).2 := by
  unfold sp_insert
  by_cases c1 : 0 ≤ c ∧ c < 6 ∧ 0 ≤ p ∧ p ≤ tn_sz s c ∧ 0 ≤ w ∧ w < tn_n s
  · rw [if_pos c1]
    by_cases c2 : tn_sz s c < 40
    · rw [if_pos c2]
      obtain ⟨h1, h2, h3, h4, h5⟩ := ok
      refine tn_gd_of ⟨⟨h1, h2, h3, fun d d0 d1 => ?_, h5⟩, nT, rfl⟩
      have q := h4 d d0 d1
      have qc := h4 c c1.1 c1.2.1
      show 0 ≤ (if d = c then tn_sz s c + 1 else tn_sz s d) ∧ (if d = c then tn_sz s c + 1 else tn_sz s d) ≤ 40 ∧ ∀ i : Int, 0 ≤ i → i < (if d = c then tn_sz s c + 1 else tn_sz s d) → 0 ≤ (if d = c then (if i < p then tn_wd s c i else if i = p then w else tn_wd s c (i - 1)) else tn_wd s d i) ∧ (if d = c then (if i < p then tn_wd s c i else if i = p then w else tn_wd s c (i - 1)) else tn_wd s d i) < tn_n s
      by_cases y : d = c
      · simp only [if_pos y]
        refine ⟨by omega, by omega, fun i i0 i1 => ?_⟩
        by_cases y1 : i < p
        · simp only [if_pos y1]
          exact qc.2.2 i i0 (by omega)
        · simp only [if_neg y1]
          by_cases y2 : i = p
          · simp only [if_pos y2]
            exact ⟨c1.2.2.2.2.1, c1.2.2.2.2.2⟩
          · simp only [if_neg y2]
            exact qc.2.2 (i - 1) (by omega) (by omega)
      · simp only [if_neg y]
        exact q
    · rw [if_neg c2]; exact tn_gd_no s
  · rw [if_neg c1]; exact tn_gd_no s
theorem tn_gd_delete (ok : tn_ok s) (nT : tn_nT s ≤ 12) (c p e : Int) : tn_gd s (sp_delete s c p e).2 := by
  unfold sp_delete
  by_cases c1 : 0 ≤ c ∧ c < 6 ∧ 0 ≤ p ∧ p ≤ e ∧ e < tn_sz s c
  · rw [if_pos c1]
    obtain ⟨h1, h2, h3, h4, h5⟩ := ok
    refine tn_gd_of ⟨⟨h1, h2, h3, fun d d0 d1 => ?_, h5⟩, nT, rfl⟩
    have q := h4 d d0 d1
    have qc := h4 c c1.1 c1.2.1
    show 0 ≤ (if d = c then tn_sz s c - (e - p + 1) else tn_sz s d) ∧ (if d = c then tn_sz s c - (e - p + 1) else tn_sz s d) ≤ 40 ∧ ∀ i : Int, 0 ≤ i → i < (if d = c then tn_sz s c - (e - p + 1) else tn_sz s d) → 0 ≤ (if d = c then (if i < p then tn_wd s c i else tn_wd s c (i + (e - p + 1))) else tn_wd s d i) ∧ (if d = c then (if i < p then tn_wd s c i else tn_wd s c (i + (e - p + 1))) else tn_wd s d i) < tn_n s
    by_cases y : d = c
    · simp only [if_pos y]
      refine ⟨by omega, by omega, fun i i0 i1 => ?_⟩
      by_cases y1 : i < p
      · simp only [if_pos y1]
        exact qc.2.2 i i0 (by omega)
      · simp only [if_neg y1]
        exact qc.2.2 _ (by omega) (by omega)
    · simp only [if_neg y]
      exact q
  · rw [if_neg c1]; exact tn_gd_no s
theorem tn_gd_replace (ok : tn_ok s) (nT : tn_nT s ≤ 12) (w o : Int) : tn_gd s (sp_replace s w o).2 := by
  unfold sp_replace
  by_cases c1 : 0 ≤ w ∧ w < tn_n s ∧ 0 ≤ o ∧ o < tn_n s ∧ w ≠ o
  · rw [if_pos c1]
    obtain ⟨h1, h2, h3, h4, h5⟩ := ok
    refine tn_gd_of ⟨⟨h1, h2, h3, fun d d0 d1 => ?_, h5⟩, nT, rfl⟩
    have q := h4 d d0 d1
    refine ⟨q.1, q.2.1, fun i i0 i1 => ?_⟩
    show 0 ≤ (if tn_wd s d i = w then o else tn_wd s d i) ∧ (if tn_wd s d i = w then o else tn_wd s d i) < tn_n s
    by_cases y : tn_wd s d i = w
    · simp only [if_pos y]
      exact ⟨c1.2.2.1, c1.2.2.2.1⟩
    · simp only [if_neg y]
      exact q.2.2 i i0 i1
  · rw [if_neg c1]; exact tn_gd_no s
theorem tn_gd_swap (ok : tn_ok s) (nT : tn_nT s ≤ 12) (c d : Int) : tn_gd s (sp_swap s c d).2 := by
  unfold sp_swap
  by_cases c1 : 0 ≤ c ∧ c < 6 ∧ 0 ≤ d ∧ d < 6
  · rw [if_pos c1]
    exact tn_gd_of ⟨ok.swp ⟨c1.1, c1.2.1⟩ c1.2.2, nT, rfl⟩
  · rw [if_neg c1]; exact tn_gd_no s
theorem tn_gd_add (ok : tn_ok s) (a1 a2 a3 a4 : Int) : tn_gd s (sp_add s a1 a2 a3 a4).2 := by
  unfold sp_add
  by_cases c1 : sp_ask s a1 a2 a3 a4 < 0
  · rw [if_pos c1]; exact tn_gd_no s
  · rw [if_neg c1]
    by_cases c2 : tn_nT s < 12
    · rw [if_pos c2]
      exact tn_gd_of ⟨ok.asked (by omega) c1, show tn_nT s + 1 ≤ 12 by omega, rfl⟩
    · rw [if_neg c2]; exact tn_gd_no s
theorem tn_gd_remove (ok : tn_ok s) (nT : tn_nT s ≤ 12) (d : Int) : tn_gd s (sp_remove s d).2 := by
  unfold sp_remove
  by_cases c1 : 0 ≤ d ∧ d < tn_nT s
  · rw [if_pos c1]
    exact tn_gd_of ⟨ok.drp c1, show tn_nT s - 1 ≤ 12 by omega, rfl⟩
  · rw [if_neg c1]; exact tn_gd_no s
theorem tn_gd_quiet (ok : tn_ok s) (nT : tn_nT s ≤ 12) (t v : Int) : tn_gd s (sp_quiet s t v).2 := by
  unfold sp_quiet
  by_cases c1 : 0 ≤ t ∧ t < tn_nT s ∧ 0 ≤ v ∧ v ≤ 1
  · rw [if_pos c1]
    exact tn_gd_of ⟨ok.hsh (by omega), nT, rfl⟩
  · rw [if_neg c1]; exact tn_gd_no s
theorem tn_gd_base (ok : tn_ok s) (nT : tn_nT s ≤ 12) (w v : Int) : tn_gd s (sp_base s w v).2 := by
  unfold sp_base
  by_cases c1 : 0 ≤ w ∧ w < tn_n s ∧ 0 ≤ v ∧ v < tn_n s
  · rw [if_pos c1]
    by_cases c2 : tn_may s w v
    · rw [if_pos c2]
      exact tn_gd_of ⟨ok.setB ⟨c1.2.2.1, c1.2.2.2⟩, nT, rfl⟩
    · rw [if_neg c2]; exact tn_gd_no s
  · rw [if_neg c1]; exact tn_gd_no s
theorem tn_gd_take (ok : tn_ok s) (nT : tn_nT s ≤ 12) (y : Int) : tn_gd s (sp_take s y).2 := by
  unfold sp_take
  by_cases c1 : 0 ≤ y ∧ y < 2
  · rw [if_pos c1]
    obtain ⟨h1, h2, h3, h4, h5, h6, h7, h8⟩ := ok
    refine tn_gd_of ⟨⟨h1, h2, h3, h4, h5, h6, h7, fun u u0 u1 => ?_⟩, nT, rfl⟩
    have q := h8 u u0 u1
    show ((if u = y then 1 else tn_tk s u) = 0 ∨ (if u = y then 1 else tn_tk s u) = 1) ∧ ((if u = y then 1 else tn_tk s u) = 1 → ∀ c : Int, 0 ≤ c → c < 6 → 0 ≤ (if u = y then tn_sz s else tn_zs s u) c ∧ (if u = y then tn_sz s else tn_zs s u) c ≤ 40 ∧ ∀ p : Int, 0 ≤ p → p < (if u = y then tn_sz s else tn_zs s u) c → 0 ≤ (if u = y then tn_wd s else tn_zw s u) c p ∧ (if u = y then tn_wd s else tn_zw s u) c p < tn_n s)
    by_cases k : u = y
    · simp only [if_pos k]
      exact ⟨Or.inr trivial, fun _ c c0 c2 => h4 c c0 c2⟩
    · simp only [if_neg k]
      exact q
  · rw [if_neg c1]; exact tn_gd_no s
theorem tn_gd_restore (ok : tn_ok s) (nT : tn_nT s ≤ 12) (y : Int) : tn_gd s (sp_restore s y).2 := by
  unfold sp_restore
  by_cases c1 : 0 ≤ y ∧ y < 2
  · rw [if_pos c1]
    by_cases c2 : tn_tk s y = 0
    · rw [if_pos c2]; exact tn_gd_no s
    · rw [if_neg c2]
      obtain ⟨h1, h2, h3, h4, h5⟩ := ok
      have q := h5.2.2.2 y c1.1 c1.2
      exact tn_gd_of ⟨⟨h1, h2, h3, fun c c0 c2 => q.2 (by omega) c c0 c2, h5⟩, nT, rfl⟩
  · rw [if_neg c1]; exact tn_gd_no s
end GDS
