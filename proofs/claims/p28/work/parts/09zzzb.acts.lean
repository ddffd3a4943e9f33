/-! an action of the law: refused, and nothing changed, or done -/
def tl_R (a : Nat) (s : tn_St) (z : Int) (st : Int → tn_St) (r : Int) (h : tm_H) : Prop :=
  (-3 ≤ r ∧ r < 0 ∧ tl_V a s z st h) ∨ (0 ≤ r ∧ ∃ s', tl_V a s' (tn_hz z) (tn_hs z st s) h) ∨ (0 ≤ r ∧ z ≠ 0 ∧ tl_V a (st (z - 1)) (z - 1) st h)
section ACS
variable {a : Nat} {s : tn_St} {z : Int} {st : Int → tn_St} {h : tm_H}
theorem tl_R_of {r : tn_An} (J : tl_J a s z st r.2 h) (k : (r.2 = none ∧ -3 ≤ r.1 ∧ r.1 < 0) ∨ (∃ s', r.2 = some s' ∧ 0 ≤ r.1)) : tl_R a s z st r.1 h := by
  rcases k with ⟨k1, k2, k3⟩ | ⟨s', k1, k2⟩
  · exact Or.inl ⟨k2, k3, J.no k1⟩
  · rw [k1] at J
    exact Or.inr (Or.inl ⟨k2, s', J⟩)
theorem tl_R_insert (g : tl_g s) (c p w : Int) : ((sp_insert s c p w).2 = none ∧ -3 ≤ (sp_insert s c p w).1 ∧ (sp_insert s c p w).1 < 0) ∨ (∃ s', (sp_insert s c p w).2 = some s' ∧ 0 ≤ (sp_insert s c p w).1) := by
  unfold sp_insert
  by_cases k : 0 ≤ c ∧ c < 6 ∧ 0 ≤ p ∧ p ≤ tn_sz s c ∧ 0 ≤ w ∧ w < tn_n s
  · rw [if_pos k]
    by_cases j : tn_sz s c < 40
    · rw [if_pos j]
      exact Or.inr ⟨_, rfl, by dsimp only; omega⟩
    · rw [if_neg j]
      exact Or.inl ⟨rfl, by decide, by decide⟩
  · rw [if_neg k]
    exact Or.inl ⟨rfl, by decide, by decide⟩
theorem tl_R_delete (g : tl_g s) (c p q : Int) : ((sp_delete s c p q).2 = none ∧ -3 ≤ (sp_delete s c p q).1 ∧ (sp_delete s c p q).1 < 0) ∨ (∃ s', (sp_delete s c p q).2 = some s' ∧ 0 ≤ (sp_delete s c p q).1) := by
  unfold sp_delete
  by_cases k : 0 ≤ c ∧ c < 6 ∧ 0 ≤ p ∧ p ≤ q ∧ q < tn_sz s c
  · rw [if_pos k]
    exact Or.inr ⟨_, rfl, by dsimp only; omega⟩
  · rw [if_neg k]
    exact Or.inl ⟨rfl, by decide, by decide⟩
theorem tl_R_replace (g : tl_g s) (w o : Int) : ((sp_replace s w o).2 = none ∧ -3 ≤ (sp_replace s w o).1 ∧ (sp_replace s w o).1 < 0) ∨ (∃ s', (sp_replace s w o).2 = some s' ∧ 0 ≤ (sp_replace s w o).1) := by
  unfold sp_replace
  by_cases k : 0 ≤ w ∧ w < tn_n s ∧ 0 ≤ o ∧ o < tn_n s ∧ w ≠ o
  · rw [if_pos k]
    exact Or.inr ⟨_, rfl, tl_sm_nn (fun d _ _ => tl_sm_nn (fun i _ _ => (tn_b_rg _).1))⟩
  · rw [if_neg k]
    exact Or.inl ⟨rfl, by decide, by decide⟩
theorem tl_R_swap (g : tl_g s) (c d : Int) : ((sp_swap s c d).2 = none ∧ -3 ≤ (sp_swap s c d).1 ∧ (sp_swap s c d).1 < 0) ∨ (∃ s', (sp_swap s c d).2 = some s' ∧ 0 ≤ (sp_swap s c d).1) := by
  unfold sp_swap
  by_cases k : 0 ≤ c ∧ c < 6 ∧ 0 ≤ d ∧ d < 6
  · rw [if_pos k]
    exact Or.inr ⟨_, rfl, (tn_M_rg (g.ok.swp (c := c) (d := d) (by omega) (by omega))).1⟩
  · rw [if_neg k]
    exact Or.inl ⟨rfl, by decide, by decide⟩
theorem tl_R_quiet (g : tl_g s) (t v : Int) : ((sp_quiet s t v).2 = none ∧ -3 ≤ (sp_quiet s t v).1 ∧ (sp_quiet s t v).1 < 0) ∨ (∃ s', (sp_quiet s t v).2 = some s' ∧ 0 ≤ (sp_quiet s t v).1) := by
  unfold sp_quiet
  by_cases k : 0 ≤ t ∧ t < tn_nT s ∧ 0 ≤ v ∧ v ≤ 1
  · rw [if_pos k]
    exact Or.inr ⟨_, rfl, (tn_M_rg (g.ok.hsh (t := t) (v := v) (by omega))).1⟩
  · rw [if_neg k]
    exact Or.inl ⟨rfl, by decide, by decide⟩
theorem tl_R_base (g : tl_g s) (w b : Int) : ((sp_base s w b).2 = none ∧ -3 ≤ (sp_base s w b).1 ∧ (sp_base s w b).1 < 0) ∨ (∃ s', (sp_base s w b).2 = some s' ∧ 0 ≤ (sp_base s w b).1) := by
  unfold sp_base
  by_cases k : 0 ≤ w ∧ w < tn_n s ∧ 0 ≤ b ∧ b < tn_n s
  · rw [if_pos k]
    by_cases j : tn_may s w b
    · rw [if_pos j]
      exact Or.inr ⟨_, rfl, (g.ok.b (w := w) (by omega)).1⟩
    · rw [if_neg j]
      exact Or.inl ⟨rfl, by decide, by decide⟩
  · rw [if_neg k]
    exact Or.inl ⟨rfl, by decide, by decide⟩
theorem tl_R_take (g : tl_g s) (y : Int) : ((sp_take s y).2 = none ∧ -3 ≤ (sp_take s y).1 ∧ (sp_take s y).1 < 0) ∨ (∃ s', (sp_take s y).2 = some s' ∧ 0 ≤ (sp_take s y).1) := by
  unfold sp_take
  by_cases k : 0 ≤ y ∧ y < 2
  · rw [if_pos k]
    exact Or.inr ⟨_, rfl, tl_sm_nn (fun d d0 d1 => (g.ok.c ⟨d0, by omega⟩).1)⟩
  · rw [if_neg k]
    exact Or.inl ⟨rfl, by decide, by decide⟩
theorem tl_R_restore (g : tl_g s) (y : Int) : ((sp_restore s y).2 = none ∧ -3 ≤ (sp_restore s y).1 ∧ (sp_restore s y).1 < 0) ∨ (∃ s', (sp_restore s y).2 = some s' ∧ 0 ≤ (sp_restore s y).1) := by
  unfold sp_restore
  by_cases k : 0 ≤ y ∧ y < 2
  · rw [if_pos k]
    by_cases j : tn_tk s y = 0
    · rw [if_pos j]
      exact Or.inl ⟨rfl, by decide, by decide⟩
    · rw [if_neg j]
      have q := g.ok.2.2.2.2.2.2.2 y k.1 k.2
      have e : tn_tk s y = 1 := by
        rcases q.1 with e | e
        · exact absurd e j
        · exact e
      exact Or.inr ⟨_, rfl, tl_sm_nn (fun d d0 d1 => (q.2 e d d0 (by omega)).1)⟩
  · rw [if_neg k]
    exact Or.inl ⟨rfl, by decide, by decide⟩
theorem tl_R_remove (g : tl_g s) (d : Int) : ((sp_remove s d).2 = none ∧ -3 ≤ (sp_remove s d).1 ∧ (sp_remove s d).1 < 0) ∨ (∃ s', (sp_remove s d).2 = some s' ∧ 0 ≤ (sp_remove s d).1) := by
  unfold sp_remove
  by_cases k : 0 ≤ d ∧ d < tn_nT s
  · rw [if_pos k]
    exact Or.inr ⟨_, rfl, by dsimp only; omega⟩
  · rw [if_neg k]
    exact Or.inl ⟨rfl, by decide, by decide⟩
theorem tl_R_add (g : tl_g s) (b c d e : Int) : ((sp_add s b c d e).2 = none ∧ -3 ≤ (sp_add s b c d e).1 ∧ (sp_add s b c d e).1 < 0) ∨ (∃ s', (sp_add s b c d e).2 = some s' ∧ 0 ≤ (sp_add s b c d e).1) := by
  have nT := g.nT
  unfold sp_add
  by_cases k : sp_ask s b c d e < 0
  · rw [if_pos k]
    refine Or.inl ⟨rfl, ?_, k⟩
    have K := tn_aK_rg c d e
    show -3 ≤ sp_ask s b c d e
    unfold sp_ask
    by_cases av : tn_aV (tn_n s) b c d e
    · rw [if_pos av]
      by_cases lk : tn_lik s (tn_aK c d e) (tn_aW b c d e)
      · rw [if_pos lk]; omega
      · rw [if_neg lk]; omega
    · rw [if_neg av]; omega
  · rw [if_neg k]
    by_cases j : tn_nT s < 12
    · rw [if_pos j]
      exact Or.inr ⟨_, rfl, nT.1⟩
    · rw [if_neg j]
      exact Or.inl ⟨rfl, by decide, by decide⟩
theorem tl_acts (V : tl_V a s z st h) (x y : Int) : ∃ r h', fL_acts a x y h = some (r, h') ∧ tl_R a s z st r h' := by
  have g := V.g
  obtain ⟨v1, e1, p1, q1⟩ := tl_low (v := y) (d := 2) (h := h) (by omega) (by omega)
  have hc : 0 ≤ v1 * 3 ∧ v1 * 3 < 6 := by omega
  have sz := g.ok.c hc
  obtain ⟨h2, e2, V2⟩ := lk_size V hc
  obtain ⟨v3, e3, p3, q3⟩ := tl_low (v := tm_shr y 3) (d := 5) (h := h2) (by omega) (by omega)
  obtain ⟨v4, e4, p4, q4⟩ := tl_low (v := x) (d := 18) (h := h2) (by omega) (by omega)
  obtain ⟨l2, f2, _⟩ := tl_low (v := y) (d := 2) (h := h2) (by omega) (by omega)
  obtain ⟨l6, f6, _⟩ := tl_low (v := y) (d := 6) (h := h2) (by omega) (by omega)
  obtain ⟨m2, g2, _⟩ := tl_low (v := tm_shr y 2) (d := 13) (h := h2) (by omega) (by omega)
  obtain ⟨m28, g28, _⟩ := tl_low (v := tm_shr y 2) (d := 8) (h := h2) (by omega) (by omega)
  obtain ⟨m36, g36, _⟩ := tl_low (v := tm_shr y 3) (d := 6) (h := h2) (by omega) (by omega)
  obtain ⟨m4, g4, m40, m41⟩ := tl_low (v := tm_shr y 4) (d := tn_sz s (v1 * 3) + 1) (h := h2) (by omega) (by omega)
  obtain ⟨m62, g62, _⟩ := tl_low (v := tm_shr y 6) (d := 2) (h := h2) (by omega) (by omega)
  obtain ⟨m66, g66, _⟩ := tl_low (v := tm_shr y 6) (d := 6) (h := h2) (by omega) (by omega)
  obtain ⟨m7, g7, _⟩ := tl_low (v := tm_shr y 7) (d := 5) (h := h2) (by omega) (by omega)
  obtain ⟨m9, g9, m90, m91⟩ := tl_low (v := tm_shr y 9) (d := 2) (h := h2) (by omega) (by omega)
  have w1 : tm_wr (v1 * 3) = v1 * 3 := tm_wr_id (by omega) (by omega)
  have w2 : tm_wr (tn_sz s (v1 * 3) + 1) = tn_sz s (v1 * 3) + 1 := tm_wr_id (by omega) (by omega)
  have add : ∀ b c : Int, ∃ r h', fL_acts_L122 a x y a b c h2 = some (r, h') ∧ tl_R a s z st r h' := fun b c => by
    obtain ⟨h3, e3', J⟩ := la_add V2 b c (-1) (-1)
    refine ⟨_, h3, ?_, tl_R_of J (tl_R_add g b c (-1) (-1))⟩
    rw [fL_acts_L122, e3', Option.bind_some]
  rw [fL_acts, e1, Option.bind_some, w1, e2, Option.bind_some]
  dsimp only
  rw [e3, Option.bind_some, e4, Option.bind_some, w2]
  by_cases c0 : v4 = 0
  · rw [if_pos c0, g62, Option.bind_some]
    by_cases k : m62 = 0
    · rw [if_pos k]; exact add v3 (-1)
    · rw [if_neg k, g7, Option.bind_some]; exact add v3 m7
  rw [if_neg c0]
  by_cases c1 : v4 = 1
  · rw [if_pos c1, g62, Option.bind_some]
    by_cases k : m62 = 0
    · rw [if_pos k]; exact add v3 (-1)
    · rw [if_neg k, g7, Option.bind_some]; exact add v3 m7
  rw [if_neg c1]
  by_cases c2 : v4 = 2
  · rw [if_pos c2, g62, Option.bind_some]
    by_cases k : m62 = 0
    · rw [if_pos k]; exact add v3 (-1)
    · rw [if_neg k, g7, Option.bind_some]; exact add v3 m7
  rw [if_neg c2]
  by_cases c3 : v4 = 3
  · rw [if_pos c3, g2, Option.bind_some]
    obtain ⟨h3, e, J⟩ := la_remove V2 m2
    refine ⟨_, h3, ?_, tl_R_of J (tl_R_remove g m2)⟩
    rw [e, Option.bind_some]
  rw [if_neg c3]
  by_cases c4 : v4 = 4
  · rw [if_pos c4, g28, Option.bind_some, f2, Option.bind_some]
    obtain ⟨h3, e, J⟩ := la_quiet V2 m28 l2
    refine ⟨_, h3, ?_, tl_R_of J (tl_R_quiet g m28 l2)⟩
    rw [e, Option.bind_some]
  rw [if_neg c4]
  by_cases c5 : v4 = 5
  · rw [if_pos c5, g66, Option.bind_some]
    obtain ⟨h3, e, J⟩ := la_base V2 v3 m66
    refine ⟨_, h3, ?_, tl_R_of J (tl_R_base g v3 m66)⟩
    rw [e, Option.bind_some]
  rw [if_neg c5]
  by_cases c6 : v4 = 6
  · rw [if_pos c6, g66, Option.bind_some]
    obtain ⟨h3, e, J⟩ := la_base V2 v3 m66
    refine ⟨_, h3, ?_, tl_R_of J (tl_R_base g v3 m66)⟩
    rw [e, Option.bind_some]
  rw [if_neg c6]
  by_cases c7 : v4 = 7
  · rw [if_pos c7, g4, Option.bind_some, Option.bind_some, g9, Option.bind_some]
    obtain ⟨h3, e, J⟩ := la_delete V2 (v1 * 3) m4 (tm_wr (m4 + m9))
    refine ⟨_, h3, ?_, tl_R_of J (tl_R_delete g (v1 * 3) m4 (tm_wr (m4 + m9)))⟩
    rw [e, Option.bind_some]
  rw [if_neg c7]
  by_cases c8 : v4 = 8
  · rw [if_pos c8, g66, Option.bind_some]
    obtain ⟨h3, e, J⟩ := la_replace V2 v3 m66
    refine ⟨_, h3, ?_, tl_R_of J (tl_R_replace g v3 m66)⟩
    rw [e, Option.bind_some]
  rw [if_neg c8]
  by_cases c9 : v4 = 9
  · rw [if_pos c9, f6, Option.bind_some, g36, Option.bind_some]
    obtain ⟨h3, e, J⟩ := la_swap V2 l6 m36
    refine ⟨_, h3, ?_, tl_R_of J (tl_R_swap g l6 m36)⟩
    rw [e, Option.bind_some]
  rw [if_neg c9]
  by_cases c10 : v4 = 10
  · rw [if_pos c10, f2, Option.bind_some]
    obtain ⟨h3, e, J⟩ := la_take V2 l2
    refine ⟨_, h3, ?_, tl_R_of J (tl_R_take g l2)⟩
    rw [e, Option.bind_some]
  rw [if_neg c10]
  by_cases c11 : v4 = 11
  · rw [if_pos c11, f2, Option.bind_some]
    obtain ⟨h3, e, J⟩ := la_restore V2 l2
    refine ⟨_, h3, ?_, tl_R_of J (tl_R_restore g l2)⟩
    rw [e, Option.bind_some]
  rw [if_neg c11]
  by_cases c12 : v4 = 12
  · rw [if_pos c12]
    by_cases z0 : z = 0
    · rw [(la_undo V2).1 z0, Option.bind_some]
      exact ⟨-2, h2, rfl, Or.inl ⟨by decide, by decide, V2⟩⟩
    · obtain ⟨h3, e, V3⟩ := (la_undo V2).2 z0
      have hz := V.hz
      rw [e, Option.bind_some]
      exact ⟨z - 1, h3, rfl, Or.inr (Or.inr ⟨by omega, z0, V3⟩)⟩
  rw [if_neg c12, g4, Option.bind_some]
  obtain ⟨h3, e, J⟩ := la_insert V2 (v1 * 3) m4 v3
  refine ⟨_, h3, ?_, tl_R_of J (tl_R_insert g (v1 * 3) m4 v3)⟩
  rw [e, Option.bind_some]
end ACS
