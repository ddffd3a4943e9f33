/-! each call of both, and the law -/
section STP
variable {h : tm_H} {a b : Nat}
theorem tz_insert (hd : a + 441 ≤ b) (hV : tn_Iv h a b) (c1 c2 c3 : Int) : ∃ v h1 h2, fX8_insert a c1 c2 c3 h = some (v, h1) ∧ fX9_insert b c1 c2 c3 h1 = some (v, h2) ∧ tn_Iv h2 a b := by
  obtain ⟨s, l, x, z, st, C, J, V⟩ := hV
  obtain ⟨h1, e1, I1, f1⟩ := tx8_insert V.1 V.2.2.2.1 c1 c2 c3
  obtain ⟨h2, e2, O2, f2⟩ := tx9_insert (V.E1 f1 hd) V.okC V.j0 c1 c2 c3
  rw [V.2.2.1] at e2 O2
  exact ⟨_, h1, h2, e1, e2, V.act hd I1 O2 f2 (tn_gd_insert V.2.2.2.1 V.2.2.2.2.1 c1 c2 c3)⟩
theorem tz_delete (hd : a + 441 ≤ b) (hV : tn_Iv h a b) (c1 c2 c3 : Int) : ∃ v h1 h2, fX8_delete a c1 c2 c3 h = some (v, h1) ∧ fX9_delete b c1 c2 c3 h1 = some (v, h2) ∧ tn_Iv h2 a b := by
  obtain ⟨s, l, x, z, st, C, J, V⟩ := hV
  obtain ⟨h1, e1, I1, f1⟩ := tx8_delete V.1 V.2.2.2.1 c1 c2 c3
  obtain ⟨h2, e2, O2, f2⟩ := tx9_delete (V.E1 f1 hd) V.okC V.j0 c1 c2 c3
  rw [V.2.2.1] at e2 O2
  exact ⟨_, h1, h2, e1, e2, V.act hd I1 O2 f2 (tn_gd_delete V.2.2.2.1 V.2.2.2.2.1 c1 c2 c3)⟩
theorem tz_replace (hd : a + 441 ≤ b) (hV : tn_Iv h a b) (c1 c2 : Int) : ∃ v h1 h2, fX8_replace a c1 c2 h = some (v, h1) ∧ fX9_replace b c1 c2 h1 = some (v, h2) ∧ tn_Iv h2 a b := by
  obtain ⟨s, l, x, z, st, C, J, V⟩ := hV
  obtain ⟨h1, e1, I1, f1⟩ := tx8_replace V.1 V.2.2.2.1 c1 c2
  obtain ⟨h2, e2, O2, f2⟩ := tx9_replace (V.E1 f1 hd) V.okC V.j0 c1 c2
  rw [V.2.2.1] at e2 O2
  exact ⟨_, h1, h2, e1, e2, V.act hd I1 O2 f2 (tn_gd_replace V.2.2.2.1 V.2.2.2.2.1 c1 c2)⟩
theorem tz_swap (hd : a + 441 ≤ b) (hV : tn_Iv h a b) (c1 c2 : Int) : ∃ v h1 h2, fX8_swap a c1 c2 h = some (v, h1) ∧ fX9_swap b c1 c2 h1 = some (v, h2) ∧ tn_Iv h2 a b := by
  obtain ⟨s, l, x, z, st, C, J, V⟩ := hV
  obtain ⟨h1, e1, I1, f1⟩ := tx8_swap V.1 V.2.2.2.1 c1 c2
  obtain ⟨h2, e2, O2, f2⟩ := tx9_swap (V.E1 f1 hd) V.okC V.hnC V.j0 c1 c2
  rw [V.2.2.1] at e2 O2
  exact ⟨_, h1, h2, e1, e2, V.act hd I1 O2 f2 (tn_gd_swap V.2.2.2.1 V.2.2.2.2.1 c1 c2)⟩
theorem tz_addTerm (hd : a + 441 ≤ b) (hV : tn_Iv h a b) (c1 c2 c3 c4 : Int) : ∃ v h1 h2, fX8_addTerm a c1 c2 c3 c4 h = some (v, h1) ∧ fX9_addTerm b c1 c2 c3 c4 h1 = some (v, h2) ∧ tn_Iv h2 a b := by
  obtain ⟨s, l, x, z, st, C, J, V⟩ := hV
  obtain ⟨h1, e1, I1, f1⟩ := tx8_addTerm V.1 V.2.2.2.1 c1 c2 c3 c4
  obtain ⟨h2, e2, O2, f2⟩ := tx9_addTerm (V.E1 f1 hd) V.okC V.hnC V.j0 c1 c2 c3 c4
  rw [V.2.2.1] at e2 O2
  exact ⟨_, h1, h2, e1, e2, V.act hd I1 O2 f2 (tn_gd_add V.2.2.2.1 c1 c2 c3 c4)⟩
theorem tz_removeTerm (hd : a + 441 ≤ b) (hV : tn_Iv h a b) (c1 : Int) : ∃ v h1 h2, fX8_removeTerm a c1 h = some (v, h1) ∧ fX9_removeTerm b c1 h1 = some (v, h2) ∧ tn_Iv h2 a b := by
  obtain ⟨s, l, x, z, st, C, J, V⟩ := hV
  obtain ⟨h1, e1, I1, f1⟩ := tx8_remove V.1 V.2.2.2.1 c1
  obtain ⟨h2, e2, O2, f2⟩ := tx9_remove (V.E1 f1 hd) V.okC V.hnC V.j0 c1
  rw [V.2.2.1] at e2 O2
  exact ⟨_, h1, h2, e1, e2, V.act hd I1 O2 f2 (tn_gd_remove V.2.2.2.1 V.2.2.2.2.1 c1)⟩
theorem tz_setQuiet (hd : a + 441 ≤ b) (hV : tn_Iv h a b) (c1 c2 : Int) : ∃ v h1 h2, fX8_setQuiet a c1 c2 h = some (v, h1) ∧ fX9_setQuiet b c1 c2 h1 = some (v, h2) ∧ tn_Iv h2 a b := by
  obtain ⟨s, l, x, z, st, C, J, V⟩ := hV
  obtain ⟨h1, e1, I1, f1⟩ := tx8_quiet V.1 V.2.2.2.1 c1 c2
  obtain ⟨h2, e2, O2, f2⟩ := tx9_setQuiet (V.E1 f1 hd) V.okC V.hnC V.j0 c1 c2
  rw [V.2.2.1] at e2 O2
  exact ⟨_, h1, h2, e1, e2, V.act hd I1 O2 f2 (tn_gd_quiet V.2.2.2.1 V.2.2.2.2.1 c1 c2)⟩
theorem tz_setBase (hd : a + 441 ≤ b) (hV : tn_Iv h a b) (c1 c2 : Int) : ∃ v h1 h2, fX8_setBase a c1 c2 h = some (v, h1) ∧ fX9_setBase b c1 c2 h1 = some (v, h2) ∧ tn_Iv h2 a b := by
  obtain ⟨s, l, x, z, st, C, J, V⟩ := hV
  obtain ⟨h1, e1, I1, f1⟩ := tx8_setBase V.1 V.2.2.2.1 c1 c2
  obtain ⟨h2, e2, O2, f2⟩ := tx9_setBase (V.E1 f1 hd) V.okC V.hnC V.j0 c1 c2
  rw [V.2.2.1] at e2 O2
  exact ⟨_, h1, h2, e1, e2, V.act hd I1 O2 f2 (tn_gd_base V.2.2.2.1 V.2.2.2.2.1 c1 c2)⟩
theorem tz_take (hd : a + 441 ≤ b) (hV : tn_Iv h a b) (c1 : Int) : ∃ v h1 h2, fX8_take a c1 h = some (v, h1) ∧ fX9_take b c1 h1 = some (v, h2) ∧ tn_Iv h2 a b := by
  obtain ⟨s, l, x, z, st, C, J, V⟩ := hV
  obtain ⟨h1, e1, I1, f1⟩ := tx8_take V.1 V.2.2.2.1 c1
  obtain ⟨h2, e2, O2, f2⟩ := tx9_take (V.E1 f1 hd) V.okC V.hnC V.j0 c1
  rw [V.2.2.1] at e2 O2
  exact ⟨_, h1, h2, e1, e2, V.act hd I1 O2 f2 (tn_gd_take V.2.2.2.1 V.2.2.2.2.1 c1)⟩
theorem tz_restore (hd : a + 441 ≤ b) (hV : tn_Iv h a b) (c1 : Int) : ∃ v h1 h2, fX8_restore a c1 h = some (v, h1) ∧ fX9_restore b c1 h1 = some (v, h2) ∧ tn_Iv h2 a b := by
  obtain ⟨s, l, x, z, st, C, J, V⟩ := hV
  obtain ⟨h1, e1, I1, f1⟩ := tx8_restore V.1 V.2.2.2.1 c1
  obtain ⟨h2, e2, O2, f2⟩ := tx9_restore (V.E1 f1 hd) V.okC V.j0 c1
  rw [V.2.2.1] at e2 O2
  exact ⟨_, h1, h2, e1, e2, V.act hd I1 O2 f2 (tn_gd_restore V.2.2.2.1 V.2.2.2.2.1 c1)⟩
theorem tz_place (hd : a + 441 ≤ b) (hV : tn_Iv h a b) (c1 c2 c3 : Int) : ∃ v h1 h2, fX8_place a c1 c2 c3 h = some (v, h1) ∧ fX9_place b c1 c2 c3 h1 = some (v, h2) ∧ tn_Iv h2 a b := by
  obtain ⟨s, l, x, z, st, C, J, V⟩ := hV
  obtain ⟨h1, e1, I1, f1⟩ := tx8_place V.1 V.2.2.2.1 c1 c2 c3
  obtain ⟨h2, C2, e2, V2, f2⟩ := tx9_place (V.V (V.E1 f1 hd)) c1 c2 c3
  exact ⟨_, h1, h2, e1, e2, V.look hd I1 V2.G f2⟩
theorem tz_why (hd : a + 441 ≤ b) (hV : tn_Iv h a b) (c1 c2 c3 : Int) : ∃ v h1 h2, fX8_why a c1 c2 c3 h = some (v, h1) ∧ fX9_why b c1 c2 c3 h1 = some (v, h2) ∧ tn_Iv h2 a b := by
  obtain ⟨s, l, x, z, st, C, J, V⟩ := hV
  obtain ⟨h1, e1, I1, f1⟩ := tx8_why V.1 V.2.2.2.1 c1 c2 c3
  obtain ⟨h2, C2, e2, V2, f2⟩ := tx9_why (V.V (V.E1 f1 hd)) c1 c2 c3
  exact ⟨_, h1, h2, e1, e2, V.look hd I1 V2.G f2⟩
theorem tz_term (hd : a + 441 ≤ b) (hV : tn_Iv h a b) (c1 c2 : Int) : ∃ v h1 h2, fX8_term a c1 c2 h = some (v, h1) ∧ fX9_term b c1 c2 h1 = some (v, h2) ∧ tn_Iv h2 a b := by
  obtain ⟨s, l, x, z, st, C, J, V⟩ := hV
  obtain ⟨h1, e1, I1, f1⟩ := tx8_term V.1 V.2.2.2.1 c1 c2
  obtain ⟨h2, C2, e2, V2, f2⟩ := tx9_term (V.V (V.E1 f1 hd)) c1 c2
  exact ⟨_, h1, h2, e1, e2, V.look hd I1 V2.G f2⟩
theorem tz_count (hd : a + 441 ≤ b) (hV : tn_Iv h a b) (c1 : Int) : ∃ v h1 h2, fX8_count a c1 h = some (v, h1) ∧ fX9_count b c1 h1 = some (v, h2) ∧ tn_Iv h2 a b := by
  obtain ⟨s, l, x, z, st, C, J, V⟩ := hV
  obtain ⟨h1, e1, I1, f1⟩ := tx8_count V.1 V.2.2.2.1 c1
  obtain ⟨h2, C2, e2, V2, f2⟩ := tx9_count (V.V (V.E1 f1 hd)) c1
  rw [V.2.2.2.2.2.2.1, V.2.2.2.2.2.2.2.1] at e2
  exact ⟨_, h1, h2, e1, e2, V.look hd I1 V2.G f2⟩
theorem tz_firstUse (hd : a + 441 ≤ b) (hV : tn_Iv h a b) (c1 c2 : Int) : ∃ v h1 h2, fX8_firstUse a c1 c2 h = some (v, h1) ∧ fX9_firstUse b c1 c2 h1 = some (v, h2) ∧ tn_Iv h2 a b := by
  obtain ⟨s, l, x, z, st, C, J, V⟩ := hV
  obtain ⟨r, h1, e1, q1, q2, I1, f1⟩ := tx8_firstUse V.1 V.2.2.2.1 c1 c2
  obtain ⟨r', h2, C2, e2, q3, q4, V2, f2⟩ := tx9_firstUse (V.V (V.E1 f1 hd)) c1 c2
  have e : r = r' := by
    by_cases c : 0 ≤ c1 ∧ c1 < tn_nT s ∧ 0 ≤ c2 ∧ c2 < 6
    · exact (q1 c).uq (q3 c) (fun _ _ _ => Iff.rfl)
    · rw [q2 c, q4 c]
  rw [← e] at e2
  exact ⟨_, h1, h2, e1, e2, V.look hd I1 V2.G f2⟩
theorem tz_mark (hd : a + 441 ≤ b) (hV : tn_Iv h a b) (c1 c2 : Int) (hc : tm_rg c1) : ∃ v h1 h2, fX8_mark a c1 c2 h = some (v, h1) ∧ fX9_mark b c1 c2 h1 = some (v, h2) ∧ tn_Iv h2 a b := by
  obtain ⟨s, l, x, z, st, C, J, V⟩ := hV
  obtain ⟨r, h1, e1, q1, q2, I1, f1⟩ := tx8_mark V.1 V.2.2.2.1 c1 c2
  obtain ⟨r', h2, C2, e2, q3, q4, V2, f2⟩ := tx9_mark (V.V (V.E1 f1 hd)) c1 c2 hc.2
  have e : r = r' := by
    by_cases c : 0 ≤ c1 ∧ 0 ≤ c2 ∧ c2 ≤ 2
    · exact (q1 c).uq (q3 c)
    · rw [q2 c, q4 c]
  rw [← e] at e2
  exact ⟨_, h1, h2, e1, e2, V.look hd I1 V2.G f2⟩
theorem tz_letter (hV : tn_Iv h a b) (c1 c2 : Int) : ∃ v, fX8_letter a c1 c2 h = some v ∧ fX9_letter b c1 c2 h = some v := by
  obtain ⟨s, l, x, z, st, C, J, V⟩ := hV
  have e2 := tx9_letter V.2.1 V.okC V.2.2.2.2.2.1 c1 c2
  rw [V.2.2.1] at e2
  exact ⟨_, tx8_letter V.1 c1 c2, e2⟩
theorem tz_base (hV : tn_Iv h a b) (c1 : Int) : ∃ v, fX8_base a c1 h = some v ∧ fX9_base b c1 h = some v := by
  obtain ⟨s, l, x, z, st, C, J, V⟩ := hV
  have e2 := tx9_base V.2.1 V.okC c1
  rw [V.2.2.1] at e2
  exact ⟨_, tx8_base V.1 c1, e2⟩
theorem tz_nested (hV : tn_Iv h a b) (c1 c2 : Int) : ∃ v, fX8_nested a c1 c2 h = some v ∧ fX9_nested b c1 c2 h = some v := by
  obtain ⟨s, l, x, z, st, C, J, V⟩ := hV
  have e2 := tx9_nested V.2.1 V.okC V.hnC c1 c2
  rw [V.2.2.1] at e2
  exact ⟨_, tx8_nested V.1 V.2.2.2.1 c1 c2, e2⟩
theorem tz_gain (hd : a + 441 ≤ b) (hV : tn_Iv h a b) (c1 c2 c3 c4 : Int) : ∃ v h1 h2, fX8_gain a c1 c2 c3 c4 h = some (v, h1) ∧ fX9_gain b c1 c2 c3 c4 h1 = some (v, h2) ∧ tn_Iv h2 a b := by
  obtain ⟨s, l, x, z, st, C, J, V⟩ := hV
  obtain ⟨h1, e1, I1, f1⟩ := tx8_gain V.1 V.2.2.2.1 V.2.2.2.2.1 c1 c2 c3 c4
  obtain ⟨h2, e2, G2, f2⟩ := tx9_gain (V.E1 f1 hd) V.okC V.hnC c1 c2 c3 c4
  rw [V.2.2.1] at e2
  exact ⟨_, h1, h2, e1, e2, V.look hd I1 G2 f2⟩
theorem tz_greediest (hd : a + 441 ≤ b) (hV : tn_Iv h a b) : ∃ v h1 h2, fX8_greediest a h = some (v, h1) ∧ fX9_greediest b h1 = some (v, h2) ∧ tn_Iv h2 a b := by
  obtain ⟨s, l, x, z, st, C, J, V⟩ := hV
  obtain ⟨h1, e1, I1, f1⟩ := tx8_greediest V.1 V.2.2.2.1
  obtain ⟨h2, e2, G2, f2⟩ := tx9_greediest (V.E1 f1 hd) V.okC V.hnC
  rw [V.2.2.1] at e2
  exact ⟨_, h1, h2, e1, e2, V.look hd I1 G2 f2⟩
theorem tz_undo (hd : a + 441 ≤ b) (hV : tn_Iv h a b) : ∃ v h1 h2, fX8_undo a h = some (v, h1) ∧ fX9_undo b h1 = some (v, h2) ∧ tn_Iv h2 a b := by
  obtain ⟨s, l, x, z, st, C, J, V⟩ := hV
  obtain ⟨q1, q2⟩ := tx8_undo V.1
  by_cases c : z = 0
  · obtain ⟨q3, q4⟩ := tx9_undo V.2.1 V.j0
    rw [V.2.2.2.2.2.2.2.1] at q3
    exact ⟨-2, h, h, q1 c, q3 c, ⟨s, l, x, z, st, C, J, V⟩⟩
  · obtain ⟨h1, e1, I1, f1⟩ := q2 c
    obtain ⟨q3, q4⟩ := tx9_undo (V.E1 f1 hd) V.j0
    have j3 := V.2.2.2.2.2.2.2.1
    obtain ⟨h2, N', e2, E2, n2, f2⟩ := q4 (by rw [j3]; exact c)
    rw [j3] at e2 n2
    obtain ⟨_, _, v1, v2, v3, v4, v5, v6, v7, ⟨z0, z5⟩, v8, v9⟩ := V
    obtain ⟨w1, w2, w3, w4⟩ := v8 (z - 1) (by omega) (by omega)
    refine ⟨z - 1, h1, h2, e1, e2, tn_iv_mk (I1.cg (f2.off (by omega))) E2 (s' := st (z - 1)) ?_ w2 w3 v4 v5 (by rw [j3]; exact tm_up_self _ _ _) v7 ⟨⟨by omega, by omega⟩, fun i i0 i1 => ?_, fun i j i0 ij j1 => v9 i j i0 ij (by omega)⟩⟩
    · exact tn_sim_pt w1 w2 (fun k k0 k1 => by rw [tn_pw_at k0]; exact n2 k k0 k1) (fun _ _ _ => rfl)
    · obtain ⟨y1, y2, y3, y4⟩ := v8 i i0 (by omega)
      exact ⟨y1, y2, y3, v9 i (z - 1) i0 (by omega) (by omega)⟩
theorem tz_append (hd : a + 441 ≤ b) (hV : tn_Iv h a b) (c1 : Int) : ∃ v h1 h2, fX8_append a c1 h = some (v, h1) ∧ fX9_append b c1 h1 = some (v, h2) ∧ tn_Iv h2 a b := by
  obtain ⟨s, l, x, z, st, C, J, V⟩ := hV
  obtain ⟨q1, q2, q3⟩ := tx8_append V.1 c1
  have j5 := V.2.2.2.2.2.2.1
  have xx := V.2.2.2.2.2.2.2.2.1
  have r5 : 0 ≤ J 5 ∧ J 5 ≤ 140 := by rw [j5]; exact ⟨xx.1, xx.2.1⟩
  by_cases c : 1 ≤ c1 ∧ c1 ≤ 255
  · by_cases d : l = 140
    · obtain ⟨p1, p2, p3⟩ := tx9_append V.2.1 r5 c1
      exact ⟨-3, h, h, q2 c d, p2 c (by rw [j5]; exact d), ⟨s, l, x, z, st, C, J, V⟩⟩
    · obtain ⟨h1, e1, I1, f1⟩ := q3 c d
      obtain ⟨p1, p2, p3⟩ := tx9_append (V.E1 f1 hd) r5 c1
      obtain ⟨h2, e2, E2, f2⟩ := p3 c (by rw [j5]; exact d)
      rw [j5] at e2
      obtain ⟨_, _, v1, v2, v3, v4, v5, v6, v7, v8⟩ := V
      refine ⟨l + 1, h1, h2, e1, e2, tn_iv_mk (I1.cg (f2.off (by omega))) E2 (s' := s) (by rw [← v1]; exact tn_sim.rf _) v2 v3 v4 (by rw [j5]; exact tm_up_self _ _ _) v6 ⟨by omega, by omega, fun i i0 i1 => ?_⟩ v8⟩
      show tm_up (C 3) (J 5).toNat c1 i.toNat = (if i = l then c1 else x i) ∧ 1 ≤ (if i = l then c1 else x i) ∧ (if i = l then c1 else x i) ≤ 255
      rw [j5, tn_upr (by omega) i0]
      by_cases y : i = l
      · rw [if_pos y, if_pos y]
        exact ⟨rfl, c.1, c.2⟩
      · rw [if_neg y, if_neg y]
        exact v7.2.2 i i0 (by omega)
  · obtain ⟨p1, p2, p3⟩ := tx9_append V.2.1 r5 c1
    exact ⟨-1, h, h, q1 c, p1 c, ⟨s, l, x, z, st, C, J, V⟩⟩
theorem tz_clearText (hd : a + 441 ≤ b) (hV : tn_Iv h a b) : ∃ v h1 h2, fX8_clearText a h = some (v, h1) ∧ fX9_clearText b h1 = some (v, h2) ∧ tn_Iv h2 a b := by
  obtain ⟨s, l, x, z, st, C, J, V⟩ := hV
  obtain ⟨h1, e1, I1, f1⟩ := tx8_clear V.1
  obtain ⟨h2, e2, E2, f2⟩ := tx9_clear (V.E1 f1 hd)
  obtain ⟨_, _, v1, v2, v3, v4, v5, v6, v7, v8⟩ := V
  rw [v5] at e2
  exact ⟨l, h1, h2, e1, e2, tn_iv_mk (I1.cg (f2.off (by omega))) E2 (s' := s) (by rw [← v1]; exact tn_sim.rf _) v2 v3 v4 (tm_up_self _ _ _) v6 ⟨by omega, by omega, fun i i0 i1 => by omega⟩ v8⟩
theorem tz_load (hd : a + 441 ≤ b) (hV : tn_Iv h a b) : ∃ v h1 h2, fX8_load a h = some (v, h1) ∧ fX9_load b h1 = some (v, h2) ∧ tn_Iv h2 a b := by
  obtain ⟨s, l, x, z, st, C, J, V⟩ := hV
  have q := tx8_load V.1 V.2.2.2.1 V.2.2.2.2.1
  have p : ∀ h1 : tm_H, tn_fr a (a + 441) h h1 → ∃ v h' A', fX9_load b h1 = some (v, h') ∧ (∀ i : Int, 0 ≤ i → i < 874 → A' i.toNat = C 0 i.toNat) ∧ tn_pr h' b (C 1) A' (C 3) (C 4) (tn_n s) z l v (tn_lo s l x) ∧ tn_fr b (b + 11) h1 h' := fun h1 f1 => by
    obtain ⟨v, h2, A', e2, qA, P2, f2⟩ := tx9_load (V.E1 f1 hd) V.okC V.hnC V.2.2.2.2.2.1 V.2.2.2.2.2.2.2.2.1 V.2.2.2.2.2.2.1 V.j0
    rw [V.2.2.1, V.n, V.2.2.2.2.2.2.2.1] at P2
    exact ⟨v, h2, A', e2, qA, P2, f2⟩
  obtain ⟨I0, _, v1, v2, v3, v4, v5, v6, v7, v8⟩ := V
  revert q p
  generalize tn_lo s l x = r
  cases r with
  | inl f =>
    rintro ⟨h1, e1, I1, f1⟩ p
    obtain ⟨v, h2, A', e2, qA, ⟨vv, C', J', E', k1, k3, j3, j5, kL, kt, k0⟩, f2⟩ := p h1 f1
    refine ⟨-1000 - f, h1, h2, e1, by rw [← vv]; exact e2, tn_iv_mk (I1.cg (f2.off (by omega))) E' (s' := s) ?_ v2 v3 kt j5 j3 (by rw [k3]; exact v7) ⟨v8.1, fun i i0 i1 => ?_, v8.2.2⟩⟩
    · exact tn_sim_pt (N := C 0) (Lt := C 4) (by rw [v1]; exact tn_sim.rf _) v2 (fun k k0' k1' => (k0 k k0' k1').trans (qA k k0' k1')) kL
    · obtain ⟨y1, y2, y3, y4⟩ := v8.2.1 i i0 i1
      rw [k1]
      exact ⟨tn_sim_pt y1 y2 (fun _ _ _ => rfl) (fun u u0 u1 => kL u u0 (by omega)), y2, y3, y4⟩
  | inr y =>
    obtain ⟨i', s'⟩ := y
    rintro ⟨h1, e1, I1, f1⟩ p
    obtain ⟨v, h2, A', e2, qA, ⟨vv, C', J', E', k3, j3, j5, kL, kt, kP, sm, ok', n', nT'⟩, f2⟩ := p h1 f1
    refine ⟨i', h1, h2, e1, by rw [← vv]; exact e2, tn_iv_mk (I1.cg (f2.off (by omega))) E' sm ok' nT' kt j5 j3 ⟨by omega, by omega, fun i i0 i1 => by omega⟩ ?_⟩
    refine v8.put v1 v2 v3 kL n' (fun i k i0 i1 k0 k1 => ?_)
    rw [kP i k i0 i1 k0 k1, qA k k0 k1]
end STP
