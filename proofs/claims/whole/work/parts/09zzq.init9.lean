/-! the reference begins; both together -/
section RHF
variable {h : tm_H} {b : Nat}
theorem tx9_init (e : h b = some (.inl (9, [.inr none, .inr none, .inr none, .inl 0, .inr none, .inl 0, .inr none, .inr none, .inr none, .inr none, .inr none, .inl 0, .inl 0, .inr none, .inl 0]))) : ∃ h' C J, fX9_init b h (b + 1) = some (h', b + 11) ∧ tn_E h' b C J ∧ J 3 = 0 ∧ J 5 = 0 ∧ tn_sim (tn_row (C 0) (C 4)) tn_s0 ∧ tn_lt C ∧ tn_fr b (b + 11) h h' := by
  obtain ⟨h1, e1, p1, o1⟩ := tn_NW h (b + 1) (.inr (0, 874, .inl (fun _ => 0)))
  obtain ⟨h2, e2, p2, o2⟩ := tn_SF (k := 0) ((o1 b (by omega)).trans e) (.inr (some (b + 1))) (by simp)
  obtain ⟨h3, e3, p3, o3⟩ := tn_NW h2 (b + 1 + 1) (.inr (0, 4370, .inl (fun _ => 0)))
  obtain ⟨h4, e4, p4, o4⟩ := tn_SF (k := 1) ((o3 b (by omega)).trans p2) (.inr (some (b + 1 + 1))) (by simp)
  obtain ⟨h5, e5, p5, o5⟩ := tn_NW h4 (b + 1 + 2) (.inr (0, 874, .inl (fun _ => 0)))
  obtain ⟨h6, e6, p6, o6⟩ := tn_SF (k := 2) ((o5 b (by omega)).trans p4) (.inr (some (b + 1 + 2))) (by simp)
  obtain ⟨h7, e7, p7, o7⟩ := tn_NW h6 (b + 1 + 3) (.inr (0, 140, .inl (fun _ => 0)))
  obtain ⟨h8, e8, p8, o8⟩ := tn_SF (k := 4) ((o7 b (by omega)).trans p6) (.inr (some (b + 1 + 3))) (by simp)
  obtain ⟨h9, e9, p9, o9⟩ := tn_NW h8 (b + 1 + 4) (.inr (0, 480, .inl (fun _ => 0)))
  obtain ⟨h10, e10, p10, o10⟩ := tn_SF (k := 6) ((o9 b (by omega)).trans p8) (.inr (some (b + 1 + 4))) (by simp)
  obtain ⟨h11, e11, p11, o11⟩ := tn_NW h10 (b + 1 + 5) (.inr (0, 5, .inl (fun _ => 0)))
  obtain ⟨h12, e12, p12, o12⟩ := tn_SF (k := 7) ((o11 b (by omega)).trans p10) (.inr (some (b + 1 + 5))) (by simp)
  obtain ⟨h13, e13, p13, o13⟩ := tn_NW h12 (b + 1 + 6) (.inr (0, 40, .inl (fun _ => 0)))
  obtain ⟨h14, e14, p14, o14⟩ := tn_SF (k := 8) ((o13 b (by omega)).trans p12) (.inr (some (b + 1 + 6))) (by simp)
  obtain ⟨h15, e15, p15, o15⟩ := tn_NW h14 (b + 1 + 7) (.inr (0, 40, .inl (fun _ => 0)))
  obtain ⟨h16, e16, p16, o16⟩ := tn_SF (k := 9) ((o15 b (by omega)).trans p14) (.inr (some (b + 1 + 7))) (by simp)
  obtain ⟨h17, e17, p17, o17⟩ := tn_NW h16 (b + 1 + 8) (.inr (2, 40, .inl (fun _ => 0)))
  obtain ⟨h18, e18, p18, o18⟩ := tn_SF (k := 10) ((o17 b (by omega)).trans p16) (.inr (some (b + 1 + 8))) (by simp)
  obtain ⟨h19, e19, p19, o19⟩ := tn_NW h18 (b + 1 + 9) (.inr (0, 40, .inl (fun _ => 0)))
  obtain ⟨h20, e20, p20, o20⟩ := tn_SF (k := 13) ((o19 b (by omega)).trans p18) (.inr (some (b + 1 + 9))) (by simp)
  have E20 : tn_E h20 b (fun _ _ => 0) (fun _ => 0) := by
    refine ⟨p20, fun k hk => ?_⟩
    have kk : k = 0 ∨ k = 1 ∨ k = 2 ∨ k = 3 ∨ k = 4 ∨ k = 5 ∨ k = 6 ∨ k = 7 ∨ k = 8 ∨ k = 9 := by omega
    rcases kk with q | q | q | q | q | q | q | q | q | q <;> subst q
    · exact (o20 _ (by omega)).trans ((o19 _ (by omega)).trans ((o18 _ (by omega)).trans ((o17 _ (by omega)).trans ((o16 _ (by omega)).trans ((o15 _ (by omega)).trans ((o14 _ (by omega)).trans ((o13 _ (by omega)).trans ((o12 _ (by omega)).trans ((o11 _ (by omega)).trans ((o10 _ (by omega)).trans ((o9 _ (by omega)).trans ((o8 _ (by omega)).trans ((o7 _ (by omega)).trans ((o6 _ (by omega)).trans ((o5 _ (by omega)).trans ((o4 _ (by omega)).trans ((o3 _ (by omega)).trans ((o2 _ (by omega)).trans (p1)))))))))))))))))))
    · exact (o20 _ (by omega)).trans ((o19 _ (by omega)).trans ((o18 _ (by omega)).trans ((o17 _ (by omega)).trans ((o16 _ (by omega)).trans ((o15 _ (by omega)).trans ((o14 _ (by omega)).trans ((o13 _ (by omega)).trans ((o12 _ (by omega)).trans ((o11 _ (by omega)).trans ((o10 _ (by omega)).trans ((o9 _ (by omega)).trans ((o8 _ (by omega)).trans ((o7 _ (by omega)).trans ((o6 _ (by omega)).trans ((o5 _ (by omega)).trans ((o4 _ (by omega)).trans (p3)))))))))))))))))
    · exact (o20 _ (by omega)).trans ((o19 _ (by omega)).trans ((o18 _ (by omega)).trans ((o17 _ (by omega)).trans ((o16 _ (by omega)).trans ((o15 _ (by omega)).trans ((o14 _ (by omega)).trans ((o13 _ (by omega)).trans ((o12 _ (by omega)).trans ((o11 _ (by omega)).trans ((o10 _ (by omega)).trans ((o9 _ (by omega)).trans ((o8 _ (by omega)).trans ((o7 _ (by omega)).trans ((o6 _ (by omega)).trans (p5)))))))))))))))
    · exact (o20 _ (by omega)).trans ((o19 _ (by omega)).trans ((o18 _ (by omega)).trans ((o17 _ (by omega)).trans ((o16 _ (by omega)).trans ((o15 _ (by omega)).trans ((o14 _ (by omega)).trans ((o13 _ (by omega)).trans ((o12 _ (by omega)).trans ((o11 _ (by omega)).trans ((o10 _ (by omega)).trans ((o9 _ (by omega)).trans ((o8 _ (by omega)).trans (p7)))))))))))))
    · exact (o20 _ (by omega)).trans ((o19 _ (by omega)).trans ((o18 _ (by omega)).trans ((o17 _ (by omega)).trans ((o16 _ (by omega)).trans ((o15 _ (by omega)).trans ((o14 _ (by omega)).trans ((o13 _ (by omega)).trans ((o12 _ (by omega)).trans ((o11 _ (by omega)).trans ((o10 _ (by omega)).trans (p9)))))))))))
    · exact (o20 _ (by omega)).trans ((o19 _ (by omega)).trans ((o18 _ (by omega)).trans ((o17 _ (by omega)).trans ((o16 _ (by omega)).trans ((o15 _ (by omega)).trans ((o14 _ (by omega)).trans ((o13 _ (by omega)).trans ((o12 _ (by omega)).trans (p11)))))))))
    · exact (o20 _ (by omega)).trans ((o19 _ (by omega)).trans ((o18 _ (by omega)).trans ((o17 _ (by omega)).trans ((o16 _ (by omega)).trans ((o15 _ (by omega)).trans ((o14 _ (by omega)).trans (p13)))))))
    · exact (o20 _ (by omega)).trans ((o19 _ (by omega)).trans ((o18 _ (by omega)).trans ((o17 _ (by omega)).trans ((o16 _ (by omega)).trans (p15)))))
    · exact (o20 _ (by omega)).trans ((o19 _ (by omega)).trans ((o18 _ (by omega)).trans (p17)))
    · exact (o20 _ (by omega)).trans (p19)
  have F20 : tn_fr b (b + 11) h h20 := fun q hq => by
    rw [o20 q (by omega), o19 q (by omega), o18 q (by omega), o17 q (by omega), o16 q (by omega), o15 q (by omega), o14 q (by omega), o13 q (by omega), o12 q (by omega), o11 q (by omega), o10 q (by omega), o9 q (by omega), o8 q (by omega), o7 q (by omega), o6 q (by omega), o5 q (by omega), o4 q (by omega), o3 q (by omega), o2 q (by omega), o1 q (by omega)]
  obtain ⟨h21, e21, E21, f21⟩ := E20.w0 (i := 0) 26 (by omega) (by omega)
  obtain ⟨h22, N', e22, E22, q22, f22⟩ := tx9_in_2 (b := b) (n := b + 1) _ 0 h21 _ E21 (by omega) (by omega) rfl
  obtain ⟨h23, L', e23, E23, q23, f23⟩ := tx9_in_1 (b := b) (n := b + 1) _ 0 h22 _ E22 (by omega) (by omega) rfl
  have qN : ∀ i : Int, 0 ≤ i → N' i.toNat = if 1 ≤ i ∧ i < 61 then i - 1 else if i = 0 then 26 else 0 := fun i i0 => by
    have := q22 i i0
    rw [tn_up2_eq, tn_upr (by omega) i0, Int.add_zero] at this
    exact this
  have qL0 : ∀ w : Int, 0 ≤ w → w < 26 → L' (8 * w).toNat = 97 + w := fun w w0 w1 => (q23 (8 * w) (by omega)).1 w w0 w1 rfl
  have qL1 : ∀ i : Int, 0 ≤ i → (∀ w : Int, 0 ≤ w → w < 26 → i ≠ 8 * w) → L' i.toNat = 0 := fun i i0 hi => (q23 i i0).2 hi
  refine ⟨h23, _, _, ?_, E23, rfl, rfl, ?_, ?_, ((F20.tr f21).tr f22).tr f23⟩
  · simp only [fX9_init, tn_th e, e1, e2, e3, e4, e5, e6, e7, e8, e9, e10, e11, e12, e13, e14, e15, e16, e17, e18, e19, e20, Option.bind_some, E20.g.1]
    rw [e21, Option.bind_some, e22, fX9_init_L98_eq, if_neg (by omega), e23]
  · show tn_sim (tn_row N' L') tn_s0
    have z61 : ∀ i : Int, 61 ≤ i → N' i.toNat = 0 := fun i i0 => by rw [qN i (by omega), if_neg (by omega), if_neg (by omega)]
    refine ⟨?_, fun w w0 w1 => ⟨?_, ?_⟩, fun c c0 c1 => ⟨z61 _ (by omega), fun p p0 p1 => absurd p1 (by show ¬ p < 0; omega)⟩, z61 307 (by omega), fun u u0 u1 => absurd u1 (by show ¬ u < 0; omega), fun z z0 z1 => ⟨z61 _ (by omega), fun tk => absurd tk (by show ¬ (0 : Int) = 1; omega)⟩⟩
    · have := qN 0 (by omega)
      rw [if_neg (by omega), if_pos rfl] at this
      exact this
    · have w1' : w < 26 := w1
      show N' (1 + w).toNat = w
      rw [qN _ (by omega), if_pos (by omega)]
      omega
    · have w1' : w < 26 := w1
      show tn_sl L' w = tm_i2l (97 + w)
      have e8 := tn_spl_8 (x := fun _ => 97 + w) (n := 1) (by omega) 0
      have s1 : tn_spl (fun _ => 97 + w) 0 1 = tm_i2l (97 + w) := by
        simp only [tn_spl]
        refine Int64.toBitVec_inj.mp ?_
        rw [Int64.toBitVec_or, tn_lshl8 _ 0 (by omega)]
        simp
      have e8' : tn_spl (fun i => if i < 1 then 97 + w else 0) 0 8 = tn_spl (fun _ => 97 + w) 0 1 := e8
      rw [← s1, ← e8']
      unfold tn_sl
      refine tn_spl_cg (fun k hk => ?_)
      rw [Int.zero_add]
      by_cases k0 : k = 0
      · subst k0
        rw [if_pos (by omega)]
        have := qL0 w w0 w1'
        rw [show 8 * w + ((0 : Nat) : Int) = 8 * w by omega]
        exact this
      · rw [if_neg (by omega)]
        exact qL1 _ (by omega) (fun v v0 v1 => by omega)
  · intro i i0 i1
    show 0 ≤ L' i.toNat ∧ L' i.toNat < 256
    by_cases y : ∃ w : Int, 0 ≤ w ∧ w < 26 ∧ i = 8 * w
    · obtain ⟨w, w0, w1, w2⟩ := y
      rw [w2, qL0 w w0 w1]
      omega
    · rw [qL1 i i0 (fun w w0 w1 w2 => y ⟨w, w0, w1, w2⟩)]
      omega
end RHF
