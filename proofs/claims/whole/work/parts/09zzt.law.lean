/-! the law -/
theorem tm_sx_at {xs : Nat → Int} {L : Nat} {i : Int} (h : 0 ≤ i ∧ i < L) : tm_sx xs L i = some (xs i.toNat) := by
  unfold tm_sx
  rw [if_pos h]
theorem tm_law_l {xs : Nat → Int} {L : Nat} (hx : ∀ j, tm_rg (xs j)) (hL : L ≤ 2560) {a b : Nat} (hd : a + 441 ≤ b) : ∀ (m : Nat) (k : Int) (h : tm_H), tn_Iv h a b → 0 ≤ k → k ≤ 3000 → (3000 - k).toNat = m → fL_law_L18 xs L a b k h = some 1 := by
  intro m
  induction m using Nat.strongRecOn with
  | _ m ih =>
    intro k h V k0 k1 hm
    rw [fL_law_L18_eq, tm_wr_id (z := (L : Int) - 5) (by omega) (by omega)]
    by_cases c : (L : Int) - 5 < k
    · rw [if_pos c]
    · have nx : ∀ h' : tm_H, tn_Iv h' a b → fL_law_L18 xs L a b (k + 5) h' = some 1 := fun h' V' => ih (3000 - (k + 5)).toNat (by omega) (k + 5) h' V' (by omega) (by omega) rfl
      rw [if_neg c, tm_sx_at ⟨k0, by omega⟩, Option.bind_some, tm_wr_id (z := k + 1) (by omega) (by omega), tm_wr_id (z := k + 2) (by omega) (by omega), tm_wr_id (z := k + 3) (by omega) (by omega), tm_wr_id (z := k + 4) (by omega) (by omega), tm_wr_id (z := k + 5) (by omega) (by omega)]
      have r1 : tm_sx xs L (k + 1) = some (xs (k + 1).toNat) := tm_sx_at ⟨by omega, by omega⟩
      have r2 : tm_sx xs L (k + 2) = some (xs (k + 2).toNat) := tm_sx_at ⟨by omega, by omega⟩
      have r3 : tm_sx xs L (k + 3) = some (xs (k + 3).toNat) := tm_sx_at ⟨by omega, by omega⟩
      have r4 : tm_sx xs L (k + 4) = some (xs (k + 4).toNat) := tm_sx_at ⟨by omega, by omega⟩
      simp only [r1, r2, r3, r4, Option.bind_some]
      generalize tm_and (xs k.toNat) 31 = w

      by_cases w0 : w = 0
      · obtain ⟨v, h1, h2, e1, e2, V2⟩ := tz_insert hd V (xs (k + 1).toNat) (xs (k + 2).toNat) (xs (k + 3).toNat)
        rw [if_pos w0]
        simp only [e1, e2, Option.bind_some, if_true]
        exact nx h2 V2
      rw [if_neg w0]
      by_cases w1 : w = 1
      · obtain ⟨v, h1, h2, e1, e2, V2⟩ := tz_delete hd V (xs (k + 1).toNat) (xs (k + 2).toNat) (xs (k + 3).toNat)
        rw [if_pos w1]
        simp only [e1, e2, Option.bind_some, if_true]
        exact nx h2 V2
      rw [if_neg w1]
      by_cases w2 : w = 2
      · obtain ⟨v, h1, h2, e1, e2, V2⟩ := tz_replace hd V (xs (k + 1).toNat) (xs (k + 2).toNat)
        rw [if_pos w2]
        simp only [e1, e2, Option.bind_some, if_true]
        exact nx h2 V2
      rw [if_neg w2]
      by_cases w3 : w = 3
      · obtain ⟨v, h1, h2, e1, e2, V2⟩ := tz_swap hd V (xs (k + 1).toNat) (xs (k + 2).toNat)
        rw [if_pos w3]
        simp only [e1, e2, Option.bind_some, if_true]
        exact nx h2 V2
      rw [if_neg w3]
      by_cases w4 : w = 4
      · obtain ⟨v, h1, h2, e1, e2, V2⟩ := tz_addTerm hd V (xs (k + 1).toNat) (xs (k + 2).toNat) (xs (k + 3).toNat) (xs (k + 4).toNat)
        rw [if_pos w4]
        simp only [e1, e2, Option.bind_some, if_true]
        exact nx h2 V2
      rw [if_neg w4]
      by_cases w5 : w = 5
      · obtain ⟨v, h1, h2, e1, e2, V2⟩ := tz_removeTerm hd V (xs (k + 1).toNat)
        rw [if_pos w5]
        simp only [e1, e2, Option.bind_some, if_true]
        exact nx h2 V2
      rw [if_neg w5]
      by_cases w6 : w = 6
      · obtain ⟨v, h1, h2, e1, e2, V2⟩ := tz_setQuiet hd V (xs (k + 1).toNat) (xs (k + 2).toNat)
        rw [if_pos w6]
        simp only [e1, e2, Option.bind_some, if_true]
        exact nx h2 V2
      rw [if_neg w6]
      by_cases w7 : w = 7
      · obtain ⟨v, h1, h2, e1, e2, V2⟩ := tz_setBase hd V (xs (k + 1).toNat) (xs (k + 2).toNat)
        rw [if_pos w7]
        simp only [e1, e2, Option.bind_some, if_true]
        exact nx h2 V2
      rw [if_neg w7]
      by_cases w8 : w = 8
      · obtain ⟨v, h1, h2, e1, e2, V2⟩ := tz_take hd V (xs (k + 1).toNat)
        rw [if_pos w8]
        simp only [e1, e2, Option.bind_some, if_true]
        exact nx h2 V2
      rw [if_neg w8]
      by_cases w9 : w = 9
      · obtain ⟨v, h1, h2, e1, e2, V2⟩ := tz_restore hd V (xs (k + 1).toNat)
        rw [if_pos w9]
        simp only [e1, e2, Option.bind_some, if_true]
        exact nx h2 V2
      rw [if_neg w9]
      by_cases w10 : w = 10
      · obtain ⟨v, h1, h2, e1, e2, V2⟩ := tz_undo hd V 
        rw [if_pos w10]
        simp only [e1, e2, Option.bind_some, if_true]
        exact nx h2 V2
      rw [if_neg w10]
      by_cases w11 : w = 11
      · obtain ⟨v, h1, h2, e1, e2, V2⟩ := tz_append hd V (xs (k + 1).toNat)
        rw [if_pos w11]
        simp only [e1, e2, Option.bind_some, if_true]
        exact nx h2 V2
      rw [if_neg w11]
      by_cases w12 : w = 12
      · obtain ⟨v, h1, h2, e1, e2, V2⟩ := tz_clearText hd V 
        rw [if_pos w12]
        simp only [e1, e2, Option.bind_some, if_true]
        exact nx h2 V2
      rw [if_neg w12]
      by_cases w13 : w = 13
      · obtain ⟨v, h1, h2, e1, e2, V2⟩ := tz_load hd V 
        rw [if_pos w13]
        simp only [e1, e2, Option.bind_some, if_true]
        exact nx h2 V2
      rw [if_neg w13]
      by_cases w14 : w = 14
      · obtain ⟨v, h1, h2, e1, e2, V2⟩ := tz_count hd V (xs (k + 1).toNat)
        rw [if_pos w14]
        simp only [e1, e2, Option.bind_some, if_true]
        exact nx h2 V2
      rw [if_neg w14]
      by_cases w15 : w = 15
      · obtain ⟨v, e1, e2⟩ := tz_letter V (xs (k + 1).toNat) (xs (k + 2).toNat)
        rw [if_pos w15]
        simp only [e1, e2, Option.bind_some, if_true]
        exact nx h V
      rw [if_neg w15]
      by_cases w16 : w = 16
      · obtain ⟨v, e1, e2⟩ := tz_base V (xs (k + 1).toNat)
        rw [if_pos w16]
        simp only [e1, e2, Option.bind_some, if_true]
        exact nx h V
      rw [if_neg w16]
      by_cases w17 : w = 17
      · obtain ⟨v, h1, h2, e1, e2, V2⟩ := tz_place hd V (xs (k + 1).toNat) (xs (k + 2).toNat) (xs (k + 3).toNat)
        rw [if_pos w17]
        simp only [e1, e2, Option.bind_some, if_true]
        exact nx h2 V2
      rw [if_neg w17]
      by_cases w18 : w = 18
      · obtain ⟨v, h1, h2, e1, e2, V2⟩ := tz_term hd V (xs (k + 1).toNat) (xs (k + 2).toNat)
        rw [if_pos w18]
        simp only [e1, e2, Option.bind_some, if_true]
        exact nx h2 V2
      rw [if_neg w18]
      by_cases w19 : w = 19
      · obtain ⟨v, h1, h2, e1, e2, V2⟩ := tz_firstUse hd V (xs (k + 1).toNat) (xs (k + 2).toNat)
        rw [if_pos w19]
        simp only [e1, e2, Option.bind_some, if_true]
        exact nx h2 V2
      rw [if_neg w19]
      by_cases w20 : w = 20
      · obtain ⟨v, h1, h2, e1, e2, V2⟩ := tz_mark hd V (xs (k + 1).toNat) (xs (k + 2).toNat) (hx _)
        rw [if_pos w20]
        simp only [e1, e2, Option.bind_some, if_true]
        exact nx h2 V2
      rw [if_neg w20]
      by_cases w21 : w = 21
      · obtain ⟨v, h1, h2, e1, e2, V2⟩ := tz_why hd V (xs (k + 1).toNat) (xs (k + 2).toNat) (xs (k + 3).toNat)
        rw [if_pos w21]
        simp only [e1, e2, Option.bind_some, if_true]
        exact nx h2 V2
      rw [if_neg w21]
      by_cases w22 : w = 22
      · obtain ⟨v, e1, e2⟩ := tz_nested V (xs (k + 1).toNat) (xs (k + 2).toNat)
        rw [if_pos w22]
        simp only [e1, e2, Option.bind_some, if_true]
        exact nx h V
      rw [if_neg w22]
      by_cases w23 : w = 23
      · obtain ⟨v, h1, h2, e1, e2, V2⟩ := tz_gain hd V (xs (k + 1).toNat) (xs (k + 2).toNat) (xs (k + 3).toNat) (xs (k + 4).toNat)
        rw [if_pos w23]
        simp only [e1, e2, Option.bind_some, if_true]
        exact nx h2 V2
      rw [if_neg w23]
      by_cases w24 : w = 24
      · obtain ⟨v, h1, h2, e1, e2, V2⟩ := tz_greediest hd V 
        rw [if_pos w24]
        simp only [e1, e2, Option.bind_some, if_true]
        exact nx h2 V2
      rw [if_neg w24]
      exact nx h V
theorem tn_ok_s0 : tn_ok tn_s0 := ⟨show (26 : Int) ≤ 26 by omega, show (26 : Int) ≤ 60 by omega, fun w w0 w1 => ⟨w0, w1⟩, fun c c0 c1 => ⟨Int.le_refl 0, show (0 : Int) ≤ 40 by omega, fun p p0 p1 => absurd p1 (show ¬ p < 0 by omega)⟩, Int.le_refl 0, show (0 : Int) ≤ 13 by omega, fun t t0 t1 => absurd t1 (show ¬ t < 0 by omega), fun z z0 z1 => ⟨Or.inl rfl, fun tk => absurd tk (show ¬ (0 : Int) = 1 by omega)⟩⟩
theorem tm_law_ok (xs : Nat → Int) (L n : Nat) (hx : ∀ j, tm_rg (xs j)) (hL : L ≤ 2560) : fL_law xs L (fun _ => none) n = some 1 := by
  obtain ⟨h1, e1, p1, o1⟩ := tn_NW (fun _ => none) n (.inl (8, [.inr none, .inr none, .inr none, .inr none, .inr none, .inr none]))
  obtain ⟨h2, e2, I2, f2⟩ := tx8_init p1
  obtain ⟨h3, e3, p3, o3⟩ := tn_NW h2 (n + 441) (.inl (9, [.inr none, .inr none, .inr none, .inl 0, .inr none, .inl 0, .inr none, .inr none, .inr none, .inr none, .inr none, .inl 0, .inl 0, .inr none, .inl 0]))
  obtain ⟨h4, C, J, e4, E4, j3, j5, sm, lt, f4⟩ := tx9_init p3
  have ok0 : tn_ok tn_s0 := tn_ok_s0
  have I4 : tn_I h4 n tn_s0 0 (fun _ => 0) 0 (fun _ => tn_s0) := (I2.cg (fun q q0 q1 => o3 q (by omega))).cg (f4.off (by omega))
  have V : tn_Iv h4 n (n + 441) := tn_iv_mk I4 E4 sm ok0 (show (0 : Int) ≤ 12 by omega) lt j5 j3 ⟨by omega, by omega, fun i i0 i1 => by omega⟩ ⟨⟨by omega, by omega⟩, fun i i0 i1 => by omega, fun i j i0 ij j1 => by omega⟩
  unfold fL_law
  rw [e1, Option.bind_some, e2, Option.bind_some]
  dsimp only
  rw [e3, Option.bind_some, e4, Option.bind_some]
  exact tm_law_l hx hL (by omega) _ 0 h4 V (by omega) (by omega) rfl
