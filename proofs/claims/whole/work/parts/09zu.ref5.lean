/-! the reference: terms that are alike, bases -/
section RFP
variable {h : tm_H} {b : Nat} {C : Nat → Nat → Int} {J : Nat → Int}
/-- a term's length and words, the tried one's being told by 12 -/
def tn_rl (C : Nat → Nat → Int) (t : Int) : Int := if t = 12 then C 5 0 else C 0 (308 + 6 * t).toNat
def tn_rt (C : Nat → Nat → Int) (t k : Int) : Int := if t = 12 then C 5 (1 + k).toNat else C 0 (309 + 6 * t + k).toNat
/-- the terms that may be looked at -/
def tn_tok2 (C : Nat → Nat → Int) (t : Int) : Prop := 0 ≤ t ∧ t ≤ 12 ∧ 1 ≤ tn_rl C t ∧ tn_rl C t ≤ 4 ∧ ∀ k : Int, 0 ≤ k → k < tn_rl C t → 0 ≤ tn_rt C t k ∧ tn_rt C t k < 60
theorem tn_tok2_of (ok : tn_ok (tn_row (C 0) (C 4))) (hn : C 0 307 ≤ 12) {t : Int} (ht : 0 ≤ t ∧ t < C 0 307) : tn_tok2 C t := by
  have n60 : C 0 0 ≤ 60 := ok.2.1
  have o := ok.2.2.2.2.2.2.1 t ht.1 ht.2
  obtain ⟨o1, o2, o3, o4⟩ := o
  have el : tn_rl C t = tn_tl (tn_row (C 0) (C 4)) t := if_neg (by omega)
  refine ⟨ht.1, by omega, by rw [el]; exact o1, by rw [el]; exact o2, fun k k0 k1 => ?_⟩
  rw [el] at k1
  have ew : tn_rt C t k = tn_tw (tn_row (C 0) (C 4)) t k := if_neg (by omega)
  rw [ew]
  obtain ⟨q1, q2⟩ := o4 k k0 k1
  have q2' : tn_tw (tn_row (C 0) (C 4)) t k < C 0 0 := q2
  exact ⟨q1, by omega⟩
theorem tx9_len (H : tn_E h b C J) {t : Int} (ht : 0 ≤ t ∧ t ≤ 12) : fX9_ofTerm b t 0 h = some (tn_rl C t) := by
  rw [tx9_ofTerm H ht (by omega)]
  unfold tn_rl
  by_cases c : t = 12
  · rw [if_pos c, if_pos c]; rfl
  · rw [if_neg c, if_neg c, Int.add_zero]
theorem tx9_wrd (H : tn_E h b C J) {t k : Int} (ht : 0 ≤ t ∧ t ≤ 12) (hk : 0 ≤ k ∧ k < 4) : fX9_ofTerm b t (k + 1) h = some (tn_rt C t k) := by
  rw [tx9_ofTerm H ht (by omega)]
  unfold tn_rt
  by_cases c : t = 12
  · rw [if_pos c, if_pos c, show k + 1 = 1 + k by omega]
  · rw [if_neg c, if_neg c, show 308 + 6 * t + (k + 1) = 309 + 6 * t + k by omega]
theorem tx9_bas (H : tn_E h b C J) {w : Int} (hw : 0 ≤ w ∧ w < 60) : tm_lI h 0 (b + 1) (tm_wr (1 + w)) = some (C 0 (1 + w).toNat) := by
  rw [tm_wr_id (by omega) (by omega), H.l0 (by omega) (by omega)]
theorem tx9_like_l (H : tn_E h b C J) {t u : Int} (ht : tn_tok2 C t) (hu : tn_tok2 C u) (e : tn_rl C t = tn_rl C u) : ∀ (m : Nat) (k : Int), 0 ≤ k → k ≤ tn_rl C t → (tn_rl C t - k).toNat = m → fX9_areAlike_L24 b t u h 1 (k + 1) = some (tn_b (∀ i : Int, k ≤ i → i < tn_rl C t → C 0 (1 + tn_rt C t i).toNat = C 0 (1 + tn_rt C u i).toNat)) := by
  obtain ⟨t0, t1, t2, t3, t4⟩ := ht
  obtain ⟨u0, u1, u2, u3, u4⟩ := hu
  intro m
  induction m with
  | zero =>
    intro k k0 k1 hm
    rw [fX9_areAlike_L24_eq, tx9_len H ⟨t0, t1⟩, Option.bind_some, if_pos (by omega), show tm_zr 1 = some 1 from rfl, Option.bind_some, tn_b1]
    intro i i0 i1; omega
  | succ m ih =>
    intro k k0 k1 hm
    have zer : fX9_areAlike_L24 b t u h 0 (k + 1 + 1) = some 0 := by
      rw [fX9_areAlike_L24_eq, tx9_len H ⟨t0, t1⟩, Option.bind_some]
      by_cases c : tn_rl C t < k + 1 + 1
      · rw [if_pos c]; rfl
      · rw [if_neg c, if_pos rfl]; rfl
    rw [fX9_areAlike_L24_eq, tx9_len H ⟨t0, t1⟩, Option.bind_some, if_neg (by omega), if_neg (by omega), H.g.1, Option.bind_some, tx9_wrd H ⟨t0, t1⟩ (by omega), Option.bind_some, tx9_bas H (t4 k k0 (by omega)), Option.bind_some, Option.bind_some, tx9_wrd H ⟨u0, u1⟩ (by omega), Option.bind_some, tx9_bas H (u4 k k0 (by omega)), Option.bind_some, fX9_areAlike_L75_eq, fX9_areAlike_L75_eq, tm_wr_id (by omega) (by omega)]
    by_cases c : C 0 (1 + tn_rt C t k).toNat = C 0 (1 + tn_rt C u k).toNat
    · rw [if_pos c, ih (k + 1) (by omega) (by omega) (by omega), tn_bc]
      refine ⟨fun y i i0 i1 => ?_, fun y i i0 i1 => y i (by omega) i1⟩
      by_cases z : i = k
      · rw [z]; exact c
      · exact y i (by omega) i1
    · rw [if_neg c, zer, tn_b0]
      intro y
      exact c (y k (by omega) (by omega))
/-- terms of one length and with the same bases -/
def tn_al (C : Nat → Nat → Int) (t u : Int) : Prop := tn_rl C t = tn_rl C u ∧ ∀ i : Int, 0 ≤ i → i < tn_rl C t → C 0 (1 + tn_rt C t i).toNat = C 0 (1 + tn_rt C u i).toNat
theorem tx9_areAlike (H : tn_E h b C J) {t u : Int} (ht : tn_tok2 C t) (hu : tn_tok2 C u) : fX9_areAlike b t u h = some (tn_b (tn_al C t u)) := by
  have ht0 := ht
  have hu0 := hu
  obtain ⟨t0, t1, t2, t3, t4⟩ := ht
  obtain ⟨u0, u1, u2, u3, u4⟩ := hu
  simp only [fX9_areAlike, tn_th H.1, tx9_len H ⟨t0, t1⟩, tx9_len H ⟨u0, u1⟩, Option.bind_some]
  unfold tn_al
  by_cases e : tn_rl C t = tn_rl C u
  · rw [if_pos e]
    simp only [fX9_areAlike_L20]
    have q := tx9_like_l H ht0 hu0 e _ 0 (by omega) (by omega) rfl
    rw [show (0 : Int) + 1 = 1 by omega] at q
    rw [q, tn_bc]
    exact ⟨fun y => ⟨e, y⟩, fun y => y.2⟩
  · rw [if_neg e]
    simp only [fX9_areAlike_L20]
    rw [fX9_areAlike_L24_eq, tx9_len H ⟨t0, t1⟩, Option.bind_some, if_neg (by omega), if_pos rfl, tn_b0 (fun y => e y.1)]
    rfl
theorem tx9_there_l (H : tn_E h b C J) (ok : tn_ok (tn_row (C 0) (C 4))) (hn : C 0 307 ≤ 12) (h12 : tn_tok2 C 12) : ∀ (m : Nat) (k : Int) (v : Prop), 0 ≤ k → k ≤ C 0 307 → (C 0 307 - k).toNat = m → fX9_isThere_L4 b h (tn_b v) k = some (tn_b (v ∨ ∃ t : Int, k ≤ t ∧ t < C 0 307 ∧ tn_al C t 12)) := by
  intro m
  induction m with
  | zero =>
    intro k v k0 k1 hm
    rw [fX9_isThere_L4_eq, H.g.1, Option.bind_some, H.l0 (by omega) (by omega), Option.bind_some, show Int.toNat 307 = 307 from rfl, if_neg (by omega), tn_zr, Option.bind_some, tn_bc]
    refine ⟨fun y => Or.inl y, fun y => ?_⟩
    rcases y with y | ⟨t, t0, t1, _⟩
    · exact y
    · omega
  | succ m ih =>
    intro k v k0 k1 hm
    rw [fX9_isThere_L4_eq, H.g.1, Option.bind_some, H.l0 (by omega) (by omega), Option.bind_some, show Int.toNat 307 = 307 from rfl, if_pos (by omega), fX9_isThere_L30_eq, fX9_isThere_L35_eq, fX9_isThere_L35_eq, tm_wr_id (by omega) (by omega)]
    by_cases c : v
    · rw [tn_b1 c, if_neg (by omega)]
      have q := ih (k + 1) v (by omega) (by omega) (by omega)
      rw [tn_b1 c] at q
      rw [q, tn_b1 (Or.inl c), tn_b1 (Or.inl c)]
    · rw [tn_b0 c, if_pos rfl, tx9_areAlike H (tn_tok2_of ok hn ⟨k0, by omega⟩) h12, Option.bind_some]
      have q := ih (k + 1) (tn_al C k 12) (by omega) (by omega) (by omega)
      have fin : tn_b (tn_al C k 12 ∨ ∃ t : Int, k + 1 ≤ t ∧ t < C 0 307 ∧ tn_al C t 12) = tn_b (v ∨ ∃ t : Int, k ≤ t ∧ t < C 0 307 ∧ tn_al C t 12) := tn_bc ⟨fun y => by
        rcases y with y | ⟨t, t0, t1, t2⟩
        · exact Or.inr ⟨k, by omega, by omega, y⟩
        · exact Or.inr ⟨t, by omega, t1, t2⟩, fun y => by
        rcases y with y | ⟨t, t0, t1, t2⟩
        · exact absurd y c
        · by_cases z : t = k
          · rw [z] at t2; exact Or.inl t2
          · exact Or.inr ⟨t, by omega, t1, t2⟩⟩
      by_cases d : tn_al C k 12
      · rw [tn_b1 d] at q ⊢
        rw [if_neg (by omega), q, fin]
      · rw [tn_b0 d] at q ⊢
        rw [if_pos rfl, q, fin]
theorem tx9_isThere (H : tn_E h b C J) (ok : tn_ok (tn_row (C 0) (C 4))) (hn : C 0 307 ≤ 12) (h12 : tn_tok2 C 12) : fX9_isThere b h = some (tn_b (tn_lik (tn_row (C 0) (C 4)) (tn_rl C 12) (tn_rt C 12))) := by
  have n0 : 0 ≤ C 0 307 := ok.2.2.2.2.1
  simp only [fX9_isThere, tn_th H.1]
  have q := tx9_there_l H ok hn h12 _ 0 False (by omega) n0 rfl
  rw [tn_b0 (fun y => y)] at q
  rw [q, tn_bc]
  unfold tn_lik tn_al
  constructor
  · rintro (y | ⟨t, t0, t1, t2, t3⟩)
    · exact y.elim
    · have e1 : tn_rl C t = C 0 (308 + 6 * t).toNat := if_neg (by omega)
      refine ⟨t, t0, t1, by rw [← t2, e1]; rfl, fun j j0 j1 => ?_⟩
      have := t3 j j0 (by omega)
      rw [show tn_rt C t j = C 0 (309 + 6 * t + j).toNat from if_neg (by omega)] at this
      exact this
  · rintro ⟨t, t0, t1, t2, t3⟩
    have t1' : t < C 0 307 := t1
    have e1 : tn_rl C t = C 0 (308 + 6 * t).toNat := if_neg (by omega)
    have t2' : C 0 (308 + 6 * t).toNat = tn_rl C 12 := t2
    refine Or.inr ⟨t, t0, t1, by rw [e1]; exact t2, fun j j0 j1 => ?_⟩
    rw [show tn_rt C t j = C 0 (309 + 6 * t + j).toNat from if_neg (by omega)]
    exact t3 j j0 (by omega)
/-- forms of a word -/
theorem tx9_forms_l (H : tn_E h b C J) (ok : tn_ok (tn_row (C 0) (C 4))) (w : Int) : ∀ (m : Nat) (k : Int) (v : Prop), 0 ≤ k → k ≤ C 0 0 → (C 0 0 - k).toNat = m → fX9_hasForms_L4 b w h (tn_b v) k = some (tn_b (v ∨ ∃ t : Int, k ≤ t ∧ t < C 0 0 ∧ t ≠ w ∧ C 0 (1 + t).toNat = w)) := by
  have n60 : C 0 0 ≤ 60 := ok.2.1
  intro m
  induction m with
  | zero =>
    intro k v k0 k1 hm
    rw [fX9_hasForms_L4_eq, H.g.1, Option.bind_some, H.l0 (by omega) (by omega), Option.bind_some, show Int.toNat 0 = 0 from rfl, if_neg (by omega), tn_zr, Option.bind_some, tn_bc]
    refine ⟨fun y => Or.inl y, fun y => ?_⟩
    rcases y with y | ⟨t, t0, t1, _⟩
    · exact y
    · omega
  | succ m ih =>
    intro k v k0 k1 hm
    rw [fX9_hasForms_L4_eq, H.g.1, Option.bind_some, H.l0 (by omega) (by omega), Option.bind_some, show Int.toNat 0 = 0 from rfl, if_pos (by omega), fX9_hasForms_L35_eq, fX9_hasForms_L39_eq, fX9_hasForms_L40_eq, fX9_hasForms_L40_eq, Option.bind_some, tx9_bas H (w := k) (by omega), Option.bind_some, tm_wr_id (by omega) (by omega)]
    have yes : ∀ P : Prop, P → fX9_hasForms_L4 b w h 1 (k + 1) = some (tn_b (P ∨ ∃ t : Int, k + 1 ≤ t ∧ t < C 0 0 ∧ t ≠ w ∧ C 0 (1 + t).toNat = w)) := fun P hP => by
      have q := ih (k + 1) P (by omega) (by omega) (by omega)
      rw [tn_b1 hP] at q
      exact q
    have no : fX9_hasForms_L4 b w h 0 (k + 1) = some (tn_b (False ∨ ∃ t : Int, k + 1 ≤ t ∧ t < C 0 0 ∧ t ≠ w ∧ C 0 (1 + t).toNat = w)) := by
      have q := ih (k + 1) False (by omega) (by omega) (by omega)
      rw [tn_b0 (fun y => y)] at q
      exact q
    by_cases c : v
    · rw [tn_b1 c, if_neg (by omega), yes v c, tn_b1 (Or.inl c), tn_b1 (Or.inl c)]
    · rw [tn_b0 c, if_pos rfl]
      by_cases d : k ≠ w ∧ C 0 (1 + k).toNat = w
      · rw [if_neg d.1, if_pos d.2, yes _ d, tn_b1 (Or.inl d), tn_b1]
        exact Or.inr ⟨k, by omega, by omega, d⟩
      · have fin : tn_b (False ∨ ∃ t : Int, k + 1 ≤ t ∧ t < C 0 0 ∧ t ≠ w ∧ C 0 (1 + t).toNat = w) = tn_b (v ∨ ∃ t : Int, k ≤ t ∧ t < C 0 0 ∧ t ≠ w ∧ C 0 (1 + t).toNat = w) := tn_bc ⟨fun y => by
          rcases y with y | ⟨t, t0, t1, t2⟩
          · exact y.elim
          · exact Or.inr ⟨t, by omega, t1, t2⟩, fun y => by
          rcases y with y | ⟨t, t0, t1, t2⟩
          · exact absurd y c
          · by_cases z : t = k
            · rw [z] at t2; exact absurd t2 d
            · exact Or.inr ⟨t, by omega, t1, t2⟩⟩
        by_cases e : k = w
        · rw [if_pos e, no, fin]
        · rw [if_neg e, if_neg (fun y => d ⟨e, y⟩), no, fin]
theorem tx9_hasForms (H : tn_E h b C J) (ok : tn_ok (tn_row (C 0) (C 4))) (w : Int) : fX9_hasForms b w h = some (tn_b (∃ v : Int, 0 ≤ v ∧ v < C 0 0 ∧ v ≠ w ∧ C 0 (1 + v).toNat = w)) := by
  simp only [fX9_hasForms, tn_th H.1]
  have n0 : 26 ≤ C 0 0 := ok.1
  have q := tx9_forms_l H ok w _ 0 False (by omega) (by omega) rfl
  rw [tn_b0 (fun y => y)] at q
  rw [q, tn_bc]
  exact ⟨fun y => by
    rcases y with y | y
    · exact y.elim
    · exact y, Or.inr⟩
end RFP
