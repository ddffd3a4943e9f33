/-! the reference: text, letters, bases, small counts -/
section RFT
variable {h : tm_H} {b : Nat} {C : Nat → Nat → Int} {J : Nat → Int}
theorem tx9_append (H : tn_E h b C J) (j5 : 0 ≤ J 5 ∧ J 5 ≤ 140) (v : Int) : (¬ (1 ≤ v ∧ v ≤ 255) → fX9_append b v h = some (-1, h)) ∧ (1 ≤ v ∧ v ≤ 255 → J 5 = 140 → fX9_append b v h = some (-3, h)) ∧ (1 ≤ v ∧ v ≤ 255 → J 5 ≠ 140 → ∃ h', fX9_append b v h = some (J 5 + 1, h') ∧ tn_E h' b (tn_rk C 3 (tm_up (C 3) (J 5).toNat v)) (tm_up J 5 (J 5 + 1)) ∧ tn_fr b (b + 11) h h') := by
  simp only [fX9_append, tn_th H.1, tx9_in, Option.bind_some, H.j.2.1]
  refine ⟨fun c => by rw [tn_b0 c, if_pos rfl], fun c d => by rw [tn_b1 c, if_neg (by omega), if_pos d], fun c d => ?_⟩
  obtain ⟨h1, e1, E1, f1⟩ := H.w 3 (a := b + 4) (i := J 5) v rfl (by omega) (by omega) (by rw [show tn_ln 3 = 140 from rfl]; omega)
  obtain ⟨h2, e2, E2, f2⟩ := E1.s 5 (J 5 + 1) (by omega)
  refine ⟨h2, ?_, E2, f1.tr f2⟩
  rw [tn_b1 c, if_neg (by omega), if_neg d, H.g.2.2.2.1, Option.bind_some, show tm_wI h 0 (b + 4) (J 5) v = some h1 from e1, Option.bind_some, E1.j.2.1, Option.bind_some, tm_wr_id (by omega) (by omega), e2, Option.bind_some, E2.j.2.1, Option.bind_some, tm_up_self]
theorem tx9_clear (H : tn_E h b C J) : ∃ h', fX9_clearText b h = some (J 5, h') ∧ tn_E h' b C (tm_up J 5 0) ∧ tn_fr b (b + 11) h h' := by
  obtain ⟨h2, e2, E2, f2⟩ := H.s 5 0 (by omega)
  refine ⟨h2, ?_, E2, f2⟩
  simp only [fX9_clearText, tn_th H.1, H.j.2.1, Option.bind_some, e2]
theorem tx9_base (H : tn_E h b C J) (ok : tn_ok (tn_row (C 0) (C 4))) (w : Int) : fX9_base b w h = some (sp_bs (tn_row (C 0) (C 4)) w) := by
  have n60 : C 0 0 ≤ 60 := ok.2.1
  simp only [fX9_base, tn_th H.1, tx9_isWord H ok, Option.bind_some, H.g.1]
  unfold sp_bs
  have nd : tn_n (tn_row (C 0) (C 4)) = C 0 0 := rfl
  rw [nd]
  by_cases c : 0 ≤ w ∧ w < C 0 0
  · rw [tn_b1 c, if_neg (by omega), if_pos c, tx9_bas H (by omega), Option.bind_some]
    rfl
  · rw [tn_b0 c, if_pos rfl, if_neg c]
/-- letters are characters, or nothing -/
def tn_lt (C : Nat → Nat → Int) : Prop := ∀ i : Int, 0 ≤ i → i < 480 → 0 ≤ C 4 i.toNat ∧ C 4 i.toNat < 256
theorem tx9_letter (H : tn_E h b C J) (ok : tn_ok (tn_row (C 0) (C 4))) (lt : tn_lt C) (w i : Int) : fX9_letter b w i h = some (sp_letter (tn_row (C 0) (C 4)) w i) := by
  have n60 : C 0 0 ≤ 60 := ok.2.1
  simp only [fX9_letter, tn_th H.1, tx9_isWord H ok, Option.bind_some, H.g.2.2.2.2.1]
  unfold sp_letter
  have nd : tn_n (tn_row (C 0) (C 4)) = C 0 0 := rfl
  rw [nd]
  by_cases c : 0 ≤ w ∧ w < C 0 0
  · rw [tn_b1 c, if_neg (by omega)]
    by_cases d : i < 0
    · rw [if_pos d, if_neg (by omega)]
    · rw [if_neg d, if_pos (show 0 ≤ w ∧ w < C 0 0 ∧ 0 ≤ i by omega)]
      by_cases e : i < 8
      · have by_ : tn_by (tn_sp (tn_row (C 0) (C 4)) w) i = C 4 (8 * w + i).toNat := tn_by_spl (f := fun i => C 4 (8 * w + i).toNat) (fun k k0 k1 => lt _ (by omega) (by omega)) ⟨by omega, e⟩
        have l4 : tm_lI h 0 (b + 5) (8 * w + i) = some (C 4 (8 * w + i).toNat) := H.l 4 rfl (by omega) (by omega) (by rw [show tn_ln 4 = 480 from rfl]; omega)
        rw [if_pos e, if_pos e, tm_wr_id (z := 8 * w) (by omega) (by omega), tm_wr_id (by omega) (by omega), l4, Option.bind_some, by_]
        simp only [fX9_letter_L35]
        by_cases k : C 4 (8 * w + i).toNat = 0
        · rw [if_pos k, if_pos k]
        · rw [if_neg k, if_neg k]
      · rw [if_neg e, if_neg e]
        simp only [fX9_letter_L35]
        rfl
  · rw [tn_b0 c, if_pos rfl, if_neg (by omega)]
theorem tx9_quiet_l (H : tn_E h b C J) (ok : tn_ok (tn_row (C 0) (C 4))) (hn : C 0 307 ≤ 12) : ∀ (m : Nat) (k : Int), 0 ≤ k → k ≤ C 0 307 → (C 0 307 - k).toNat = m → fX9_quietTerms_L4 b h (tn_sm (fun t => tn_b (tn_tq (tn_row (C 0) (C 4)) t ≠ 0)) k.toNat) k = some (tn_sm (fun t => tn_b (tn_tq (tn_row (C 0) (C 4)) t ≠ 0)) (C 0 307).toNat) := by
  intro m
  induction m with
  | zero =>
    intro k k0 k1 hm
    rw [fX9_quietTerms_L4_eq, H.g.1, Option.bind_some, H.l0 (by omega) (by omega), Option.bind_some, show Int.toNat 307 = 307 from rfl, if_neg (by omega), show k = C 0 307 by omega]
  | succ m ih =>
    intro k k0 k1 hm
    have r := tn_sm_rg (f := fun t => tn_b (tn_tq (tn_row (C 0) (C 4)) t ≠ 0)) (B := 1) (m := k.toNat) (fun i _ _ => tn_b_rg _)
    have q := ih (k + 1) (by omega) (by omega) (by omega)
    rw [tn_sm_su k0] at q
    have tq : C 0 (313 + 6 * k).toNat = 0 ∨ C 0 (313 + 6 * k).toNat = 1 := (ok.2.2.2.2.2.2.1 k k0 (show k < C 0 307 by omega)).2.2.1
    have tqd : tn_tq (tn_row (C 0) (C 4)) k = C 0 (313 + 6 * k).toNat := rfl
    rw [fX9_quietTerms_L4_eq, H.g.1, Option.bind_some, H.l0 (by omega) (by omega), Option.bind_some, show Int.toNat 307 = 307 from rfl, if_pos (by omega), tx9_isQuiet H (by omega), Option.bind_some, fX9_quietTerms_L30_eq, fX9_quietTerms_L30_eq, tm_wr_id (z := k + 1) (by omega) (by omega), tm_wr_id (by omega) (by omega), tm_wr_id (by omega) (by omega)]
    rw [tqd] at q
    rcases tq with c | c
    · rw [tn_b0 (by omega)] at q
      rw [tn_b0 (by omega), if_pos rfl]
      exact q
    · rw [tn_b1 (by omega)] at q
      rw [tn_b1 c, if_neg (by omega)]
      exact q
theorem tx9_quietTerms (H : tn_E h b C J) (ok : tn_ok (tn_row (C 0) (C 4))) (hn : C 0 307 ≤ 12) : fX9_quietTerms b h = some (tn_sm (fun t => tn_b (tn_tq (tn_row (C 0) (C 4)) t ≠ 0)) (C 0 307).toNat) := by
  simp only [fX9_quietTerms, tn_th H.1]
  exact tx9_quiet_l H ok hn _ 0 (by omega) ok.2.2.2.2.1 rfl
theorem tx9_fms_l (H : tn_E h b C J) (ok : tn_ok (tn_row (C 0) (C 4))) : ∀ (m : Nat) (k : Int), 0 ≤ k → k ≤ C 0 0 → (C 0 0 - k).toNat = m → fX9_forms_L4 b h (tn_sm (fun v => tn_b (tn_bs (tn_row (C 0) (C 4)) v ≠ v)) k.toNat) k = some (tn_sm (fun v => tn_b (tn_bs (tn_row (C 0) (C 4)) v ≠ v)) (C 0 0).toNat) := by
  have n60 : C 0 0 ≤ 60 := ok.2.1
  intro m
  induction m with
  | zero =>
    intro k k0 k1 hm
    rw [fX9_forms_L4_eq, H.g.1, Option.bind_some, H.l0 (by omega) (by omega), Option.bind_some, show Int.toNat 0 = 0 from rfl, if_neg (by omega), show k = C 0 0 by omega]
  | succ m ih =>
    intro k k0 k1 hm
    have r := tn_sm_rg (f := fun v => tn_b (tn_bs (tn_row (C 0) (C 4)) v ≠ v)) (B := 1) (m := k.toNat) (fun i _ _ => tn_b_rg _)
    have q := ih (k + 1) (by omega) (by omega) (by omega)
    rw [tn_sm_su k0] at q
    have bd : tn_bs (tn_row (C 0) (C 4)) k = C 0 (1 + k).toNat := rfl
    rw [bd] at q
    rw [fX9_forms_L4_eq, H.g.1, Option.bind_some, H.l0 (by omega) (by omega), Option.bind_some, show Int.toNat 0 = 0 from rfl, if_pos (by omega), Option.bind_some, tx9_bas H (w := k) (by omega), Option.bind_some, fX9_forms_L32_eq, fX9_forms_L32_eq, tm_wr_id (z := k + 1) (by omega) (by omega), tm_wr_id (by omega) (by omega), tm_wr_id (by omega) (by omega)]
    by_cases c : C 0 (1 + k).toNat = k
    · rw [tn_b0 (by omega)] at q
      rw [if_pos c]
      exact q
    · rw [tn_b1 c] at q
      rw [if_neg c]
      exact q
theorem tx9_forms (H : tn_E h b C J) (ok : tn_ok (tn_row (C 0) (C 4))) : fX9_forms b h = some (tn_sm (fun v => tn_b (tn_bs (tn_row (C 0) (C 4)) v ≠ v)) (C 0 0).toNat) := by
  simp only [fX9_forms, tn_th H.1]
  have n0 : 26 ≤ C 0 0 := ok.1
  exact tx9_fms_l H ok _ 0 (by omega) (by omega) rfl
end RFT
