/-! the reference reads a text: tokens -/
/-- X holds the text -/
def tn_xx (l : Int) (x : Int → Int) (X : Nat → Int) : Prop := 0 ≤ l ∧ l ≤ 140 ∧ ∀ i : Int, 0 ≤ i → i < l → X i.toNat = x i ∧ 1 ≤ x i ∧ x i ≤ 255
section RHA
variable {h : tm_H} {b : Nat} {C : Nat → Nat → Int} {J : Nat → Int} {l : Int} {x : Int → Int}
theorem tn_E.l3 (H : tn_E h b C J) {i : Int} (i0 : 0 ≤ i) (i1 : i < 140) : tm_lI h 0 (b + 4) i = some (C 3 i.toNat) := H.l 3 rfl (by omega) i0 (by rw [show tn_ln 3 = 140 from rfl]; omega)
theorem tn_E.l4 (H : tn_E h b C J) {i : Int} (i0 : 0 ≤ i) (i1 : i < 480) : tm_lI h 0 (b + 5) i = some (C 4 i.toNat) := H.l 4 rfl (by omega) i0 (by rw [show tn_ln 4 = 480 from rfl]; omega)
theorem tn_E.w4 (H : tn_E h b C J) {i : Int} (v : Int) (i0 : 0 ≤ i) (i1 : i < 480) : ∃ h', tm_wI h 0 (b + 5) i v = some h' ∧ tn_E h' b (tn_up2 C 4 i.toNat v) J ∧ tn_fr b (b + 11) h h' := H.w 4 v rfl (by omega) i0 (by rw [show tn_ln 4 = 480 from rfl]; omega)
theorem tn_E.l9 (H : tn_E h b C J) {i : Int} (i0 : 0 ≤ i) (i1 : i < 40) : tm_lI h 0 (b + 10) i = some (C 9 i.toNat) := H.l 9 rfl (by omega) i0 i1
theorem tn_E.w9 (H : tn_E h b C J) {i : Int} (v : Int) (i0 : 0 ≤ i) (i1 : i < 40) : ∃ h', tm_wI h 0 (b + 10) i v = some h' ∧ tn_E h' b (tn_up2 C 9 i.toNat v) J ∧ tn_fr b (b + 11) h h' := H.w 9 v rfl (by omega) i0 i1
theorem tn_E.g9 (H : tn_E h b C J) : tm_gR h 9 4 b = some (b + 4) ∧ tm_gR h 9 6 b = some (b + 5) ∧ tm_gR h 9 13 b = some (b + 10) := ⟨H.g.2.2.2.1, H.g.2.2.2.2.1, H.g.2.2.2.2.2.2.2.2.2⟩
theorem tn_E.g7 (H : tn_E h b C J) : tm_gR h 9 7 b = some (b + 6) := H.g.2.2.2.2.2.1
theorem tx9_isLetter (H : tn_E h b C J) (hx : tn_xx l x (C 3)) (h5 : J 5 = l) {i : Int} (hi : 0 ≤ i) : fX9_isLetter b i h = some (tn_b (tn_isl (tn_ch l x i))) := by
  obtain ⟨l0, l1, hX⟩ := hx
  simp only [fX9_isLetter, tn_th H.1, H.j.2.1, H.g9.1, Option.bind_some]
  rw [h5]
  unfold tn_ch
  by_cases c : i < l
  · rw [if_pos c, if_pos ⟨hi, c⟩, H.l3 hi (by omega), Option.bind_some, tx9_in, Option.bind_some, (hX i hi c).1]
    by_cases d : 97 ≤ x i ∧ x i ≤ 122
    · rw [tn_b1 d, if_neg (by omega)]
    · rw [tn_b0 d, if_pos rfl]
  · rw [if_neg c, if_neg (fun k => c k.2), tn_b0]
    rintro ⟨k, _⟩
    omega
/-- a token: where it begins and ends is told, nothing else is other -/
def tn_tj (J J' : Nat → Int) (st en : Int) : Prop := J' 11 = st ∧ J' 12 = en ∧ J' 3 = J 3 ∧ J' 5 = J 5 ∧ J' 14 = J 14
theorem tx9_tok114 (H : tn_E h b C J) (v : Int) : ∃ h' J', fX9_token_L114 b b v h = some h' ∧ tn_E h' b C J' ∧ tn_tj J J' (J 11) v ∧ tn_fr b (b + 11) h h' := by
  obtain ⟨h1, e1, E1, f1⟩ := H.s 12 v (by omega)
  refine ⟨h1, _, ?_, E1, ⟨rfl, rfl, rfl, rfl, rfl⟩, f1⟩
  simp only [fX9_token_L114, e1, Option.bind_some]
theorem tx9_tok_e (hx : tn_xx l x (C 3)) : ∀ (m : Nat) (h : tm_H) (J : Nat → Int), tn_E h b C J → J 5 = l → 0 ≤ J 11 → J 11 ≤ J 12 → J 12 ≤ l → tn_tl2 l x (J 11) = tn_tl2 l x (J 12) → (l - J 12).toNat = m → ∃ h' J', fX9_token_L54 b h = some h' ∧ tn_E h' b C J' ∧ tn_tj J J' (J 11) (tn_te l x (J 11)) ∧ tn_fr b (b + 11) h h' := by
  have l1 := hx.2.1
  intro m
  induction m using Nat.strongRecOn with
  | _ m ih =>
    intro h J H h5 j0 j1 j2 jt hm
    rw [fX9_token_L54_eq, H.j.2.2.2.1, Option.bind_some, tx9_isLetter H hx h5 (by omega), Option.bind_some]
    by_cases c : tn_isl (tn_ch l x (J 12))
    · have lt : J 12 < l := by
        by_cases k : J 12 < l
        · exact k
        · unfold tn_ch at c
          rw [if_neg (fun y => k y.2)] at c
          have := c.1
          omega
      have xe : tn_ch l x (J 12) = x (J 12) := if_pos ⟨by omega, lt⟩
      obtain ⟨h1, e1, E1, f1⟩ := H.s 12 (J 12 + 1) (by omega)
      have q : tn_tl2 l x (J 12) = tn_tl2 l x (J 12 + 1) := by rw [tn_tl2_eq, if_pos ⟨lt, by rw [← xe]; exact c⟩]
      obtain ⟨h2, J2, e2, E2, t2, f2⟩ := ih (l - (J 12 + 1)).toNat (by omega) h1 _ E1 h5 j0 (show J 11 ≤ J 12 + 1 by omega) (show J 12 + 1 ≤ l by omega) (jt.trans q) rfl
      refine ⟨h2, J2, ?_, E2, t2, f1.tr f2⟩
      rw [tn_b1 c, if_neg (by omega), Option.bind_some, tm_wr_id (by omega) (by omega), e1, Option.bind_some]
      exact e2
    · have te : tn_tl2 l x (J 12) = J 12 := by
        rw [tn_tl2_eq]
        by_cases k : J 12 < l
        · have xe : tn_ch l x (J 12) = x (J 12) := if_pos ⟨by omega, k⟩
          rw [xe] at c
          rw [if_neg (fun y => c y.2)]
        · rw [if_neg (fun y => k y.1)]
      have l110 : ∀ v : Int, v = J 12 → fX9_token_L110 b b h = fX9_token_L114 b b v h := fun v hv => by
        simp only [fX9_token_L110, H.j.2.2.2.1, Option.bind_some]
        rw [hv]
      rw [tn_b0 c, if_pos rfl, Option.bind_some, H.j.2.2.1, Option.bind_some, Option.bind_some, H.j.2.1, Option.bind_some, Option.bind_some, l110 _ rfl, h5]
      unfold tn_te
      rw [jt, te]
      by_cases k1 : J 12 = J 11
      · rw [if_pos k1]
        by_cases k2 : J 11 < l
        · rw [if_pos k2, tm_wr_id (by omega) (by omega), if_pos ⟨k1, k2⟩]
          exact tx9_tok114 H _
        · rw [if_neg k2, if_neg (fun y => k2 y.2)]
          exact tx9_tok114 H _
      · rw [if_neg k1, if_neg (fun y => k1 y.1)]
        exact tx9_tok114 H _
theorem tx9_tok_s (hx : tn_xx l x (C 3)) {e : Int} : ∀ (m : Nat) (h : tm_H) (J : Nat → Int), tn_E h b C J → J 5 = l → 0 ≤ J 11 → J 11 ≤ l → tn_ts l x e = tn_ts l x (J 11) → (l - J 11).toNat = m → ∃ h' J', fX9_token_L8 b h = some h' ∧ tn_E h' b C J' ∧ tn_tj J J' (tn_ts l x e) (tn_te l x (tn_ts l x e)) ∧ tn_fr b (b + 11) h h' := by
  have l1 := hx.2.1
  intro m
  induction m using Nat.strongRecOn with
  | _ m ih =>
    intro h J H h5 j0 j1 jt hm
    have l46 : tn_ts l x e = J 11 → ∃ h' J', fX9_token_L46 b h = some h' ∧ tn_E h' b C J' ∧ tn_tj J J' (tn_ts l x e) (tn_te l x (tn_ts l x e)) ∧ tn_fr b (b + 11) h h' := fun q => by
      obtain ⟨h1, e1, E1, f1⟩ := H.s 12 (J 11) (by omega)
      obtain ⟨h2, J2, e2, E2, t2, f2⟩ := tx9_tok_e hx _ h1 _ E1 h5 j0 (show J 11 ≤ J 11 by omega) j1 rfl rfl
      refine ⟨h2, J2, ?_, E2, by rw [q]; exact t2, f1.tr f2⟩
      simp only [fX9_token_L46, H.j.2.2.1, Option.bind_some, e1]
      exact e2
    rw [fX9_token_L8_eq, H.j.2.2.1, Option.bind_some, H.j.2.1, Option.bind_some, h5]
    by_cases c : J 11 < l
    · rw [if_pos c, H.g9.1, Option.bind_some, Option.bind_some, H.l3 j0 (by omega), Option.bind_some, (hx.2.2 _ j0 c).1]
      by_cases d : x (J 11) = 32
      · obtain ⟨h1, e1, E1, f1⟩ := H.s 11 (J 11 + 1) (by omega)
        have q : tn_ts l x (J 11) = tn_ts l x (J 11 + 1) := by rw [tn_ts_eq, if_pos ⟨c, d⟩]
        obtain ⟨h2, J2, e2, E2, t2, f2⟩ := ih (l - (J 11 + 1)).toNat (by omega) h1 _ E1 h5 (show 0 ≤ J 11 + 1 by omega) (show J 11 + 1 ≤ l by omega) (jt.trans q) rfl
        refine ⟨h2, J2, ?_, E2, t2, f1.tr f2⟩
        rw [if_pos d, Option.bind_some, tm_wr_id (by omega) (by omega), e1, Option.bind_some]
        exact e2
      · rw [if_neg d]
        exact l46 (by rw [jt, tn_ts_eq, if_neg (fun y => d y.2)])
    · rw [if_neg c]
      exact l46 (by rw [jt, tn_ts_eq, if_neg (fun y => c y.1)])
theorem tx9_token (H : tn_E h b C J) (hx : tn_xx l x (C 3)) (h5 : J 5 = l) (h12 : 0 ≤ J 12 ∧ J 12 ≤ l) : ∃ h' J', fX9_token b h = some h' ∧ tn_E h' b C J' ∧ tn_tj J J' (tn_ts l x (J 12)) (tn_te l x (tn_ts l x (J 12))) ∧ tn_fr b (b + 11) h h' := by
  obtain ⟨h1, e1, E1, f1⟩ := H.s 11 (J 12) (by omega)
  obtain ⟨h2, J2, e2, E2, t2, f2⟩ := tx9_tok_s (e := J 12) hx _ h1 _ E1 h5 h12.1 h12.2 rfl rfl
  refine ⟨h2, J2, ?_, E2, t2, f1.tr f2⟩
  simp only [fX9_token, tn_th H.1, H.j.2.2.2.1, Option.bind_some, e1]
  exact e2
theorem tx9_isRun (H : tn_E h b C J) (hx : tn_xx l x (C 3)) (h5 : J 5 = l) (ps : tn_ps l x (J 11) (J 12)) : fX9_isRun b h = some (tn_b (tn_isl (tn_ch l x (J 11)))) := by
  have en := ps.en
  simp only [fX9_isRun, tn_th H.1, H.j.2.2.1, H.j.2.2.2.1, Option.bind_some]
  by_cases c : J 11 < J 12
  · rw [if_pos c, tx9_isLetter H hx h5 ps.1, Option.bind_some]
    by_cases d : tn_isl (tn_ch l x (J 11))
    · rw [tn_b1 d, if_neg (by omega)]
    · rw [tn_b0 d, if_pos rfl]
  · rw [if_neg c, tn_b0]
    intro y
    have := (ps.run y).2.1
    omega
theorem tx9_isSign (H : tn_E h b C J) (hx : tn_xx l x (C 3)) (h5 : J 5 = l) (ps : tn_ps l x (J 11) (J 12)) {v : Int} (hv : v ≠ 0 ∧ ¬ tn_isl v) : fX9_isSign b v h = some (tn_b (tn_ch l x (J 11) = v)) := by
  have en := ps.en
  have l1 := hx.2.1
  have s0 := ps.1
  simp only [fX9_isSign, tn_th H.1, H.j.2.2.1, H.j.2.2.2.1, Option.bind_some]
  rw [tm_wr_id (by omega) (by omega)]
  by_cases c : J 12 = J 11 + 1
  · have xe : tn_ch l x (J 11) = x (J 11) := if_pos ⟨s0, by omega⟩
    rw [if_pos c, H.g9.1, Option.bind_some, H.l3 s0 (by omega), Option.bind_some, (hx.2.2 _ s0 (by omega)).1, xe]
    by_cases d : x (J 11) = v
    · rw [if_pos d, tn_b1 d]
    · rw [if_neg d, tn_b0 d]
  · rw [if_neg c, tn_b0]
    intro y
    have lt : J 11 < l := by
      by_cases k : J 11 < l
      · exact k
      · unfold tn_ch at y
        rw [if_neg (fun z => k z.2)] at y
        exact absurd y.symm hv.1
    have xe : tn_ch l x (J 11) = x (J 11) := if_pos ⟨s0, lt⟩
    have := tn_te_one (x := x) lt (by rw [← xe, y]; exact hv.2)
    have := ps.2.2
    omega
theorem tx9_nm9 (H : tn_E h b C J) (hx : tn_xx l x (C 3)) (h5 : J 5 = l) (ps : tn_ps l x (J 11) (J 12)) {a1 a2 a3 a4 n : Int} (ha : tn_isl a1) (hn : n = 2 ∨ n = 4) : fX9_isName_L9 b a1 a2 a3 a4 h n = some (tn_b (J 12 - J 11 = n ∧ tn_ch l x (J 11) = a1 ∧ tn_ch l x (J 11 + 1) = a2 ∧ (n = 4 → tn_ch l x (J 11 + 2) = a3 ∧ tn_ch l x (J 11 + 3) = a4))) := by
  have en := ps.en
  have l1 := hx.2.1
  have s0 := ps.1
  have rd : ∀ i : Int, 0 ≤ i → J 11 + i < l → tm_lI h 0 (b + 4) (J 11 + i) = some (tn_ch l x (J 11 + i)) := fun i i0 i1 => by
    have xe : tn_ch l x (J 11 + i) = x (J 11 + i) := if_pos ⟨by omega, i1⟩
    rw [H.l3 (by omega) (by omega), (hx.2.2 _ (by omega) i1).1, xe]
  have rd0 : J 11 < l → tm_lI h 0 (b + 4) (J 11) = some (tn_ch l x (J 11)) := fun i1 => by
    have := rd 0 (by omega) (by omega)
    rw [Int.add_zero] at this
    exact this
  simp only [fX9_isName_L9, tx9_isRun H hx h5 ps, H.j.2.2.1, H.j.2.2.2.1, H.g9.1, Option.bind_some]
  by_cases c0 : tn_isl (tn_ch l x (J 11))
  · rw [tn_b1 c0, if_neg (by omega), tm_wr_id (by omega) (by omega)]
    by_cases c1 : J 12 - J 11 = n
    · rw [if_pos c1, rd0 (by omega), Option.bind_some]
      by_cases c2 : tn_ch l x (J 11) = a1
      · rw [if_pos c2, tm_wr_id (z := J 11 + 1) (by omega) (by omega), rd 1 (by omega) (by omega), Option.bind_some]
        by_cases c3 : tn_ch l x (J 11 + 1) = a2
        · rw [if_pos c3]
          by_cases c4 : n = 2
          · rw [if_pos c4, tn_b1 ⟨c1, c2, c3, fun y => by omega⟩]
          · rw [if_neg c4, tm_wr_id (z := J 11 + 2) (by omega) (by omega), rd 2 (by omega) (by omega), Option.bind_some]
            by_cases c5 : tn_ch l x (J 11 + 2) = a3
            · rw [if_pos c5, tm_wr_id (z := J 11 + 3) (by omega) (by omega), rd 3 (by omega) (by omega), Option.bind_some]
              by_cases c6 : tn_ch l x (J 11 + 3) = a4
              · rw [if_pos c6, tn_b1 ⟨c1, c2, c3, fun _ => ⟨c5, c6⟩⟩]
              · rw [if_neg c6, tn_b0 (fun y => c6 (y.2.2.2 (by omega)).2)]
            · rw [if_neg c5, tn_b0 (fun y => c5 (y.2.2.2 (by omega)).1)]
        · rw [if_neg c3, tn_b0 (fun y => c3 y.2.2.1)]
      · rw [if_neg c2, tn_b0 (fun y => c2 y.2.1)]
    · rw [if_neg c1, tn_b0 (fun y => c1 y.1)]
  · rw [tn_b0 c0, if_pos rfl, tn_b0]
    intro y
    rw [y.2.1] at c0
    exact c0 ha
theorem tx9_name0 (H : tn_E h b C J) (hx : tn_xx l x (C 3)) (h5 : J 5 = l) (ps : tn_ps l x (J 11) (J 12)) : fX9_isName b 99 104 0 0 h = some (tn_b (tn_nm l x (J 11) (J 12) 2 tn_c0)) := by
  simp only [fX9_isName, tn_th H.1]
  rw [if_pos trivial, tx9_nm9 H hx h5 ps (by omega) (Or.inl rfl)]
  refine congrArg some (tn_bc ⟨fun ⟨y1, y2, y3, _⟩ => ⟨y1, fun i i0 i1 => ?_⟩, fun ⟨y1, y2⟩ => ⟨y1, ?_, y2 1 (by omega) (by omega), fun k => by omega⟩⟩)
  · have : i = 0 ∨ i = 1 := by omega
    rcases this with k | k <;> subst k
    · rw [Int.add_zero]; exact y2
    · exact y3
  · have := y2 0 (by omega) (by omega)
    rw [Int.add_zero] at this
    exact this
theorem tx9_name4 (H : tn_E h b C J) (hx : tn_xx l x (C 3)) (h5 : J 5 = l) (ps : tn_ps l x (J 11) (J 12)) {a1 a2 a3 a4 : Int} {f : Int → Int} (h0 : f 0 = a1) (h1 : f 1 = a2) (h2 : f 2 = a3) (h3 : f 3 = a4) (ha : tn_isl a1) (h30 : a3 ≠ 0) : fX9_isName b a1 a2 a3 a4 h = some (tn_b (tn_nm l x (J 11) (J 12) 4 f)) := by
  simp only [fX9_isName, tn_th H.1]
  rw [if_neg h30, tx9_nm9 H hx h5 ps ha (Or.inr rfl)]
  refine congrArg some (tn_bc ⟨fun ⟨y1, y2, y3, y4⟩ => ⟨y1, fun i i0 i1 => ?_⟩, fun ⟨y1, y2⟩ => ⟨y1, ?_, ?_, fun _ => ⟨?_, ?_⟩⟩⟩)
  · have : i = 0 ∨ i = 1 ∨ i = 2 ∨ i = 3 := by omega
    rcases this with k | k | k | k <;> subst k
    · rw [Int.add_zero, h0]; exact y2
    · rw [h1]; exact y3
    · rw [h2]; exact (y4 rfl).1
    · rw [h3]; exact (y4 rfl).2
  · have := y2 0 (by omega) (by omega)
    rw [Int.add_zero, h0] at this
    exact this
  · rw [← h1]; exact y2 1 (by omega) (by omega)
  · rw [← h2]; exact y2 2 (by omega) (by omega)
  · rw [← h3]; exact y2 3 (by omega) (by omega)
end RHA
