/-! the reference: its rows -/
def tn_ln (k : Nat) : Nat := if k = 0 then 874 else if k = 1 then 4370 else if k = 2 then 874 else if k = 3 then 140 else if k = 4 then 480 else if k = 5 then 5 else 40
def tn_kn (k : Nat) : Nat := if k = 8 then 2 else 0
/-- C k is the k-th array's content (now, past, aside, text, letters, tried, over, which, marked, words), J the numbers by their fields (3 states, 5 length, 11 start, 12 end, 14 wordMany) -/
def tn_E (h : tm_H) (b : Nat) (C : Nat → Nat → Int) (J : Nat → Int) : Prop :=
  h b = some (.inl (9, [.inr (some (b + 1)), .inr (some (b + 2)), .inr (some (b + 3)), .inl (J 3), .inr (some (b + 4)), .inl (J 5), .inr (some (b + 5)), .inr (some (b + 6)), .inr (some (b + 7)), .inr (some (b + 8)), .inr (some (b + 9)), .inl (J 11), .inl (J 12), .inr (some (b + 10)), .inl (J 14)])) ∧ ∀ k : Nat, k < 10 → h (b + 1 + k) = some (.inr (tn_kn k, tn_ln k, .inl (C k)))
/-- one place of an array is new -/
def tn_up2 (C : Nat → Nat → Int) (k i : Nat) (v : Int) : Nat → Nat → Int := fun j => if j = k then tm_up (C k) i v else C j
theorem tn_up2_eq (C : Nat → Nat → Int) (k i : Nat) (v : Int) : tn_up2 C k i v k = tm_up (C k) i v := if_pos rfl
theorem tn_up2_ne {C : Nat → Nat → Int} {k i j : Nat} {v : Int} (h : j ≠ k) : tn_up2 C k i v j = C j := if_neg h
section REF
variable {h : tm_H} {b : Nat} {C : Nat → Nat → Int} {J : Nat → Int}
theorem tn_E.cg {h' : tm_H} (H : tn_E h b C J) (e : tn_eq b (b + 11) h h') : tn_E h' b C J :=
  ⟨by rw [e b (by omega) (by omega)]; exact H.1, fun k hk => by rw [e _ (by omega) (by omega)]; exact H.2 k hk⟩
theorem tn_E.g (H : tn_E h b C J) : tm_gR h 9 0 b = some (b + 1) ∧ tm_gR h 9 1 b = some (b + 2) ∧ tm_gR h 9 2 b = some (b + 3) ∧ tm_gR h 9 4 b = some (b + 4) ∧ tm_gR h 9 6 b = some (b + 5) ∧ tm_gR h 9 7 b = some (b + 6) ∧ tm_gR h 9 8 b = some (b + 7) ∧ tm_gR h 9 9 b = some (b + 8) ∧ tm_gR h 9 10 b = some (b + 9) ∧ tm_gR h 9 13 b = some (b + 10) :=
  ⟨tn_gR (k := 0) H.1 rfl, tn_gR (k := 1) H.1 rfl, tn_gR (k := 2) H.1 rfl, tn_gR (k := 4) H.1 rfl, tn_gR (k := 6) H.1 rfl, tn_gR (k := 7) H.1 rfl, tn_gR (k := 8) H.1 rfl, tn_gR (k := 9) H.1 rfl, tn_gR (k := 10) H.1 rfl, tn_gR (k := 13) H.1 rfl⟩
theorem tn_E.j (H : tn_E h b C J) : tm_gI h 9 3 b = some (J 3) ∧ tm_gI h 9 5 b = some (J 5) ∧ tm_gI h 9 11 b = some (J 11) ∧ tm_gI h 9 12 b = some (J 12) ∧ tm_gI h 9 14 b = some (J 14) :=
  ⟨tn_gI (k := 3) H.1 rfl, tn_gI (k := 5) H.1 rfl, tn_gI (k := 11) H.1 rfl, tn_gI (k := 12) H.1 rfl, tn_gI (k := 14) H.1 rfl⟩
/-- an array's place is read, is written; a is the array's address -/
theorem tn_E.l (H : tn_E h b C J) (k : Nat) {a : Nat} {i : Int} (ha : a = b + 1 + k) (hk : k < 10) (i0 : 0 ≤ i) (i1 : i < tn_ln k) : tm_lI h (tn_kn k) a i = some (C k i.toNat) := by
  subst ha; exact tn_lI (H.2 k hk) i0 i1
theorem tn_E.w (H : tn_E h b C J) (k : Nat) {a : Nat} {i : Int} (v : Int) (ha : a = b + 1 + k) (hk : k < 10) (i0 : 0 ≤ i) (i1 : i < tn_ln k) : ∃ h', tm_wI h (tn_kn k) a i v = some h' ∧ tn_E h' b (tn_up2 C k i.toNat v) J ∧ tn_fr b (b + 11) h h' := by
  subst ha
  obtain ⟨h', e, p, o⟩ := tn_WI v (H.2 k hk) i0 i1
  refine ⟨h', e, ⟨by rw [o _ (by omega)]; exact H.1, fun j hj => ?_⟩, fun q hq => o q (by omega)⟩
  unfold tn_up2
  by_cases c : j = k
  · rw [if_pos c, c]; exact p
  · rw [if_neg c, o _ (by omega)]; exact H.2 j hj
/-- the numbers -/
theorem tn_E.s (H : tn_E h b C J) (k : Nat) (v : Int) (hk : k = 3 ∨ k = 5 ∨ k = 11 ∨ k = 12 ∨ k = 14) : ∃ h', tm_sF h 9 k b (.inl v) = some h' ∧ tn_E h' b C (tm_up J k v) ∧ tn_fr b (b + 11) h h' := by
  obtain ⟨h', e, p, o⟩ := tn_SF (k := k) H.1 (.inl v) (by simp; omega)
  refine ⟨h', e, ⟨?_, fun j hj => by rw [o _ (by omega)]; exact H.2 j hj⟩, fun q hq => o q (by omega)⟩
  rw [p]
  rcases hk with c | c | c | c | c <;> subst c <;> rfl
theorem tn_E.l0 (H : tn_E h b C J) {i : Int} (i0 : 0 ≤ i) (i1 : i < 874) : tm_lI h 0 (b + 1) i = some (C 0 i.toNat) := H.l 0 rfl (by omega) i0 i1
theorem tn_E.w0 (H : tn_E h b C J) {i : Int} (v : Int) (i0 : 0 ≤ i) (i1 : i < 874) : ∃ h', tm_wI h 0 (b + 1) i v = some h' ∧ tn_E h' b (tn_up2 C 0 i.toNat v) J ∧ tn_fr b (b + 11) h h' := H.w 0 v rfl (by omega) i0 i1
theorem tn_E.l5 (H : tn_E h b C J) {i : Int} (i0 : 0 ≤ i) (i1 : i < 5) : tm_lI h 0 (b + 6) i = some (C 5 i.toNat) := H.l 5 rfl (by omega) i0 i1
theorem tn_E.w5 (H : tn_E h b C J) {i : Int} (v : Int) (i0 : 0 ≤ i) (i1 : i < 5) : ∃ h', tm_wI h 0 (b + 6) i v = some h' ∧ tn_E h' b (tn_up2 C 5 i.toNat v) J ∧ tn_fr b (b + 11) h h' := H.w 5 v rfl (by omega) i0 i1
theorem tx9_in (x lo hi : Int) : fX9_in x lo hi h = some (tn_b (lo ≤ x ∧ x ≤ hi)) := by
  unfold fX9_in
  by_cases c1 : x < lo
  · rw [if_pos c1, tn_b0 (by omega)]
  · by_cases c2 : hi < x
    · rw [if_neg c1, if_pos c2, tn_b0 (by omega)]
    · rw [if_neg c1, if_neg c2, tn_b1 (by omega)]
end REF
/-- the state that a row and letters mean -/
def tn_sl (Lt : Nat → Int) (w : Int) : Int64 := tn_spl (fun i => Lt (8 * w + i).toNat) 0 8
def tn_row (N Lt : Nat → Int) : tn_St := ((N 0, ((fun w => N (1 + w).toNat), tn_sl Lt)), (((fun c => N (61 + 41 * c).toNat), (fun c p => N (62 + 41 * c + p).toNat)), ((N 307, ((fun t => N (308 + 6 * t).toNat), ((fun t k => N (309 + 6 * t + k).toNat), (fun t => N (313 + 6 * t).toNat)))), ((fun z => N (380 + 247 * z).toNat), ((fun z c => N (381 + 247 * z + 41 * c).toNat), (fun z c p => N (382 + 247 * z + 41 * c + p).toNat))))))
section REG
variable {h : tm_H} {b : Nat} {C : Nat → Nat → Int} {J : Nat → Int}
theorem tx9_isWord (H : tn_E h b C J) (ok : tn_ok (tn_row (C 0) (C 4))) (w : Int) : fX9_isWord b w h = some (tn_b (0 ≤ w ∧ w < C 0 0)) := by
  have n0 : 26 ≤ C 0 0 ∧ C 0 0 ≤ 60 := ⟨ok.1, ok.2.1⟩
  simp only [fX9_isWord, tn_th H.1, H.g.1, H.l0 (show (0 : Int) ≤ 0 by omega) (by omega), Option.bind_some, tx9_in, tn_zr]
  rw [show Int.toNat 0 = 0 from rfl, tm_wr_id (by omega) (by omega), tn_bc]
  omega
theorem tx9_isChapter (c : Int) : fX9_isChapter c h = some (tn_b (0 ≤ c ∧ c < 6)) := by
  simp only [fX9_isChapter, tx9_in, Option.bind_some, tn_zr]
  rw [tn_bc]
  omega
theorem tx9_size (H : tn_E h b C J) {c : Int} (hc : 0 ≤ c ∧ c < 6) : fX9_size b c h = some (C 0 (61 + 41 * c).toNat) := by
  simp only [fX9_size, tn_th H.1, H.g.1, Option.bind_some]
  rw [tm_wr_id (z := 41 * c) (by omega) (by omega), tm_wr_id (by omega) (by omega), H.l0 (by omega) (by omega), Option.bind_some]
theorem tx9_at {c p : Int} (hc : 0 ≤ c ∧ c < 6) (hp : -1 ≤ p ∧ p ≤ 41) : fX9_at c p h = some (62 + 41 * c + p) := by
  unfold fX9_at
  rw [tm_wr_id (z := 41 * c) (by omega) (by omega), tm_wr_id (z := 61 + 41 * c) (by omega) (by omega), tm_wr_id (z := 61 + 41 * c + 1) (by omega) (by omega), tm_wr_id (by omega) (by omega), show 61 + 41 * c + 1 + p = 62 + 41 * c + p by omega]
theorem tx9_baseAt (H : tn_E h b C J) (ok : tn_ok (tn_row (C 0) (C 4))) {c p : Int} (hc : 0 ≤ c ∧ c < 6) (hp : 0 ≤ p ∧ p < C 0 (61 + 41 * c).toNat) : fX9_baseAt b c p h = some (tn_bs (tn_row (C 0) (C 4)) (tn_wd (tn_row (C 0) (C 4)) c p)) := by
  have sz := ok.c hc
  have wd := ok.p hc hp
  have sz' : C 0 (61 + 41 * c).toNat ≤ 40 := sz.2
  have wd' : 0 ≤ C 0 (62 + 41 * c + p).toNat ∧ C 0 (62 + 41 * c + p).toNat < C 0 0 := wd
  have n0 : C 0 0 ≤ 60 := ok.2.1
  simp only [fX9_baseAt, tn_th H.1, H.g.1, Option.bind_some, tx9_at hc (show -1 ≤ p ∧ p ≤ 41 by omega)]
  rw [H.l0 (by omega) (by omega), Option.bind_some, tm_wr_id (by omega) (by omega), H.l0 (by omega) (by omega), Option.bind_some]
  rfl
theorem tx9_isTerm (H : tn_E h b C J) (ok : tn_ok (tn_row (C 0) (C 4))) (t : Int) : fX9_isTerm b t h = some (tn_b (0 ≤ t ∧ t < C 0 307)) := by
  have n0 : 0 ≤ C 0 307 ∧ C 0 307 ≤ 13 := ⟨ok.2.2.2.2.1, ok.2.2.2.2.2.1⟩
  simp only [fX9_isTerm, tn_th H.1, H.g.1, H.l0 (show (0 : Int) ≤ 307 by omega) (by omega), Option.bind_some, tx9_in, tn_zr]
  rw [show Int.toNat 307 = 307 from rfl, tm_wr_id (by omega) (by omega), tn_bc]
  omega
/-- a part of a term (0: how many words), that of the tried one being told by 12 -/
theorem tx9_ofTerm (H : tn_E h b C J) {t k : Int} (ht : 0 ≤ t ∧ t ≤ 12) (hk : 0 ≤ k ∧ k < 5) : fX9_ofTerm b t k h = some (if t = 12 then C 5 k.toNat else C 0 (308 + 6 * t + k).toNat) := by
  simp only [fX9_ofTerm, tn_th H.1, H.g.1, H.g.2.2.2.2.2.1, Option.bind_some, H.l5 hk.1 hk.2]
  by_cases c : t = 12
  · rw [if_pos c, if_pos c]
  · rw [if_neg c, if_neg c, tm_wr_id (z := 6 * t) (by omega) (by omega), tm_wr_id (z := 308 + 6 * t) (by omega) (by omega), tm_wr_id (by omega) (by omega), H.l0 (by omega) (by omega), Option.bind_some]
theorem tx9_isQuiet (H : tn_E h b C J) {t : Int} (ht : 0 ≤ t ∧ t < 12) : fX9_isQuiet b t h = some (tn_b (C 0 (313 + 6 * t).toNat = 1)) := by
  simp only [fX9_isQuiet, tn_th H.1, H.g.1, Option.bind_some]
  rw [if_pos ht.2, tm_wr_id (z := 6 * t) (by omega) (by omega), tm_wr_id (z := 308 + 6 * t) (by omega) (by omega), tm_wr_id (by omega) (by omega), H.l0 (by omega) (by omega), Option.bind_some, show 308 + 6 * t + 5 = 313 + 6 * t by omega]
  by_cases c : C 0 (313 + 6 * t).toNat = 1
  · rw [if_pos c, tn_b1 c]
  · rw [if_neg c, tn_b0 c]
/-! the row goes into the history, and comes out -/
theorem tn_ln1 : tn_ln 1 = 4370 := rfl
theorem tx9_sv_l {r : Nat} {k0 : Nat} (hr : r = b + 1 + k0) (hk0 : k0 = 0 ∨ k0 = 2) : ∀ (m : Nat) (k : Int) (h : tm_H) (C : Nat → Nat → Int), tn_E h b C J → 0 ≤ J 3 → J 3 < 5 → 0 ≤ k → k ≤ 874 → (874 - k).toNat = m → ∃ h' P', fX9_saves_L51 b r k h = some h' ∧ tn_E h' b (fun j => if j = 1 then P' else C j) (tm_up J 3 (J 3 + 1)) ∧ (∀ i : Int, 0 ≤ i → i < 4370 → P' i.toNat = if 874 * J 3 + k ≤ i ∧ i < 874 * J 3 + 874 then C k0 (i - 874 * J 3).toNat else C 1 i.toNat) ∧ tn_fr b (b + 11) h h' := by
  intro m
  induction m with
  | zero =>
    intro k h C H j0 j1 k0' k1 hm
    obtain ⟨h1, e1, E1, f1⟩ := H.s 3 (J 3 + 1) (by omega)
    refine ⟨h1, C 1, ?_, ?_, fun i i0 i1 => by rw [if_neg (by omega)], f1⟩
    · rw [fX9_saves_L51_eq, if_neg (by omega), H.j.1, Option.bind_some, tm_wr_id (by omega) (by omega), e1]
      rfl
    · have : (fun j => if j = 1 then C 1 else C j) = C := by
        funext j
        by_cases c : j = 1
        · rw [if_pos c, c]
        · rw [if_neg c]
      rw [this]; exact E1
  | succ m ih =>
    intro k h C H j0 j1 k0' k1 hm
    have lr : tm_lI h 0 r k = some (C k0 k.toNat) := by
      rcases hk0 with c | c <;> subst c
      · exact H.l 0 hr (by omega) k0' (by rw [show tn_ln 0 = 874 from rfl]; omega)
      · exact H.l 2 hr (by omega) k0' (by rw [show tn_ln 2 = 874 from rfl]; omega)
    obtain ⟨h1, e1, E1, f1⟩ := H.w 1 (i := 874 * J 3 + k) (a := b + 2) (C k0 k.toNat) rfl (by omega) (by omega) (by rw [tn_ln1]; omega)
    obtain ⟨h2, P', e2, E2, q2, f2⟩ := ih (k + 1) h1 _ E1 j0 j1 (by omega) (by omega) (by omega)
    refine ⟨h2, P', ?_, ?_, fun i i0 i1 => ?_, f1.tr f2⟩
    · rw [fX9_saves_L51_eq, if_pos (by omega), H.g.2.1, Option.bind_some, H.j.1, Option.bind_some, lr, Option.bind_some, tm_wr_id (z := 874 * J 3) (by omega) (by omega), tm_wr_id (z := 874 * J 3 + k) (by omega) (by omega), show tm_wI h 0 (b + 2) (874 * J 3 + k) (C k0 k.toNat) = some h1 from e1, Option.bind_some, tm_wr_id (by omega) (by omega)]
      exact e2
    · have : (fun j => if j = 1 then P' else tn_up2 C 1 (874 * J 3 + k).toNat (C k0 k.toNat) j) = fun j => if j = 1 then P' else C j := by
        funext j
        by_cases c : j = 1
        · rw [if_pos c, if_pos c]
        · rw [if_neg c, if_neg c, tn_up2_ne c]
      rw [← this]; exact E2
    · rw [q2 i i0 i1, tn_up2_ne (show k0 ≠ 1 by omega), tn_up2_eq, tm_up_app]
      by_cases c1 : i = 874 * J 3 + k
      · rw [if_neg (by omega), if_pos (by omega), if_pos (by omega), show (i - 874 * J 3).toNat = k.toNat by omega]
      · by_cases c2 : 874 * J 3 + k ≤ i ∧ i < 874 * J 3 + 874
        · rw [if_pos (by omega), if_pos c2]
        · rw [if_neg (by omega), if_neg (by omega), if_neg c2]
theorem tx9_sh_l {r : Nat} {k0 : Nat} (hr : r = b + 1 + k0) (hk0 : k0 = 0 ∨ k0 = 2) : ∀ (m : Nat) (k : Int) (h : tm_H) (C : Nat → Nat → Int), tn_E h b C J → J 3 = 5 → 0 ≤ k → k ≤ 3496 → (3496 - k).toNat = m → ∃ h' P', fX9_saves_L10 b r k h = some h' ∧ tn_E h' b (fun j => if j = 1 then P' else C j) (tm_up (tm_up J 3 4) 3 5) ∧ (∀ i : Int, 0 ≤ i → i < 4370 → P' i.toNat = if 3496 ≤ i then C k0 (i - 3496).toNat else if k ≤ i then C 1 (i + 874).toNat else C 1 i.toNat) ∧ tn_fr b (b + 11) h h' := by
  intro m
  induction m with
  | zero =>
    intro k h C H j5 k0' k1 hm
    obtain ⟨h1, e1, E1, f1⟩ := H.s 3 4 (by omega)
    have J3 : tm_up J 3 4 3 = 4 := tm_up_self _ _ _
    obtain ⟨h2, P', e2, E2, q2, f2⟩ := tx9_sv_l hr hk0 _ 0 h1 C E1 (by rw [J3]; omega) (by rw [J3]; omega) (by omega) (by omega) rfl
    refine ⟨h2, P', ?_, by rw [J3] at E2; exact E2, fun i i0 i1 => ?_, f1.tr f2⟩
    · rw [fX9_saves_L10_eq, if_neg (by omega), H.j.1, Option.bind_some, j5, tm_wr_id (by omega) (by omega), show (5 : Int) - 1 = 4 by omega, e1, Option.bind_some]
      exact e2
    · rw [q2 i i0 i1, J3]
      by_cases c : 3496 ≤ i
      · rw [if_pos (by omega), if_pos c]; rfl
      · rw [if_neg (by omega), if_neg c, if_neg (by omega)]
  | succ m ih =>
    intro k h C H j5 k0' k1 hm
    obtain ⟨h1, e1, E1, f1⟩ := H.w 1 (i := k) (a := b + 2) (C 1 (k + 874).toNat) rfl (by omega) (by omega) (by rw [tn_ln1]; omega)
    obtain ⟨h2, P', e2, E2, q2, f2⟩ := ih (k + 1) h1 _ E1 j5 (by omega) (by omega) (by omega)
    have lp : tm_lI h 0 (b + 2) (k + 874) = some (C 1 (k + 874).toNat) := H.l 1 rfl (by omega) (by omega) (by rw [tn_ln1]; omega)
    refine ⟨h2, P', ?_, ?_, fun i i0 i1 => ?_, f1.tr f2⟩
    · rw [fX9_saves_L10_eq, if_pos (by omega), H.g.2.1, Option.bind_some, Option.bind_some, tm_wr_id (z := k + 874) (by omega) (by omega), lp, Option.bind_some, show tm_wI h 0 (b + 2) k (C 1 (k + 874).toNat) = some h1 from e1, Option.bind_some, tm_wr_id (by omega) (by omega)]
      exact e2
    · have : (fun j => if j = 1 then P' else tn_up2 C 1 k.toNat (C 1 (k + 874).toNat) j) = fun j => if j = 1 then P' else C j := by
        funext j
        by_cases c : j = 1
        · rw [if_pos c, if_pos c]
        · rw [if_neg c, if_neg c, tn_up2_ne c]
      rw [← this]; exact E2
    · rw [q2 i i0 i1, tn_up2_ne (show k0 ≠ 1 by omega), tn_up2_eq, tm_up_app, tm_up_app]
      by_cases c1 : 3496 ≤ i
      · rw [if_pos c1, if_pos c1]
      · rw [if_neg c1, if_neg c1]
        by_cases c2 : i = k
        · rw [if_neg (by omega), if_pos (by omega), if_pos (by omega), c2]
        · by_cases c3 : k ≤ i
          · rw [if_pos (by omega), if_neg (by omega), if_pos c3]
          · rw [if_neg (by omega), if_neg (by omega), if_neg c3]
/-- the row r is saved -/
theorem tx9_saves (H : tn_E h b C J) {r : Nat} {k0 : Nat} (hr : r = b + 1 + k0) (hk0 : k0 = 0 ∨ k0 = 2) (j0 : 0 ≤ J 3 ∧ J 3 ≤ 5) : ∃ h' P', fX9_saves b r h = some h' ∧ tn_E h' b (fun j => if j = 1 then P' else C j) (tm_up J 3 (tn_hz (J 3))) ∧ (∀ i k : Int, 0 ≤ i → i < tn_hz (J 3) → 0 ≤ k → k < 874 → P' (874 * i + k).toNat = if J 3 < 5 then (if i = J 3 then C k0 k.toNat else C 1 (874 * i + k).toNat) else (if i = 4 then C k0 k.toNat else C 1 (874 * (i + 1) + k).toNat)) ∧ tn_fr b (b + 11) h h' := by
  unfold tn_hz
  simp only [fX9_saves, tn_th H.1, H.j.1, Option.bind_some]
  by_cases c : J 3 = 5
  · obtain ⟨h1, P', e1, E1, q1, f1⟩ := tx9_sh_l hr hk0 _ 0 h C H c (by omega) (by omega) rfl
    refine ⟨h1, P', by rw [if_pos c]; exact e1, ?_, fun i k i0 i1 k0' k1 => ?_, f1⟩
    · rw [if_neg (by omega)]
      have : tm_up (tm_up J 3 4) 3 5 = tm_up J 3 5 := by
        funext j
        rw [tm_up_app, tm_up_app, tm_up_app]
        split <;> rfl
      rw [← this]; exact E1
    · rw [if_neg (by omega)] at i1
      rw [q1 _ (by omega) (by omega), if_neg (show ¬ J 3 < 5 by omega)]
      by_cases d : i = 4
      · rw [if_pos (by omega), if_pos d, show (874 * i + k - 3496).toNat = k.toNat by omega]
      · rw [if_neg (by omega), if_pos (by omega), if_neg d, show 874 * i + k + 874 = 874 * (i + 1) + k by omega]
  · obtain ⟨h1, P', e1, E1, q1, f1⟩ := tx9_sv_l hr hk0 _ 0 h C H j0.1 (by omega) (by omega) (by omega) rfl
    refine ⟨h1, P', by rw [if_neg c]; exact e1, by rw [if_pos (by omega)]; exact E1, fun i k i0 i1 k0' k1 => ?_, f1⟩
    rw [if_pos (by omega)] at i1
    rw [q1 _ (by omega) (by omega), if_pos (show J 3 < 5 by omega)]
    by_cases d : i = J 3
    · rw [if_pos (by omega), if_pos d, show (874 * i + k - 874 * J 3).toNat = k.toNat by omega]
    · rw [if_neg (by omega), if_neg d]
theorem tx9_un_l : ∀ (m : Nat) (k : Int) (h : tm_H) (C : Nat → Nat → Int), tn_E h b C J → 0 ≤ J 3 → J 3 < 5 → 0 ≤ k → k ≤ 874 → (874 - k).toNat = m → ∃ h' N', fX9_undo_L22 b k h = some (J 3, h') ∧ tn_E h' b (fun j => if j = 0 then N' else C j) J ∧ (∀ i : Int, 0 ≤ i → i < 874 → N' i.toNat = if k ≤ i then C 1 (874 * J 3 + i).toNat else C 0 i.toNat) ∧ tn_fr b (b + 11) h h' := by
  intro m
  induction m with
  | zero =>
    intro k h C H j0 j1 k0' k1 hm
    refine ⟨h, C 0, ?_, ?_, fun i i0 i1 => by rw [if_neg (by omega)], tn_fr.rf⟩
    · rw [fX9_undo_L22_eq, if_neg (by omega), H.j.1, Option.bind_some]
    · have : (fun j => if j = 0 then C 0 else C j) = C := by
        funext j
        by_cases c : j = 0
        · rw [if_pos c, c]
        · rw [if_neg c]
      rw [this]; exact H
  | succ m ih =>
    intro k h C H j0 j1 k0' k1 hm
    have lp : tm_lI h 0 (b + 2) (874 * J 3 + k) = some (C 1 (874 * J 3 + k).toNat) := H.l 1 rfl (by omega) (by omega) (by rw [tn_ln1]; omega)
    obtain ⟨h1, e1, E1, f1⟩ := H.w0 (i := k) (C 1 (874 * J 3 + k).toNat) (by omega) (by omega)
    obtain ⟨h2, N', e2, E2, q2, f2⟩ := ih (k + 1) h1 _ E1 j0 j1 (by omega) (by omega) (by omega)
    refine ⟨h2, N', ?_, ?_, fun i i0 i1 => ?_, f1.tr f2⟩
    · rw [fX9_undo_L22_eq, if_pos (by omega), H.g.1, Option.bind_some, H.g.2.1, Option.bind_some, H.j.1, Option.bind_some, tm_wr_id (z := 874 * J 3) (by omega) (by omega), tm_wr_id (z := 874 * J 3 + k) (by omega) (by omega), lp, Option.bind_some, e1, Option.bind_some, tm_wr_id (by omega) (by omega)]
      exact e2
    · have : (fun j => if j = 0 then N' else tn_up2 C 0 k.toNat (C 1 (874 * J 3 + k).toNat) j) = fun j => if j = 0 then N' else C j := by
        funext j
        by_cases c : j = 0
        · rw [if_pos c, if_pos c]
        · rw [if_neg c, if_neg c, tn_up2_ne c]
      rw [← this]; exact E2
    · rw [q2 i i0 i1, tn_up2_ne (show 1 ≠ 0 by omega), tn_up2_eq, tm_up_app]
      by_cases c1 : i = k
      · rw [if_neg (by omega), if_pos (by omega), if_pos (by omega), c1]
      · by_cases c2 : k ≤ i
        · rw [if_pos (by omega), if_pos c2]
        · rw [if_neg (by omega), if_neg (by omega), if_neg c2]
theorem tx9_undo (H : tn_E h b C J) (j0 : 0 ≤ J 3 ∧ J 3 ≤ 5) : (J 3 = 0 → fX9_undo b h = some (-2, h)) ∧ (J 3 ≠ 0 → ∃ h' N', fX9_undo b h = some (J 3 - 1, h') ∧ tn_E h' b (fun j => if j = 0 then N' else C j) (tm_up J 3 (J 3 - 1)) ∧ (∀ i : Int, 0 ≤ i → i < 874 → N' i.toNat = C 1 (874 * (J 3 - 1) + i).toNat) ∧ tn_fr b (b + 11) h h') := by
  simp only [fX9_undo, tn_th H.1, H.j.1, Option.bind_some]
  refine ⟨fun c => by rw [if_pos c], fun c => ?_⟩
  obtain ⟨h1, e1, E1, f1⟩ := H.s 3 (J 3 - 1) (by omega)
  have J3 : tm_up J 3 (J 3 - 1) 3 = J 3 - 1 := tm_up_self _ _ _
  obtain ⟨h2, N', e2, E2, q2, f2⟩ := tx9_un_l _ 0 h1 C E1 (by rw [J3]; omega) (by rw [J3]; omega) (by omega) (by omega) rfl
  rw [J3] at e2 q2
  refine ⟨h2, N', ?_, E2, fun i i0 i1 => by rw [q2 i i0 i1, if_pos i0], f1.tr f2⟩
  rw [if_neg c, tm_wr_id (by omega) (by omega), e1, Option.bind_some]
  exact e2
end REG
