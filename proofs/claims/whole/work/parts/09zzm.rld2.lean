/-! the reference reads a text: words -/
/-- while a text is read: P, A, X and the first letters stay, the row means s -/
def tn_Z (h : tm_H) (b : Nat) (P A X L0 : Nat → Int) (n0 j3 l : Int) (s : tn_St) (C : Nat → Nat → Int) (J : Nat → Int) : Prop :=
  tn_E h b C J ∧ (C 1 = P ∧ C 2 = A ∧ C 3 = X ∧ J 3 = j3 ∧ J 5 = l) ∧ (∀ i : Int, 0 ≤ i → i < 8 * n0 → C 4 i.toNat = L0 i.toNat) ∧ tn_lt C ∧ tn_sim (tn_row (C 0) (C 4)) s ∧ tn_ok s ∧ n0 ≤ tn_n s ∧ tn_nT s ≤ 12
/-- what is left when an error is found at f -/
def tn_Zf (h : tm_H) (b : Nat) (P A X L0 : Nat → Int) (n0 j3 l f : Int) : Prop := ∃ (C : Nat → Nat → Int) (J : Nat → Int), tn_E h b C J ∧ (C 1 = P ∧ C 2 = A ∧ C 3 = X ∧ J 3 = j3 ∧ J 5 = l) ∧ (∀ i : Int, 0 ≤ i → i < 8 * n0 → C 4 i.toNat = L0 i.toNat) ∧ tn_lt C ∧ J 11 = f
section RHB
variable {h : tm_H} {b : Nat} {C : Nat → Nat → Int} {J : Nat → Int} {l : Int} {x : Int → Int} {P A X L0 : Nat → Int} {n0 j3 : Int} {s : tn_St}
theorem tn_Z.f (Z : tn_Z h b P A X L0 n0 j3 l s C J) : tn_Zf h b P A X L0 n0 j3 l (J 11) := ⟨C, J, Z.1, Z.2.1, Z.2.2.1, Z.2.2.2.1, rfl⟩
theorem tn_Z.okC (Z : tn_Z h b P A X L0 n0 j3 l s C J) : tn_ok (tn_row (C 0) (C 4)) := Z.2.2.2.2.2.1.sim Z.2.2.2.2.1
theorem tn_Z.hnC (Z : tn_Z h b P A X L0 n0 j3 l s C J) : C 0 307 ≤ 12 := by
  have e : C 0 307 = tn_nT s := Z.2.2.2.2.1.2.2.2.1
  rw [e]; exact Z.2.2.2.2.2.2.2
theorem tn_Z.n (Z : tn_Z h b P A X L0 n0 j3 l s C J) : C 0 0 = tn_n s := Z.2.2.2.2.1.1
theorem tn_Z.xx (Z : tn_Z h b P A X L0 n0 j3 l s C J) (hx : tn_xx l x X) : tn_xx l x (C 3) := by
  rw [Z.2.1.2.2.1]; exact hx
theorem tn_Z.j5 (Z : tn_Z h b P A X L0 n0 j3 l s C J) : J 5 = l := Z.2.1.2.2.2.2
/-- a token, words and their number are others -/
theorem tn_Z.tj {h' : tm_H} {J' : Nat → Int} (Z : tn_Z h b P A X L0 n0 j3 l s C J) (E : tn_E h' b C J') (j3' : J' 3 = J 3) (j5' : J' 5 = J 5) : tn_Z h' b P A X L0 n0 j3 l s C J' :=
  ⟨E, ⟨Z.2.1.1, Z.2.1.2.1, Z.2.1.2.2.1, j3'.trans Z.2.1.2.2.2.1, j5'.trans Z.2.1.2.2.2.2⟩, Z.2.2⟩
/-- an array that is not told of here is another -/
theorem tn_Z.rk {h' : tm_H} {k : Nat} {F : Nat → Int} (Z : tn_Z h b P A X L0 n0 j3 l s C J) (E : tn_E h' b (tn_rk C k F) J) (hk : 5 ≤ k) : tn_Z h' b P A X L0 n0 j3 l s (tn_rk C k F) J := by
  have e : ∀ j : Nat, j < 5 → tn_rk C k F j = C j := fun j hj => tn_rk_ne (by omega)
  refine ⟨E, ⟨(e 1 (by omega)).trans Z.2.1.1, (e 2 (by omega)).trans Z.2.1.2.1, (e 3 (by omega)).trans Z.2.1.2.2.1, Z.2.1.2.2.2⟩, ?_, ?_, ?_, Z.2.2.2.2.2⟩
  · rw [e 4 (by omega)]; exact Z.2.2.1
  · intro i i0 i1
    rw [e 4 (by omega)]; exact Z.2.2.2.1 i i0 i1
  · rw [e 0 (by omega), e 4 (by omega)]; exact Z.2.2.2.2.1
theorem tx9_lk_l (H : tn_E h b C J) (hx : tn_xx l x (C 3)) {w : Int} (hw : 0 ≤ w ∧ w < 60) (s0 : 0 ≤ J 11) (s1 : J 11 ≤ J 12) (s2 : J 12 ≤ l) : ∀ (m : Nat) (k : Int) (v : Prop), 0 ≤ k → k ≤ 8 → (8 - k).toNat = m → fX9_isLike_L4 b w h (tn_b v) k = some (tn_b (v ∧ ∀ i : Int, k ≤ i → i < 8 → C 4 (8 * w + i).toNat = if i < J 12 - J 11 then x (J 11 + i) else 0)) := by
  have l1 := hx.2.1
  intro m
  induction m with
  | zero =>
    intro k v k0 k1 hm
    rw [fX9_isLike_L4_eq, if_neg (by omega), tn_zr, Option.bind_some]
    exact congrArg some (tn_bc ⟨fun y => ⟨y, fun i i0 i1 => by omega⟩, fun y => y.1⟩)
  | succ m ih =>
    intro k v k0 k1 hm
    have q0 := ih (k + 1) False (by omega) (by omega) (by omega)
    rw [tn_b0 (fun y => y)] at q0
    have q1 := ih (k + 1) True (by omega) (by omega) (by omega)
    rw [tn_b1 trivial] at q1
    rw [fX9_isLike_L4_eq, if_pos (by omega)]
    by_cases c : v
    · have l53 : ∀ u : Int, u = (if k < J 12 - J 11 then x (J 11 + k) else 0) → fX9_isLike_L53 b w h k (C 4 (8 * w + k).toNat) u = some (tn_b (v ∧ ∀ i : Int, k ≤ i → i < 8 → C 4 (8 * w + i).toNat = if i < J 12 - J 11 then x (J 11 + i) else 0)) := fun u hu => by
        rw [fX9_isLike_L53_eq, fX9_isLike_L61_eq, fX9_isLike_L61_eq, tm_wr_id (z := k + 1) (by omega) (by omega), q0, q1]
        by_cases d : C 4 (8 * w + k).toNat = u
        · rw [if_pos d]
          refine congrArg some (tn_bc ⟨fun y => ⟨c, fun i i0 i1 => ?_⟩, fun y => ⟨trivial, fun i i0 i1 => y.2 i (by omega) i1⟩⟩)
          by_cases e : i = k
          · rw [e, d, hu]
          · exact y.2 i (by omega) i1
        · rw [if_neg d, tn_b0 (fun y => y.1), tn_b0]
          intro y
          exact d ((y.2 k (by omega) (by omega)).trans hu.symm)
      rw [tn_b1 c, if_neg (by omega), H.g9.2.1, Option.bind_some, tm_wr_id (z := 8 * w) (by omega) (by omega), tm_wr_id (z := 8 * w + k) (by omega) (by omega), H.l4 (by omega) (by omega), Option.bind_some, H.j.2.2.1, Option.bind_some, H.j.2.2.2.1, Option.bind_some, tm_wr_id (z := J 11 + k) (by omega) (by omega)]
      by_cases d : J 11 + k < J 12
      · rw [if_pos d, H.g9.1, Option.bind_some, Option.bind_some, tm_wr_id (z := J 11 + k) (by omega) (by omega), H.l3 (by omega) (by omega), Option.bind_some, (hx.2.2 _ (by omega) (by omega)).1]
        exact l53 _ (by rw [if_pos (by omega)])
      · rw [if_neg d]
        exact l53 _ (by rw [if_neg (by omega)])
    · rw [tn_b0 c, if_pos rfl, show tm_zr 0 = some 0 from rfl, Option.bind_some, tn_b0 (fun y => c y.1)]
/-- the letters of a word that is read -/
theorem tn_spl_8 {n : Int} (hn : 0 ≤ n ∧ n ≤ 8) (st : Int) : tn_spl (fun i => if i < n then x (st + i) else 0) 0 8 = tn_spl x st n.toNat := by
  have := tn_spl_0 x st (n := n.toNat) 8 (by omega) (by omega)
  rw [Int.toNat_of_nonneg hn.1] at this
  exact this
theorem tx9_isLike (H : tn_E h b C J) (hx : tn_xx l x (C 3)) (lt : tn_lt C) {w : Int} (hw : 0 ≤ w ∧ w < 60) (s0 : 0 ≤ J 11) (s1 : J 11 ≤ J 12) (s2 : J 12 ≤ l) (s3 : J 12 - J 11 ≤ 8) : fX9_isLike b w h = some (tn_b (tn_sl (C 4) w = tn_spl x (J 11) (J 12 - J 11).toNat)) := by
  have q := tx9_lk_l H hx hw s0 s1 s2 _ 0 True (by omega) (by omega) rfl
  rw [tn_b1 trivial] at q
  simp only [fX9_isLike, tn_th H.1]
  rw [q]
  refine congrArg some (tn_bc ?_)
  unfold tn_sl
  rw [← tn_spl_8 ⟨by omega, s3⟩, tn_spl_eq (fun k k0 k1 => lt _ (by omega) (by omega)) (fun k k0 k1 => by
    by_cases c : k < J 12 - J 11
    · rw [if_pos c]
      have := hx.2.2 (J 11 + k) (by omega) (by omega)
      omega
    · rw [if_neg c]; omega)]
  exact ⟨fun y => y.2, fun y => ⟨trivial, y⟩⟩
theorem tx9_wh_f (H : tn_E h b C J) (hx : tn_xx l x (C 3)) (lt : tn_lt C) (hn : C 0 0 ≤ 60) (s0 : 0 ≤ J 11) (s1 : J 11 ≤ J 12) (s2 : J 12 ≤ l) (s3 : J 12 - J 11 ≤ 8) : ∀ (m : Nat) (k : Int), 0 ≤ k → k ≤ C 0 0 → (∀ w : Int, 0 ≤ w → w < k → tn_sl (C 4) w ≠ tn_spl x (J 11) (J 12 - J 11).toNat) → (C 0 0 - k).toNat = m → ∃ r, tn_ff (C 0 0) (fun w => tn_sl (C 4) w = tn_spl x (J 11) (J 12 - J 11).toNat) r ∧ (r ≠ -99 → fX9_wordHere_L26 b k h = some (r, h)) ∧ (r = -99 → fX9_wordHere_L26 b k h = if C 0 0 = 60 then some (-99, h) else fX9_wordHere_L75 b (C 0 0) 0 h) := by
  have l0 : tm_lI h 0 (b + 1) 0 = some (C 0 0) := H.l0 (by omega) (by omega)
  intro m
  induction m with
  | zero =>
    intro k k0 k1 ha hm
    refine ⟨-99, Or.inl ⟨rfl, fun w w0 w1 => ha w w0 (by omega)⟩, fun y => absurd rfl y, fun _ => ?_⟩
    rw [fX9_wordHere_L26_eq, H.g.1, Option.bind_some, l0, Option.bind_some, if_neg (by omega)]
    simp only [Option.bind_some, l0]
  | succ m ih =>
    intro k k0 k1 ha hm
    rw [fX9_wordHere_L26_eq, H.g.1, Option.bind_some, l0, Option.bind_some, if_pos (by omega), tx9_isLike H hx lt ⟨k0, by omega⟩ s0 s1 s2 s3, Option.bind_some, tm_wr_id (by omega) (by omega)]
    by_cases c : tn_sl (C 4) k = tn_spl x (J 11) (J 12 - J 11).toNat
    · rw [tn_b1 c, if_neg (by omega)]
      exact ⟨k, Or.inr ⟨k0, by omega, c, ha⟩, fun _ => rfl, fun y => by omega⟩
    · rw [tn_b0 c, if_pos rfl]
      exact ih (k + 1) (by omega) (by omega) (fun w w0 w1 => by
        by_cases e : w = k
        · rw [e]; exact c
        · exact ha w w0 (by omega)) (by omega)
theorem tx9_wh_w (hx : tn_xx l x X) {w : Int} (hw : 0 ≤ w ∧ w < 60) (s0 : 0 ≤ J 11) (s1 : J 11 ≤ J 12) (s2 : J 12 ≤ l) : ∀ (m : Nat) (k : Int) (h : tm_H) (C : Nat → Nat → Int), tn_E h b C J → C 3 = X → 0 ≤ k → k ≤ 8 → (8 - k).toNat = m → ∃ h' L', fX9_wordHere_L75 b w k h = fX9_wordHere_L75 b w 8 h' ∧ tn_E h' b (tn_rk C 4 L') J ∧ (∀ i : Int, 0 ≤ i → L' i.toNat = if 8 * w + k ≤ i ∧ i < 8 * w + 8 then (if i - 8 * w < J 12 - J 11 then x (J 11 + (i - 8 * w)) else 0) else C 4 i.toNat) ∧ tn_fr b (b + 11) h h' := by
  have l1 := hx.2.1
  intro m
  induction m with
  | zero =>
    intro k h C H h3 k0 k1 hm
    exact ⟨h, C 4, by rw [show k = 8 by omega], by rw [tn_rk_self]; exact H, fun i i0 => by rw [if_neg (by omega)], tn_fr.rf⟩
  | succ m ih =>
    intro k h C H h3 k0 k1 hm
    obtain ⟨h1, e1, E1, f1⟩ := H.w4 (i := 8 * w + k) (if k < J 12 - J 11 then x (J 11 + k) else 0) (by omega) (by omega)
    obtain ⟨h2, L', e2, E2, q2, f2⟩ := ih (k + 1) h1 _ E1 ((tn_up2_ne (by omega)).trans h3) (by omega) (by omega) (by omega)
    rw [tn_up2_rk, tn_rk_rk] at E2
    have l119 : ∀ v : Int, v = (if k < J 12 - J 11 then x (J 11 + k) else 0) → fX9_wordHere_L119 b w k (b + 5) (8 * w + k) v h = fX9_wordHere_L75 b w 8 h2 := fun v hv => by
      rw [fX9_wordHere_L119_eq, hv, e1, Option.bind_some, tm_wr_id (by omega) (by omega)]
      exact e2
    refine ⟨h2, L', ?_, E2, fun i i0 => ?_, f1.tr f2⟩
    · rw [fX9_wordHere_L75_eq, if_pos (by omega), H.g9.2.1, Option.bind_some, H.j.2.2.1, Option.bind_some, H.j.2.2.2.1, Option.bind_some, tm_wr_id (z := J 11 + k) (by omega) (by omega), tm_wr_id (z := 8 * w) (by omega) (by omega), tm_wr_id (z := 8 * w + k) (by omega) (by omega)]
      by_cases d : J 11 + k < J 12
      · rw [if_pos d, H.g9.1, Option.bind_some, Option.bind_some, tm_wr_id (z := J 11 + k) (by omega) (by omega), H.l3 (by omega) (by omega), Option.bind_some, h3, (hx.2.2 _ (by omega) (by omega)).1]
        exact l119 _ (by rw [if_pos (by omega)])
      · rw [if_neg d]
        exact l119 _ (by rw [if_neg (by omega)])
    · rw [q2 i i0, tn_up2_eq, tn_upr (by omega) i0]
      by_cases c : i = 8 * w + k
      · rw [if_neg (by omega), if_pos c, if_pos (show 8 * w + k ≤ i ∧ i < 8 * w + 8 by omega), show i - 8 * w = k by omega]
      · by_cases d : 8 * w + k ≤ i ∧ i < 8 * w + 8
        · rw [if_pos (by omega), if_pos d]
        · rw [if_neg (by omega), if_neg c, if_neg d]
/-- a word more -/
theorem tn_sim_ad {N Lt N' L' : Nat → Int} {st n : Int} (e : tn_sim (tn_row N Lt) s) (ok : tn_ok s) (hn : tn_n s < 60) (hl : 0 ≤ n ∧ n ≤ 8) (qN : ∀ i : Int, 0 ≤ i → N' i.toNat = if i = 0 then tn_n s + 1 else if i = 1 + tn_n s then tn_n s else N i.toNat) (qL : ∀ i : Int, 0 ≤ i → L' i.toNat = if 8 * tn_n s ≤ i ∧ i < 8 * tn_n s + 8 then (if i - 8 * tn_n s < n then x (st + (i - 8 * tn_n s)) else 0) else Lt i.toNat) : tn_sim (tn_row N' L') (tn_ad s (tn_spl x st n.toNat)) := by
  obtain ⟨e1, e2, e3, e4, e5, e6⟩ := e
  have n26 := ok.1
  have off : ∀ i : Int, 61 ≤ i → N' i.toNat = N i.toNat := fun i i0 => by rw [qN i (by omega), if_neg (by omega), if_neg (by omega)]
  refine ⟨?_, fun w w0 w1 => ⟨?_, ?_⟩, fun c c0 c1 => ⟨(off _ (by omega)).trans (e3 c c0 c1).1, fun p p0 p1 => (off _ (by omega)).trans ((e3 c c0 c1).2 p p0 p1)⟩, (off 307 (by omega)).trans e4, fun u u0 u1 => ⟨(off _ (by omega)).trans (e5 u u0 u1).1, (off _ (by omega)).trans (e5 u u0 u1).2.1, fun k k0 k1 => (off _ (by omega)).trans ((e5 u u0 u1).2.2 k k0 k1)⟩, fun z z0 z1 => ⟨(off _ (by omega)).trans (e6 z z0 z1).1, fun tk c c0 c1 => ⟨(off _ (by omega)).trans ((e6 z z0 z1).2 tk c c0 c1).1, fun p p0 p1 => (off _ (by omega)).trans (((e6 z z0 z1).2 tk c c0 c1).2 p p0 p1)⟩⟩⟩
  · have := qN 0 (by omega)
    rw [if_pos rfl] at this
    exact this
  · have w1' : w < tn_n s + 1 := w1
    show N' (1 + w).toNat = if w = tn_n s then tn_n s else tn_bs s w
    rw [qN _ (by omega), if_neg (by omega)]
    by_cases c : w = tn_n s
    · rw [if_pos (by omega), if_pos c]
    · rw [if_neg (by omega), if_neg c]
      exact (e2 w w0 (by omega)).1
  · have w1' : w < tn_n s + 1 := w1
    show tn_sl L' w = if w = tn_n s then tn_spl x st n.toNat else tn_sp s w
    unfold tn_sl
    by_cases c : w = tn_n s
    · rw [if_pos c, ← tn_spl_8 hl st]
      refine tn_spl_cg (fun k hk => ?_)
      rw [Int.zero_add, qL _ (by omega), if_pos (by omega), show 8 * w + (k : Int) - 8 * tn_n s = k by omega]
    · rw [if_neg c]
      refine Eq.trans (tn_spl_cg (fun k hk => ?_)) (e2 w w0 (by omega)).2
      rw [Int.zero_add, qL _ (by omega), if_neg (by omega)]
theorem tx9_wordHere (Z : tn_Z h b P A X L0 n0 j3 l s C J) (hx : tn_xx l x X) (ps : tn_ps l x (J 11) (J 12)) : ∃ h' C', fX9_wordHere b h = some (tn_rw l x s (J 11) (J 12), h') ∧ tn_Z h' b P A X L0 n0 j3 l (if tn_rw l x s (J 11) (J 12) = -99 then s else tn_rs x s (J 11) (J 12)) C' J ∧ C' 9 = C 9 ∧ tn_fr b (b + 11) h h' := by
  have hx3 := Z.xx hx
  have en := ps.en
  have s0 := ps.1
  have l1 := hx.2.1
  have ok := Z.2.2.2.2.2.1
  simp only [fX9_wordHere, tn_th Z.1.1, tx9_isRun Z.1 hx3 Z.j5 ps, Z.1.j.2.2.1, Z.1.j.2.2.2.1, Option.bind_some]
  rw [tm_wr_id (by omega) (by omega)]
  by_cases c1 : tn_isl (tn_ch l x (J 11))
  · rw [tn_b1 c1, if_neg (by omega)]
    by_cases c2 : 8 < J 12 - J 11
    · have rw0 : tn_rw l x s (J 11) (J 12) = -99 := by unfold tn_rw; rw [if_neg (fun k => by omega)]
      rw [if_pos c2, rw0, if_pos rfl]
      exact ⟨h, C, rfl, Z, rfl, tn_fr.rf⟩
    · have rw1 : tn_rw l x s (J 11) (J 12) = tn_wn s (tn_spl x (J 11) (J 12 - J 11).toNat) := by unfold tn_rw; rw [if_pos ⟨c1, by omega⟩]
      obtain ⟨r, l2, k1, k2⟩ := tx9_wh_f Z.1 hx3 Z.2.2.2.1 (show C 0 0 ≤ 60 by rw [Z.n]; exact ok.2.1) s0 en.1 en.2.1 (by omega) _ 0 (by omega) (show 0 ≤ C 0 0 by rw [Z.n]; have := ok.1; omega) (fun w w0 w1 => by omega) rfl
      have fd : tn_fd s (tn_spl x (J 11) (J 12 - J 11).toNat) = r := by
        refine tn_fd_eq ?_
        rw [Z.n] at l2
        refine l2.cg (fun w w0 w1 => ?_)
        have := (Z.2.2.2.2.1.2.1 w w0 w1).2
        have e : tn_sp (tn_row (C 0) (C 4)) w = tn_sl (C 4) w := rfl
        rw [e] at this
        rw [this]
      rw [if_neg c2, rw1]
      unfold tn_wn tn_rs tn_ws
      rw [fd]
      by_cases c3 : r = -99
      · have c3' : ¬ r ≠ -99 := fun y => y c3
        rw [if_neg c3', if_neg c3', k2 c3]
        by_cases c4 : C 0 0 = 60
        · have c5 : ¬ tn_n s < 60 := by rw [← Z.n]; omega
          rw [if_pos c4, if_neg c5, if_neg c5, if_pos rfl]
          exact ⟨h, C, rfl, Z, rfl, tn_fr.rf⟩
        · have n26 := ok.1
          have n60 := ok.2.1
          have nn := Z.n
          have c5 : tn_n s < 60 := by omega
          obtain ⟨h1, L', e1, E1, q1, f1⟩ := tx9_wh_w (b := b) (J := J) (w := C 0 0) hx (by omega) s0 en.1 en.2.1 _ 0 h C Z.1 Z.2.1.2.2.1 (by omega) (by omega) rfl
          obtain ⟨h2, e2, E2, f2⟩ := E1.w0 (i := 1 + C 0 0) (C 0 0) (by omega) (by omega)
          obtain ⟨h3, e3, E3, f3⟩ := E2.w0 (i := 0) (C 0 0 + 1) (by omega) (by omega)
          have r0 : tn_up2 (tn_rk C 4 L') 0 (1 + C 0 0).toNat (C 0 0) 0 (Int.toNat 0) = C 0 0 := by
            rw [tn_up2_eq, tn_upr (by omega) (by omega), if_neg (by omega)]; rfl
          have sm : tn_sim (tn_row (tm_up (tm_up (C 0) (1 + C 0 0).toNat (C 0 0)) (Int.toNat 0) (C 0 0 + 1)) L') (tn_ad s (tn_spl x (J 11) (J 12 - J 11).toNat)) := by
            refine tn_sim_ad (n := J 12 - J 11) Z.2.2.2.2.1 ok c5 (by omega) (fun i i0 => ?_) (fun i i0 => ?_)
            · rw [tn_upr (by omega) i0, tn_upr (by omega) i0, nn]
            · have := q1 i i0
              rw [nn, Int.add_zero] at this
              exact this
          refine ⟨h3, tn_up2 (tn_up2 (tn_rk C 4 L') 0 (1 + C 0 0).toNat (C 0 0)) 0 (Int.toNat 0) (C 0 0 + 1), ?_, ?_, rfl, (f1.tr f2).tr f3⟩
          · rw [if_neg c4, if_pos c5, e1, fX9_wordHere_L75_eq, if_neg (by omega), E1.g.1, Option.bind_some, tm_wr_id (z := 1 + C 0 0) (by omega) (by omega), e2, Option.bind_some, E2.g.1, Option.bind_some, E2.l0 (by omega) (by omega), Option.bind_some, r0, tm_wr_id (z := C 0 0 + 1) (by omega) (by omega), e3, Option.bind_some, nn]
          · rw [if_pos c5, if_neg (show ¬ tn_n s = -99 by omega), if_pos c5]
            refine ⟨E3, ⟨Z.2.1.1, Z.2.1.2.1, Z.2.1.2.2.1, Z.2.1.2.2.2⟩, fun i i0 i1 => ?_, fun i i0 i1 => ?_, sm, ok.ad _ c5, ?_, Z.2.2.2.2.2.2.2⟩
            · have n0n := Z.2.2.2.2.2.2.1
              show L' i.toNat = L0 i.toNat
              rw [q1 i i0, if_neg (by omega)]
              exact Z.2.2.1 i i0 i1
            · show 0 ≤ L' i.toNat ∧ L' i.toNat < 256
              rw [q1 i i0]
              by_cases k : 8 * C 0 0 + 0 ≤ i ∧ i < 8 * C 0 0 + 8
              · rw [if_pos k]
                by_cases k' : i - 8 * C 0 0 < J 12 - J 11
                · rw [if_pos k']
                  have := hx.2.2 (J 11 + (i - 8 * C 0 0)) (by omega) (by omega)
                  omega
                · rw [if_neg k']; omega
              · rw [if_neg k]
                exact Z.2.2.2.1 i i0 i1
            · have n0n := Z.2.2.2.2.2.2.1
              show n0 ≤ tn_n s + 1
              omega
      · have c3' : r ≠ -99 := c3
        rw [if_pos c3', if_pos c3', if_neg c3, k1 c3]
        exact ⟨h, C, rfl, Z, rfl, tn_fr.rf⟩
  · have rw0 : tn_rw l x s (J 11) (J 12) = -99 := by unfold tn_rw; rw [if_neg (fun k => c1 k.1)]
    rw [tn_b0 c1, if_pos rfl, rw0, if_pos rfl]
    exact ⟨h, C, rfl, Z, rfl, tn_fr.rf⟩
end RHB
