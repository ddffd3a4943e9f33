/-! the reference reads a text: all of it; the reference begins -/
/-- what stands when a text was read -/
def tn_pr (h : tm_H) (b : Nat) (P A X L0 : Nat → Int) (n0 j3 l v : Int) : Int ⊕ (Int × tn_St) → Prop
  | .inl f => v = -1000 - f ∧ ∃ (C' : Nat → Nat → Int) (J' : Nat → Int), tn_E h b C' J' ∧ C' 1 = P ∧ C' 3 = X ∧ J' 3 = j3 ∧ J' 5 = l ∧ (∀ i : Int, 0 ≤ i → i < 8 * n0 → C' 4 i.toNat = L0 i.toNat) ∧ tn_lt C' ∧ ∀ i : Int, 0 ≤ i → i < 874 → C' 0 i.toNat = A i.toNat
  | .inr (i', s') => v = i' ∧ ∃ (C' : Nat → Nat → Int) (J' : Nat → Int), tn_E h b C' J' ∧ C' 3 = X ∧ J' 3 = tn_hz j3 ∧ J' 5 = 0 ∧ (∀ i : Int, 0 ≤ i → i < 8 * n0 → C' 4 i.toNat = L0 i.toNat) ∧ tn_lt C' ∧ (∀ i k : Int, 0 ≤ i → i < tn_hz j3 → 0 ≤ k → k < 874 → C' 1 (874 * i + k).toNat = if j3 < 5 then (if i = j3 then A k.toNat else P (874 * i + k).toNat) else (if i = 4 then A k.toNat else P (874 * (i + 1) + k).toNat)) ∧ tn_sim (tn_row (C' 0) (C' 4)) s' ∧ tn_ok s' ∧ n0 ≤ tn_n s' ∧ tn_nT s' ≤ 12
section RHE
variable {h : tm_H} {b : Nat} {C : Nat → Nat → Int} {J : Nat → Int} {l : Int} {x : Int → Int} {P A X L0 : Nat → Int} {n0 j3 : Int} {s : tn_St}
theorem tn_E.w2 (H : tn_E h b C J) {i : Int} (v : Int) (i0 : 0 ≤ i) (i1 : i < 874) : ∃ h', tm_wI h 0 (b + 3) i v = some h' ∧ tn_E h' b (tn_up2 C 2 i.toNat v) J ∧ tn_fr b (b + 11) h h' := H.w 2 v rfl (by omega) i0 i1
theorem tn_E.l2 (H : tn_E h b C J) {i : Int} (i0 : 0 ≤ i) (i1 : i < 874) : tm_lI h 0 (b + 3) i = some (C 2 i.toNat) := H.l 2 rfl (by omega) i0 i1
theorem tx9_lb_l : ∀ (m : Nat) (k : Int) (h : tm_H) (C : Nat → Nat → Int), tn_E h b C J → 0 ≤ k → k ≤ 874 → (874 - k).toNat = m → ∃ h' N', fX9_load_L145 b k h = some (tm_wr (-1000 - J 11), h') ∧ tn_E h' b (tn_rk C 0 N') J ∧ (∀ i : Int, 0 ≤ i → i < 874 → N' i.toNat = if k ≤ i then C 2 i.toNat else C 0 i.toNat) ∧ tn_fr b (b + 11) h h' := by
  intro m
  induction m with
  | zero =>
    intro k h C H k0 k1 hm
    refine ⟨h, C 0, ?_, by rw [tn_rk_self]; exact H, fun i i0 i1 => by rw [if_neg (by omega)], tn_fr.rf⟩
    rw [fX9_load_L145_eq, if_neg (by omega), H.j.2.2.1, Option.bind_some]
  | succ m ih =>
    intro k h C H k0 k1 hm
    obtain ⟨h1, e1, E1, f1⟩ := H.w0 (i := k) (C 2 k.toNat) (by omega) (by omega)
    obtain ⟨h2, N', e2, E2, q2, f2⟩ := ih (k + 1) h1 _ E1 (by omega) (by omega) (by omega)
    rw [tn_up2_rk, tn_rk_rk] at E2
    refine ⟨h2, N', ?_, E2, fun i i0 i1 => ?_, f1.tr f2⟩
    · rw [fX9_load_L145_eq, if_pos (by omega), H.g.1, Option.bind_some, H.g.2.2.1, Option.bind_some, H.l2 (by omega) (by omega), Option.bind_some, e1, Option.bind_some, tm_wr_id (by omega) (by omega)]
      exact e2
    · rw [q2 i i0 i1, tn_up2_ne (show 2 ≠ 0 by omega), tn_up2_eq, tn_upr (by omega) i0]
      by_cases y : i = k
      · rw [if_neg (by omega), if_pos y, if_pos (by omega), y]
      · by_cases z : k ≤ i
        · rw [if_pos (by omega), if_pos z]
        · rw [if_neg (by omega), if_neg y, if_neg z]
theorem tx9_ls_l : ∀ (m : Nat) (k : Int) (h : tm_H) (C : Nat → Nat → Int), tn_E h b C J → 0 ≤ k → k ≤ 874 → (874 - k).toNat = m → ∃ h' A', fX9_load_L2 b k h = fX9_load_L2 b 874 h' ∧ tn_E h' b (tn_rk C 2 A') J ∧ (∀ i : Int, 0 ≤ i → i < 874 → A' i.toNat = if k ≤ i then C 0 i.toNat else C 2 i.toNat) ∧ tn_fr b (b + 11) h h' := by
  intro m
  induction m with
  | zero =>
    intro k h C H k0 k1 hm
    exact ⟨h, C 2, by rw [show k = 874 by omega], by rw [tn_rk_self]; exact H, fun i i0 i1 => by rw [if_neg (by omega)], tn_fr.rf⟩
  | succ m ih =>
    intro k h C H k0 k1 hm
    obtain ⟨h1, e1, E1, f1⟩ := H.w2 (i := k) (C 0 k.toNat) (by omega) (by omega)
    obtain ⟨h2, N', e2, E2, q2, f2⟩ := ih (k + 1) h1 _ E1 (by omega) (by omega) (by omega)
    rw [tn_up2_rk, tn_rk_rk] at E2
    refine ⟨h2, N', ?_, E2, fun i i0 i1 => ?_, f1.tr f2⟩
    · rw [fX9_load_L2_eq, if_pos (by omega), H.g.2.2.1, Option.bind_some, H.g.1, Option.bind_some, H.l0 (by omega) (by omega), Option.bind_some, e1, Option.bind_some, tm_wr_id (by omega) (by omega)]
      exact e2
    · rw [q2 i i0 i1, tn_up2_ne (show 0 ≠ 2 by omega), tn_up2_eq, tn_upr (by omega) i0]
      by_cases y : i = k
      · rw [if_neg (by omega), if_pos y, if_pos (by omega), y]
      · by_cases z : k ≤ i
        · rw [if_pos (by omega), if_pos z]
        · rw [if_neg (by omega), if_neg y, if_neg z]
theorem tx9_ld_l (hx : tn_xx l x X) (hj : 0 ≤ j3 ∧ j3 ≤ 5) : ∀ (m : Nat) (s : tn_St) (i : Int) (h : tm_H) (C : Nat → Nat → Int) (J : Nat → Int), tn_Z h b P A X L0 n0 j3 l s C J → tn_ps l x (J 11) (J 12) → 0 ≤ i → i ≤ J 11 → l - J 11 < m → ∃ v h', fX9_load_L40 b i 1 h = some (v, h') ∧ tn_pr h' b P A X L0 n0 j3 l v (tn_ld l x m s (J 11) (J 12) i) ∧ tn_fr b (b + 11) h h' := by
  intro m
  induction m with
  | zero =>
    intro s i h C J Z ps i0 i1 hm
    have := ps.2.1
    omega
  | succ m ih =>
    intro s i h C J Z ps i0 i1 hm
    have ps1 := ps.2.1
    have l1 := hx.2.1
    have hx3 := Z.xx hx
    rw [fX9_load_L40_eq, if_neg (by omega), Z.1.j.2.2.1, Option.bind_some, Z.1.j.2.1, Option.bind_some, Z.j5]
    simp only [tn_ld]
    by_cases c : J 11 < l
    · have go := tn_it_go (x := x) Z.2.2.2.2.2.1 Z.2.2.2.2.2.2.2 ps c
      have nm0 := tx9_name0 Z.1 hx3 Z.j5 ps
      have nm1 := tx9_name4 Z.1 hx3 Z.j5 ps (a1 := 116) (a2 := 101) (a3 := 114) (a4 := 109) (f := tn_c1) rfl rfl rfl rfl (by omega) (by omega)
      have nm2 := tx9_name4 Z.1 hx3 Z.j5 ps (a1 := 102) (a2 := 111) (a3 := 114) (a4 := 109) (f := tn_c2) rfl rfl rfl rfl (by omega) (by omega)
      have fin : ∀ (v1 : Int) (h1 : tm_H), tn_Zr h1 b P A X L0 n0 j3 l x v1 (tn_it l x s (J 11) (J 12)) → tn_fr b (b + 11) h h1 → ∃ v h', fX9_load_L124 b i v1 h1 = some (v, h') ∧ tn_pr h' b P A X L0 n0 j3 l v (match tn_it l x s (J 11) (J 12) with
        | .inl f => .inl f
        | .inr (s', (st', en')) => tn_ld l x m s' st' en' (i + 1)) ∧ tn_fr b (b + 11) h h' := by
        intro v1 h1 Zr f1
        revert go Zr
        generalize tn_it l x s (J 11) (J 12) = r
        cases r with
        | inl f =>
          rintro ⟨go1, go2⟩ ⟨v0, C1, J1, E1, k1, k2, k3, k4⟩
          obtain ⟨h2, N', e2, E2, q2, f2⟩ := tx9_lb_l (b := b) (J := J1) _ 0 h1 C1 E1 (by omega) (by omega) rfl
          refine ⟨-1000 - f, h2, ?_, ⟨rfl, tn_rk C1 0 N', J1, E2, k1.1, k1.2.2.1, k1.2.2.2.1, k1.2.2.2.2, k2, k3, fun j j0 j1 => ?_⟩, f1.tr f2⟩
          · rw [fX9_load_L124_eq, v0, if_pos rfl, fX9_load_L40_eq, if_pos rfl]
            simp only [fX9_load_L139]
            rw [if_pos trivial, e2, k4, tm_wr_id (by omega) (by omega)]
          · rw [tn_rk_eq, q2 j j0 j1, if_pos j0, k1.2.1]
        | inr y =>
          obtain ⟨s', st', en'⟩ := y
          rintro ⟨go1, go2, go3, go4⟩ ⟨v0, C1, J1, Z1, k1, k2, k3, k4⟩
          obtain ⟨h2, J2, e2, Z2, j11, j12, j14, ps2, f2⟩ := Z1.token hx ⟨k1, k2⟩
          obtain ⟨v, h3, e3, P3, f3⟩ := ih s' (i + 1) h2 C1 J2 Z2 ps2 (by omega) (by omega) (by omega)
          rw [j11, j12] at P3
          refine ⟨v, h3, ?_, by dsimp only; rw [k4, k3]; exact P3, (f1.tr f2).tr f3⟩
          rw [fX9_load_L124_eq, v0, if_neg (by omega), e2, Option.bind_some, tm_wr_id (by omega) (by omega)]
          exact e3
      rw [if_pos c, if_pos c, nm0, Option.bind_some, nm1, Option.bind_some, nm2, Option.bind_some]
      unfold tn_it at fin
      by_cases n0 : tn_nm l x (J 11) (J 12) 2 tn_c0
      · rw [tn_b1 n0, if_neg (by omega)]
        unfold tn_it
        simp only [if_pos n0] at fin ⊢
        obtain ⟨v1, h1, e1, Zr, f1⟩ := tx9_takesChapter Z hx ps
        rw [e1, Option.bind_some]
        exact fin v1 h1 Zr f1
      · rw [tn_b0 n0, if_pos rfl]
        by_cases n1 : tn_nm l x (J 11) (J 12) 4 tn_c1
        · rw [tn_b1 n1, if_neg (by omega)]
          unfold tn_it
          simp only [if_neg n0, if_pos n1] at fin ⊢
          obtain ⟨v1, h1, e1, Zr, f1⟩ := tx9_takesTerm Z hx ps
          rw [e1, Option.bind_some]
          exact fin v1 h1 Zr f1
        · rw [tn_b0 n1, if_pos rfl]
          by_cases n2 : tn_nm l x (J 11) (J 12) 4 tn_c2
          · rw [tn_b1 n2, if_neg (by omega)]
            unfold tn_it
            simp only [if_neg n0, if_neg n1, if_pos n2] at fin ⊢
            obtain ⟨v1, h1, e1, Zr, f1⟩ := tx9_takesForm Z hx ps
            obtain ⟨v, h', e2, P2, f2⟩ := fin v1 h1 Zr f1
            refine ⟨v, h', ?_, P2, f2⟩
            rw [e1, Option.bind_some]
            dsimp only
            by_cases b0 : v1 = 0
            · rw [b0] at e2
              rw [if_pos b0, fX9_load_L123_eq]
              exact e2
            · rw [if_neg b0]
              have b1 : v1 = 1 := by
                revert Zr
                generalize tn_iF l x s (J 12) = r
                cases r with
                | inl f => rintro ⟨q, _⟩; exact absurd q b0
                | inr y => rintro ⟨q, _⟩; exact q
              rw [b1] at e2
              exact e2
          · rw [tn_b0 n2, if_pos rfl]
            unfold tn_it
            simp only [if_neg n0, if_neg n1, if_neg n2] at fin ⊢
            rw [fX9_load_L123_eq]
            exact fin 0 h ⟨rfl, Z.f⟩ tn_fr.rf
    · have j3e : J 3 = j3 := Z.2.1.2.2.2.1
      obtain ⟨h1, P', e1, E1, q1, f1⟩ := tx9_saves Z.1 (r := b + 3) (k0 := 2) rfl (Or.inr rfl) (by omega)
      obtain ⟨h2, e2, E2, f2⟩ := E1.s 5 0 (by omega)
      rw [if_neg c, if_neg c]
      refine ⟨i, h2, ?_, ⟨rfl, _, _, E2, Z.2.1.2.2.1, ?_, rfl, Z.2.2.1, Z.2.2.2.1, fun u k u0 u1 k0 k1 => ?_, Z.2.2.2.2⟩, f1.tr f2⟩
      · simp only [fX9_load_L139]
        rw [if_neg (by omega), Z.1.g.2.2.1, Option.bind_some, e1, Option.bind_some, e2, Option.bind_some]
      · show tn_hz (J 3) = tn_hz j3
        rw [j3e]
      · have := q1 u k u0 (by rw [j3e]; exact u1) k0 k1
        rw [j3e, Z.2.1.1, Z.2.1.2.1] at this
        exact this
theorem tx9_load (H : tn_E h b C J) (ok : tn_ok (tn_row (C 0) (C 4))) (hn : C 0 307 ≤ 12) (lt : tn_lt C) (hx : tn_xx l x (C 3)) (h5 : J 5 = l) (j0 : 0 ≤ J 3 ∧ J 3 ≤ 5) : ∃ v h' A', fX9_load b h = some (v, h') ∧ (∀ i : Int, 0 ≤ i → i < 874 → A' i.toNat = C 0 i.toNat) ∧ tn_pr h' b (C 1) A' (C 3) (C 4) (C 0 0) (J 3) l v (tn_lo (tn_row (C 0) (C 4)) l x) ∧ tn_fr b (b + 11) h h' := by
  obtain ⟨h1, A', e1, E1, q1, f1⟩ := tx9_ls_l (b := b) (J := J) _ 0 h C H (by omega) (by omega) rfl
  obtain ⟨h2, e2, E2, f2⟩ := E1.s 12 0 (by omega)
  have Z2 : tn_Z h2 b (C 1) A' (C 3) (C 4) (C 0 0) (J 3) l (tn_row (C 0) (C 4)) (tn_rk C 2 A') (tm_up J 12 0) := ⟨E2, ⟨rfl, rfl, rfl, rfl, h5⟩, fun _ _ _ => rfl, lt, tn_sim.rf _, ok, Int.le_refl _, hn⟩
  obtain ⟨h3, J3, e3, Z3, j11, j12, j14, ps3, f3⟩ := Z2.token hx (show (0 : Int) ≤ 0 ∧ 0 ≤ l from ⟨Int.le_refl _, hx.1⟩)
  have s3 := ps3.1
  have l1 := hx.2.1
  obtain ⟨v, h4, e4, P4, f4⟩ := tx9_ld_l hx j0 200 _ 0 h3 _ J3 Z3 ps3 (by omega) s3 (by omega)
  have j11' : J3 11 = tn_ts l x 0 := j11
  have j12' : J3 12 = tn_te l x (tn_ts l x 0) := j12
  rw [j11', j12'] at P4
  refine ⟨v, h4, A', ?_, fun i i0 i1 => by rw [q1 i i0 i1, if_pos i0], P4, ((f1.tr f2).tr f3).tr f4⟩
  simp only [fX9_load, tn_th H.1]
  rw [e1, fX9_load_L2_eq, if_neg (by omega), e2, Option.bind_some, e3, Option.bind_some]
  exact e4
theorem tx9_in_1 {n : Nat} : ∀ (m : Nat) (k : Int) (h : tm_H) (C : Nat → Nat → Int), tn_E h b C J → 0 ≤ k → k ≤ 26 → (26 - k).toNat = m → ∃ h' L', fX9_init_L121 b n k h = some (h', n + 10) ∧ tn_E h' b (tn_rk C 4 L') J ∧ (∀ i : Int, 0 ≤ i → (∀ w : Int, k ≤ w → w < 26 → i = 8 * w → L' i.toNat = 97 + w) ∧ ((∀ w : Int, k ≤ w → w < 26 → i ≠ 8 * w) → L' i.toNat = C 4 i.toNat)) ∧ tn_fr b (b + 11) h h' := by
  intro m
  induction m with
  | zero =>
    intro k h C H k0 k1 hm
    refine ⟨h, C 4, ?_, by rw [tn_rk_self]; exact H, fun i i0 => ⟨fun w w0 w1 => by omega, fun _ => rfl⟩, tn_fr.rf⟩
    rw [fX9_init_L121_eq, if_neg (by omega)]
  | succ m ih =>
    intro k h C H k0 k1 hm
    obtain ⟨h1, e1, E1, f1⟩ := H.w4 (i := 8 * k) (97 + k) (by omega) (by omega)
    obtain ⟨h2, L', e2, E2, q2, f2⟩ := ih (k + 1) h1 _ E1 (by omega) (by omega) (by omega)
    rw [tn_up2_rk, tn_rk_rk] at E2
    refine ⟨h2, L', ?_, E2, fun i i0 => ⟨fun w w0 w1 hi => ?_, fun hi => ?_⟩, f1.tr f2⟩
    · rw [fX9_init_L121_eq, if_pos (by omega), H.g9.2.1, Option.bind_some, tm_wr_id (z := 8 * k) (by omega) (by omega), tm_wr_id (z := 97 + k) (by omega) (by omega), e1, Option.bind_some, tm_wr_id (by omega) (by omega)]
      exact e2
    · by_cases y : w = k
      · rw [(q2 i i0).2 (fun v v0 v1 => by omega), tn_up2_eq, tn_upr (by omega) i0, if_pos (by omega), y]
      · exact (q2 i i0).1 w (by omega) w1 hi
    · rw [(q2 i i0).2 (fun v v0 v1 => hi v (by omega) v1), tn_up2_eq, tn_upr (by omega) i0, if_neg (hi k (by omega) (by omega))]
theorem tx9_in_2 {n : Nat} : ∀ (m : Nat) (k : Int) (h : tm_H) (C : Nat → Nat → Int), tn_E h b C J → 0 ≤ k → k ≤ 60 → (60 - k).toNat = m → ∃ h' N', fX9_init_L98 b n k h = fX9_init_L98 b n 60 h' ∧ tn_E h' b (tn_rk C 0 N') J ∧ (∀ i : Int, 0 ≤ i → N' i.toNat = if 1 + k ≤ i ∧ i < 61 then i - 1 else C 0 i.toNat) ∧ tn_fr b (b + 11) h h' := by
  intro m
  induction m with
  | zero =>
    intro k h C H k0 k1 hm
    exact ⟨h, C 0, by rw [show k = 60 by omega], by rw [tn_rk_self]; exact H, fun i i0 => by rw [if_neg (by omega)], tn_fr.rf⟩
  | succ m ih =>
    intro k h C H k0 k1 hm
    obtain ⟨h1, e1, E1, f1⟩ := H.w0 (i := 1 + k) k (by omega) (by omega)
    obtain ⟨h2, N', e2, E2, q2, f2⟩ := ih (k + 1) h1 _ E1 (by omega) (by omega) (by omega)
    rw [tn_up2_rk, tn_rk_rk] at E2
    refine ⟨h2, N', ?_, E2, fun i i0 => ?_, f1.tr f2⟩
    · rw [fX9_init_L98_eq, if_pos (by omega), H.g.1, Option.bind_some, tm_wr_id (z := 1 + k) (by omega) (by omega), e1, Option.bind_some, tm_wr_id (by omega) (by omega)]
      exact e2
    · rw [q2 i i0, tn_up2_eq, tn_upr (by omega) i0]
      by_cases y : i = 1 + k
      · rw [if_neg (by omega), if_pos y, if_pos (by omega)]; omega
      · by_cases z : 1 + k ≤ i ∧ i < 61
        · rw [if_pos (by omega), if_pos z]
        · rw [if_neg (by omega), if_neg y, if_neg z]
end RHE
