/-! the reference: terms come and go -/
section RFR
variable {h : tm_H} {b : Nat} {C : Nat → Nat → Int} {J : Nat → Int}
theorem tx9_try_l {n K a1 a2 a3 a4 : Int} (H : tn_E h b C J) (ok : tn_ok (tn_row (C 0) (C 4))) (hK : C 5 0 = K) : ∀ (m : Nat) (k : Int) (v : Prop), 1 ≤ k → k ≤ 5 → (5 - k).toNat = m → fX9_tries_L70 b a1 a2 a3 a4 (tn_b v) k h = some (tn_b (v ∧ ∀ j : Int, k ≤ j → j ≤ 4 → (if K < j then C 5 j.toNat = -1 else 0 ≤ C 5 j.toNat ∧ C 5 j.toNat < C 0 0)), h) := by
  intro m
  induction m with
  | zero =>
    intro k v k0 k1 hm
    rw [fX9_tries_L70_eq, if_pos (by omega), tn_zr, Option.bind_some]
    exact congrArg (fun y => some (y, h)) (tn_bc ⟨fun y => ⟨y, fun j j0 j1 => by omega⟩, fun y => y.1⟩)
  | succ m ih =>
    intro k v k0 k1 hm
    have q0 := ih (k + 1) False (by omega) (by omega) (by omega)
    rw [tn_b0 (fun y => y)] at q0
    have q1 := ih (k + 1) True (by omega) (by omega) (by omega)
    rw [tn_b1 trivial] at q1
    have l5 : tm_lI h 0 (b + 6) k = some (C 5 k.toNat) := H.l5 (by omega) (by omega)
    have no : ∀ P : Prop, ¬ P → some (tn_b (False ∧ ∀ j : Int, k + 1 ≤ j → j ≤ 4 → (if K < j then C 5 j.toNat = -1 else 0 ≤ C 5 j.toNat ∧ C 5 j.toNat < C 0 0)), h) = some (tn_b P, h) := fun P hP => by
      rw [tn_b0 (fun y => y.1), tn_b0 hP]
    have ye : (if K < k then C 5 k.toNat = -1 else 0 ≤ C 5 k.toNat ∧ C 5 k.toNat < C 0 0) → v → some (tn_b (True ∧ ∀ j : Int, k + 1 ≤ j → j ≤ 4 → (if K < j then C 5 j.toNat = -1 else 0 ≤ C 5 j.toNat ∧ C 5 j.toNat < C 0 0)), h) = some (tn_b (v ∧ ∀ j : Int, k ≤ j → j ≤ 4 → (if K < j then C 5 j.toNat = -1 else 0 ≤ C 5 j.toNat ∧ C 5 j.toNat < C 0 0)), h) := fun hk hv => by
      refine congrArg (fun y => some (y, h)) (tn_bc ⟨fun y => ⟨hv, fun j j0 j1 => ?_⟩, fun y => ⟨trivial, fun j j0 j1 => y.2 j (by omega) j1⟩⟩)
      by_cases z : j = k
      · rw [z]; exact hk
      · exact y.2 j (by omega) j1
    rw [fX9_tries_L70_eq, if_neg (by omega), fX9_tries_L124_eq, fX9_tries_L120_eq, fX9_tries_L125_eq, fX9_tries_L125_eq, tm_wr_id (by omega) (by omega), H.g.2.2.2.2.2.1, Option.bind_some, H.l5 (by omega) (by omega), Option.bind_some, show C 5 (Int.toNat 0) = K from hK, Option.bind_some, l5, Option.bind_some, Option.bind_some, l5, Option.bind_some, tx9_isWord H ok, Option.bind_some, q0, q1]
    by_cases c : v
    · rw [tn_b1 c, if_neg (by omega)]
      by_cases d : K < k
      · rw [if_pos d]
        by_cases e : C 5 k.toNat = -1
        · rw [if_pos e]; exact (ye (by rw [if_pos d]; exact e) c)
        · rw [if_neg e]
          exact no _ (fun y => e (by have := y.2 k (by omega) (by omega); rw [if_pos d] at this; exact this))
      · rw [if_neg d]
        by_cases e : 0 ≤ C 5 k.toNat ∧ C 5 k.toNat < C 0 0
        · rw [tn_b1 e, if_neg (by omega)]; exact ye (by rw [if_neg d]; exact e) c
        · rw [tn_b0 e, if_pos rfl]
          exact no _ (fun y => e (by have := y.2 k (by omega) (by omega); rw [if_neg d] at this; exact this))
    · rw [tn_b0 c, if_pos rfl]
      exact no _ (fun y => c y.1)
theorem tx9_tries (H : tn_E h b C J) (ok : tn_ok (tn_row (C 0) (C 4))) (a1 a2 a3 a4 : Int) : ∃ (h' : tm_H) (T : Nat → Int), fX9_tries b a1 a2 a3 a4 h = some (tn_b (tn_aV (C 0 0) a1 a2 a3 a4), h') ∧ tn_E h' b (tn_rk C 5 T) J ∧ T 0 = tn_aK a2 a3 a4 ∧ T 1 = a1 ∧ T 2 = a2 ∧ T 3 = a3 ∧ T 4 = a4 ∧ tn_fr b (b + 11) h h' := by
  obtain ⟨h1, e1, E1, f1⟩ := H.w5 (i := 1) a1 (by omega) (by omega)
  obtain ⟨h2, e2, E2, f2⟩ := E1.w5 (i := 2) a2 (by omega) (by omega)
  obtain ⟨h3, e3, E3, f3⟩ := E2.w5 (i := 3) a3 (by omega) (by omega)
  obtain ⟨h4, e4, E4, f4⟩ := E3.w5 (i := 4) a4 (by omega) (by omega)
  obtain ⟨h5, e5, E5, f5⟩ := E4.w5 (i := 0) (tn_aK a2 a3 a4) (by omega) (by omega)
  simp only [tn_up2_rk, tn_rk_eq, tn_rk_rk] at E5
  refine ⟨h5, _, ?_, E5, rfl, rfl, rfl, rfl, rfl, (((f1.tr f2).tr f3).tr f4).tr f5⟩
  have ok5 : ∀ T, tn_ok (tn_row (tn_rk C 5 T 0) (tn_rk C 5 T 4)) := fun T => ok
  have K := tn_aK_rg a2 a3 a4
  have lp := tx9_try_l (n := 0) (K := tn_aK a2 a3 a4) (a1 := a1) (a2 := a2) (a3 := a3) (a4 := a4) E5 (ok5 _) rfl _ 1 True (by omega) (by omega) rfl
  rw [tn_b1 trivial] at lp
  have fin : fX9_tries_L63 b a1 a2 a3 a4 (b + 6) 0 (tn_aK a2 a3 a4) h4 = some (tn_b (tn_aV (C 0 0) a1 a2 a3 a4), h5) := by
    simp only [fX9_tries_L63, e5, Option.bind_some]
    rw [lp]
    refine congrArg (fun y => some (y, h5)) (tn_bc ?_)
    have sp : ∀ P : Int → Prop, (∀ j : Int, 1 ≤ j → j ≤ 4 → P j) ↔ P 1 ∧ P 2 ∧ P 3 ∧ P 4 := fun P => ⟨fun y => ⟨y 1 (by omega) (by omega), y 2 (by omega) (by omega), y 3 (by omega) (by omega), y 4 (by omega) (by omega)⟩, fun ⟨y1, y2, y3, y4⟩ j j0 j1 => by
      have : j = 1 ∨ j = 2 ∨ j = 3 ∨ j = 4 := by omega
      rcases this with k | k | k | k <;> subst k
      · exact y1
      · exact y2
      · exact y3
      · exact y4⟩
    rw [sp]
    change (True ∧ (if tn_aK a2 a3 a4 < 1 then a1 = -1 else 0 ≤ a1 ∧ a1 < C 0 0) ∧ (if tn_aK a2 a3 a4 < 2 then a2 = -1 else 0 ≤ a2 ∧ a2 < C 0 0) ∧ (if tn_aK a2 a3 a4 < 3 then a3 = -1 else 0 ≤ a3 ∧ a3 < C 0 0) ∧ (if tn_aK a2 a3 a4 < 4 then a4 = -1 else 0 ≤ a4 ∧ a4 < C 0 0)) ↔ tn_aV (C 0 0) a1 a2 a3 a4
    unfold tn_aV tn_aK
    simp only [true_and]
    by_cases c1 : a2 = -1
    · simp only [if_pos c1]
      rw [if_neg (by omega), if_pos (by omega), if_pos (by omega), if_pos (by omega)]
      omega
    · simp only [if_neg c1]
      by_cases c2 : a3 = -1
      · simp only [if_pos c2]
        rw [if_neg (by omega), if_neg (by omega), if_pos (by omega), if_pos (by omega)]
        omega
      · simp only [if_neg c2]
        by_cases c3 : a4 = -1
        · simp only [if_pos c3]
          rw [if_neg (by omega), if_neg (by omega), if_neg (by omega), if_pos (by omega)]
          omega
        · simp only [if_neg c3]
          rw [if_neg (by omega), if_neg (by omega), if_neg (by omega), if_neg (by omega)]
          omega
  simp only [fX9_tries, tn_th H.1, H.g.2.2.2.2.2.1, Option.bind_some, e1, E1.g.2.2.2.2.2.1, e2, E2.g.2.2.2.2.2.1, e3, E3.g.2.2.2.2.2.1, e4, E4.g.2.2.2.2.2.1]
  unfold tn_aK at fin
  by_cases c1 : a2 = -1
  · rw [if_pos c1] at fin ⊢; exact fin
  · rw [if_neg c1] at fin ⊢
    by_cases c2 : a3 = -1
    · rw [if_pos c2] at fin ⊢; exact fin
    · rw [if_neg c2] at fin ⊢
      by_cases c3 : a4 = -1
      · rw [if_pos c3] at fin ⊢; exact fin
      · rw [if_neg c3] at fin ⊢; exact fin
theorem tx9_com_l {q K : Int} (hK : 1 ≤ K ∧ K ≤ 4) (hq : 308 ≤ q ∧ q ≤ 374) : ∀ (m : Nat) (k : Int) (h : tm_H) (C : Nat → Nat → Int), tn_E h b C J → C 5 0 = K → 0 ≤ k → k ≤ 5 → (5 - k).toNat = m → ∃ h' N', fX9_comes_L18 b q k h = fX9_comes_L18 b q 5 h' ∧ tn_E h' b (tn_rk C 0 N') J ∧ (∀ i : Int, 0 ≤ i → N' i.toNat = if q + k ≤ i ∧ i < q + 5 then (if K < i - q then -1 else C 5 (i - q).toNat) else C 0 i.toNat) ∧ tn_fr b (b + 11) h h' := by
  intro m
  induction m with
  | zero =>
    intro k h C H h5 k0 k1 hm
    exact ⟨h, C 0, by rw [show k = 5 by omega], by rw [tn_rk_self]; exact H, fun i i0 => by rw [if_neg (by omega)], tn_fr.rf⟩
  | succ m ih =>
    intro k h C H h5 k0 k1 hm
    obtain ⟨h1, e1, E1, f1⟩ := H.w0 (i := q + k) (if K < k then -1 else C 5 k.toNat) (by omega) (by omega)
    obtain ⟨h2, N', e2, E2, q2, f2⟩ := ih (k + 1) h1 _ E1 h5 (by omega) (by omega) (by omega)
    refine ⟨h2, N', ?_, by rw [tn_up2_rk, tn_rk_rk] at E2; exact E2, fun i i0 => ?_, f1.tr f2⟩
    · rw [fX9_comes_L18_eq, if_pos (by omega), H.g.1, Option.bind_some, H.g.2.2.2.2.2.1, Option.bind_some, H.l5 (by omega) (by omega), Option.bind_some, show C 5 (Int.toNat 0) = K from h5, Option.bind_some, H.l5 k0 (by omega), Option.bind_some, fX9_comes_L50_eq, fX9_comes_L50_eq, tm_wr_id (z := q + k) (by omega) (by omega), tm_wr_id (z := k + 1) (by omega) (by omega)]
      by_cases c : K < k
      · rw [if_pos c] at e1
        rw [if_pos c, e1, Option.bind_some]
        exact e2
      · rw [if_neg c] at e1
        rw [if_neg c, e1, Option.bind_some]
        exact e2
    · rw [q2 i i0, tn_up2_eq, tn_upr (by omega) i0, tn_up2_ne (show 5 ≠ 0 by omega)]
      by_cases c1 : i = q + k
      · rw [if_neg (by omega), if_pos c1, if_pos (show q + k ≤ i ∧ i < q + 5 by omega), show i - q = k by omega]
      · by_cases c2 : q + k ≤ i ∧ i < q + 5
        · rw [if_pos (by omega), if_pos c2]
        · rw [if_neg (by omega), if_neg c1, if_neg c2]
theorem tx9_comes (H : tn_E h b C J) (ok : tn_ok (tn_row (C 0) (C 4))) (hn : C 0 307 < 12) {K : Int} (hK : 1 ≤ K ∧ K ≤ 4) (h5 : C 5 0 = K) : ∃ h' N', fX9_comes b h = some (C 0 307, h') ∧ tn_E h' b (tn_rk C 0 N') J ∧ tn_sim (tn_row N' (C 4)) (tn_addT (tn_row (C 0) (C 4)) K (fun j => C 5 (1 + j).toNat)) ∧ tn_fr b (b + 11) h h' := by
  have n0 : 0 ≤ C 0 307 := ok.2.2.2.2.1
  have n60 : C 0 0 ≤ 60 := ok.2.1
  obtain ⟨h1, N1, e1, E1, q1, f1⟩ := tx9_com_l (b := b) (J := J) (q := 308 + 6 * C 0 307) hK (by omega) _ 0 h C H h5 (by omega) (by omega) rfl
  obtain ⟨h2, e2, E2, f2⟩ := E1.w0 (i := 308 + 6 * C 0 307 + 5) 0 (by omega) (by omega)
  rw [tn_up2_rk, tn_rk_eq, tn_rk_rk] at E2
  have n2 : tm_up N1 (308 + 6 * C 0 307 + 5).toNat 0 307 = C 0 307 := by
    have := tn_upr (N := N1) (i := 308 + 6 * C 0 307 + 5) (j := 307) (v := 0) (by omega) (by omega)
    rw [if_neg (by omega)] at this
    have q := q1 307 (by omega)
    rw [if_neg (by omega)] at q
    exact this.trans q
  obtain ⟨h3, e3, E3, f3⟩ := E2.w0 (i := 307) (C 0 307 + 1) (by omega) (by omega)
  rw [tn_up2_rk, tn_rk_eq, tn_rk_rk] at E3
  refine ⟨h3, _, ?_, E3, ?_, (f1.tr f2).tr f3⟩
  · simp only [fX9_comes, tn_th H.1, H.g.1, H.l0 (show (0 : Int) ≤ 307 by omega) (by omega), Option.bind_some]
    rw [show Int.toNat 307 = 307 from rfl, tm_wr_id (z := 6 * C 0 307) (by omega) (by omega), tm_wr_id (z := 308 + 6 * C 0 307) (by omega) (by omega), e1, fX9_comes_L18_eq, if_neg (by omega), E1.g.1, Option.bind_some, tm_wr_id (z := 308 + 6 * C 0 307 + 5) (by omega) (by omega), e2, Option.bind_some, E2.g.1, Option.bind_some, E2.l0 (by omega) (by omega), Option.bind_some, tn_rk_eq, show Int.toNat 307 = 307 from rfl, n2, tm_wr_id (z := C 0 307 + 1) (by omega) (by omega), e3, Option.bind_some, E3.g.1, Option.bind_some, E3.l0 (by omega) (by omega), Option.bind_some, tn_rk_eq, tn_upr (by omega) (by omega), if_pos rfl, tm_wr_id (by omega) (by omega), Int.add_sub_cancel]
  · have q3 : ∀ i : Int, 0 ≤ i → tm_up (tm_up N1 (308 + 6 * C 0 307 + 5).toNat 0) (Int.toNat 307) (C 0 307 + 1) i.toNat = if i = 307 then C 0 307 + 1 else if i = 308 + 6 * C 0 307 + 5 then 0 else if 308 + 6 * C 0 307 ≤ i ∧ i < 308 + 6 * C 0 307 + 5 then (if K < i - (308 + 6 * C 0 307) then -1 else C 5 (i - (308 + 6 * C 0 307)).toNat) else C 0 i.toNat := fun i i0 => by
      rw [tn_upr (by omega) i0, tn_upr (by omega) i0, q1 i i0, Int.add_zero]
    have off : ∀ i : Int, 0 ≤ i → i ≠ 307 → i < 308 + 6 * C 0 307 ∨ 314 + 6 * C 0 307 ≤ i → tm_up (tm_up N1 (308 + 6 * C 0 307 + 5).toNat 0) (Int.toNat 307) (C 0 307 + 1) i.toNat = C 0 i.toNat := fun i i0 i1 i2 => by
      rw [q3 i i0, if_neg i1, if_neg (by omega), if_neg (by omega)]
    refine ⟨off 0 (by omega) (by omega) (by omega), fun v v0 v1 => ⟨off _ (by omega) (by have : v < C 0 0 := v1; omega) (by have : v < C 0 0 := v1; omega), rfl⟩, fun d d0 d1 => ⟨off _ (by omega) (by omega) (by omega), fun i i0 i1 => ?_⟩, ?_, fun t t0 t1 => ?_, fun z z0 z1 => ⟨off _ (by omega) (by omega) (by omega), fun _ d d0 d1 => ⟨off _ (by omega) (by omega) (by omega), fun i i0 i1 => off _ (by omega) (by omega) (by omega)⟩⟩⟩
    · have := (ok.c (c := d) ⟨d0, d1⟩).2
      have i1' : i < tn_sz (tn_row (C 0) (C 4)) d := i1
      exact off _ (by omega) (by omega) (by omega)
    · show tm_up (tm_up N1 (308 + 6 * C 0 307 + 5).toNat 0) (Int.toNat 307) (C 0 307 + 1) (Int.toNat 307) = C 0 307 + 1
      rw [q3 307 (by omega), if_pos rfl]
    · have t1' : t < C 0 307 + 1 := t1
      show _ = (if t = C 0 307 then K else C 0 (308 + 6 * t).toNat) ∧ _ = (if t = C 0 307 then 0 else C 0 (313 + 6 * t).toNat) ∧ ∀ k : Int, 0 ≤ k → k < (if t = C 0 307 then K else C 0 (308 + 6 * t).toNat) → _ = if t = C 0 307 then C 5 (1 + k).toNat else C 0 (309 + 6 * t + k).toNat
      by_cases c : t = C 0 307
      · simp only [if_pos c]
        refine ⟨?_, ?_, fun k k0 k1 => ?_⟩
        · refine (q3 (308 + 6 * t) (by omega)).trans ?_
          rw [if_neg (by omega), if_neg (by omega), if_pos (by omega), if_neg (by omega), show 308 + 6 * t - (308 + 6 * C 0 307) = 0 by omega]
          exact h5
        · refine (q3 (313 + 6 * t) (by omega)).trans ?_
          rw [if_neg (by omega), if_pos (by omega)]
        · refine (q3 (309 + 6 * t + k) (by omega)).trans ?_
          rw [if_neg (by omega), if_neg (by omega), if_pos (by omega), if_neg (by omega), show 309 + 6 * t + k - (308 + 6 * C 0 307) = 1 + k by omega]
      · simp only [if_neg c]
        have tl := (ok.t (t := t) ⟨t0, show t < C 0 307 by omega⟩).2
        have tl' : C 0 (308 + 6 * t).toNat ≤ 4 := tl
        exact ⟨off _ (by omega) (by omega) (by omega), off _ (by omega) (by omega) (by omega), fun k k0 k1 => off _ (by omega) (by omega) (by omega)⟩
theorem tx9_addTerm (H : tn_E h b C J) (ok : tn_ok (tn_row (C 0) (C 4))) (hn : C 0 307 ≤ 12) (j0 : 0 ≤ J 3 ∧ J 3 ≤ 5) (a1 a2 a3 a4 : Int) : ∃ h', fX9_addTerm b a1 a2 a3 a4 h = some ((sp_add (tn_row (C 0) (C 4)) a1 a2 a3 a4).1, h') ∧ tn_O h' b C J (sp_add (tn_row (C 0) (C 4)) a1 a2 a3 a4).2 ∧ tn_fr b (b + 11) h h' := by
  have n60 : C 0 0 ≤ 60 := ok.2.1
  obtain ⟨h1, T, e1, E1, T0, T1, T2, T3, T4, f1⟩ := tx9_tries H ok a1 a2 a3 a4
  have G1 : tn_G h1 b C J := ⟨_, _, E1, fun k hk _ => tn_rk_ne (by omega), rfl, rfl⟩
  have K := tn_aK_rg a2 a3 a4
  simp only [fX9_addTerm, tn_th H.1, e1, Option.bind_some]
  unfold sp_add sp_ask
  have nd : tn_n (tn_row (C 0) (C 4)) = C 0 0 := rfl
  have nt : tn_nT (tn_row (C 0) (C 4)) = C 0 307 := rfl
  rw [nd, nt]
  by_cases V : tn_aV (C 0 0) a1 a2 a3 a4
  · have hW := tn_aW_in V
    have TW : ∀ j : Int, 0 ≤ j → j < 4 → T (1 + j).toNat = tn_aW a1 a2 a3 a4 j := fun j j0 j1 => by
      have : j = 0 ∨ j = 1 ∨ j = 2 ∨ j = 3 := by omega
      rcases this with k | k | k | k <;> subst k
      · exact T1
      · exact T2
      · exact T3
      · exact T4
    have rl : tn_rl (tn_rk C 5 T) 12 = tn_aK a2 a3 a4 := T0
    have rt : ∀ k : Int, tn_rt (tn_rk C 5 T) 12 k = T (1 + k).toNat := fun k => rfl
    have h12 : tn_tok2 (tn_rk C 5 T) 12 := ⟨by omega, by omega, by rw [rl]; exact K.1, by rw [rl]; exact K.2, fun k k0 k1 => by
      rw [rl] at k1
      rw [rt, TW k k0 (by omega)]
      have := hW k k0 k1
      omega⟩
    have ok1 : tn_ok (tn_row (tn_rk C 5 T 0) (tn_rk C 5 T 4)) := ok
    have th := tx9_isThere E1 ok1 hn h12
    have lk : tn_lik (tn_row (tn_rk C 5 T 0) (tn_rk C 5 T 4)) (tn_rl (tn_rk C 5 T) 12) (tn_rt (tn_rk C 5 T) 12) ↔ tn_lik (tn_row (C 0) (C 4)) (tn_aK a2 a3 a4) (tn_aW a1 a2 a3 a4) := by
      rw [rl]
      unfold tn_lik
      exact ⟨fun ⟨u, u0, u1, u2, u3⟩ => ⟨u, u0, u1, u2, fun j j0 j1 => by rw [← TW j j0 (by omega)]; exact u3 j j0 j1⟩, fun ⟨u, u0, u1, u2, u3⟩ => ⟨u, u0, u1, u2, fun j j0 j1 => by rw [rt, TW j j0 (by omega)]; exact u3 j j0 j1⟩⟩
    rw [tn_b1 V, if_neg (by omega), th, Option.bind_some, tn_bc lk]
    simp only [if_pos V]
    by_cases k : tn_lik (tn_row (C 0) (C 4)) (tn_aK a2 a3 a4) (tn_aW a1 a2 a3 a4)
    · simp only [if_pos k]
      rw [tn_b1 k, if_neg (by omega), if_pos (by omega)]
      exact ⟨h1, rfl, G1, f1⟩
    · simp only [if_neg k]
      rw [tn_b0 k, if_pos rfl, if_neg (by omega), E1.g.1, Option.bind_some, E1.l0 (by omega) (by omega), Option.bind_some, show tn_rk C 5 T 0 (Int.toNat 307) = C 0 307 from rfl]
      by_cases c : C 0 307 = 12
      · rw [if_pos c, if_neg (by omega)]
        exact ⟨h1, rfl, G1, f1⟩
      · obtain ⟨h2, P', e2, E2, q2, f2⟩ := tx9_saves E1 (r := b + 1) (k0 := 0) rfl (Or.inl rfl) j0
        obtain ⟨h3, N', e3, E3, s3, f3⟩ := tx9_comes E2 ok (show C 0 307 < 12 by omega) K T0
        rw [if_neg c, if_pos (by omega), Option.bind_some, e2, Option.bind_some, e3, Option.bind_some]
        refine ⟨h3, rfl, tn_F_of q2 E3 rfl rfl rfl rfl (tm_up_self _ _ _) ?_, (f1.tr f2).tr f3⟩
        rw [tn_rk_eq]
        have s3' : tn_sim (tn_row N' (C 4)) (tn_addT (tn_row (C 0) (C 4)) (tn_aK a2 a3 a4) (fun j => T (1 + j).toNat)) := s3
        obtain ⟨z1, z2, z3, z4, z5, z6⟩ := s3'
        refine ⟨z1, z2, z3, z4, fun u u0 u1 => ?_, z6⟩
        obtain ⟨y1, y2, y3⟩ := z5 u u0 u1
        refine ⟨y1, y2, fun k k0 k1 => (y3 k k0 k1).trans ?_⟩
        have k1' : k < (if u = C 0 307 then tn_aK a2 a3 a4 else C 0 (308 + 6 * u).toNat) := k1
        show (if u = C 0 307 then T (1 + k).toNat else C 0 (309 + 6 * u + k).toNat) = if u = C 0 307 then tn_aW a1 a2 a3 a4 k else C 0 (309 + 6 * u + k).toNat
        by_cases cu : u = C 0 307
        · rw [if_pos cu] at k1'
          rw [if_pos cu, if_pos cu, TW k k0 (by omega)]
        · rw [if_neg cu, if_neg cu]
  · rw [tn_b0 V, if_pos rfl]
    simp only [if_neg V]
    rw [if_pos (by omega)]
    exact ⟨h1, rfl, G1, f1⟩
theorem tx9_rem_l {d n : Int} (hd : 0 ≤ d ∧ d ≤ n) (hn : n ≤ 11) : ∀ (m : Nat) (k : Int) (h : tm_H) (C : Nat → Nat → Int), tn_E h b C J → C 0 307 = n → 308 + 6 * d ≤ k → k ≤ 308 + 6 * n → (308 + 6 * n - k).toNat = m → ∃ h' N', fX9_removeTerm_L39 b d k h = some (n, h') ∧ tn_E h' b (tn_rk C 0 N') J ∧ (∀ i : Int, 0 ≤ i → N' i.toNat = if k ≤ i ∧ i < 308 + 6 * n then C 0 (i + 6).toNat else C 0 i.toNat) ∧ tn_fr b (b + 11) h h' := by
  intro m
  induction m with
  | zero =>
    intro k h C H h7 k0 k1 hm
    refine ⟨h, C 0, ?_, by rw [tn_rk_self]; exact H, fun i i0 => by rw [if_neg (by omega)], tn_fr.rf⟩
    rw [fX9_removeTerm_L39_eq, H.g.1, Option.bind_some, H.l0 (by omega) (by omega), Option.bind_some, show C 0 (Int.toNat 307) = n from h7, tm_wr_id (z := 6 * n) (by omega) (by omega), tm_wr_id (by omega) (by omega), if_neg (by omega), Option.bind_some, H.l0 (by omega) (by omega), Option.bind_some, show C 0 (Int.toNat 307) = n from h7]
  | succ m ih =>
    intro k h C H h7 k0 k1 hm
    obtain ⟨h1, e1, E1, f1⟩ := H.w0 (i := k) (C 0 (k + 6).toNat) (by omega) (by omega)
    have r1 : tn_up2 C 0 k.toNat (C 0 (k + 6).toNat) 0 307 = n := by
      rw [tn_up2_eq, tm_up_ne (by omega)]; exact h7
    obtain ⟨h2, N', e2, E2, q2, f2⟩ := ih (k + 1) h1 _ E1 r1 (by omega) (by omega) (by omega)
    refine ⟨h2, N', ?_, by rw [tn_up2_rk, tn_rk_rk] at E2; exact E2, fun i i0 => ?_, f1.tr f2⟩
    · rw [fX9_removeTerm_L39_eq, H.g.1, Option.bind_some, H.l0 (by omega) (by omega), Option.bind_some, show C 0 (Int.toNat 307) = n from h7, tm_wr_id (z := 6 * n) (by omega) (by omega), tm_wr_id (z := 308 + 6 * n) (by omega) (by omega), if_pos (by omega), Option.bind_some, Option.bind_some, tm_wr_id (z := k + 6) (by omega) (by omega), H.l0 (by omega) (by omega), Option.bind_some, e1, Option.bind_some, tm_wr_id (by omega) (by omega)]
      exact e2
    · rw [q2 i i0, tn_up2_eq, tn_upr (by omega) i0, tn_upr (by omega) (by omega)]
      by_cases c1 : i = k
      · rw [if_neg (by omega), if_pos c1, if_pos (by omega), c1]
      · by_cases c2 : k ≤ i ∧ i < 308 + 6 * n
        · rw [if_pos (by omega), if_pos c2, if_neg (by omega)]
        · rw [if_neg (by omega), if_neg c1, if_neg c2]
theorem tx9_remove (H : tn_E h b C J) (ok : tn_ok (tn_row (C 0) (C 4))) (hn : C 0 307 ≤ 12) (j0 : 0 ≤ J 3 ∧ J 3 ≤ 5) (d : Int) : ∃ h', fX9_removeTerm b d h = some ((sp_remove (tn_row (C 0) (C 4)) d).1, h') ∧ tn_O h' b C J (sp_remove (tn_row (C 0) (C 4)) d).2 ∧ tn_fr b (b + 11) h h' := by
  have n60 : C 0 0 ≤ 60 := ok.2.1
  simp only [fX9_removeTerm, tn_th H.1, tx9_isTerm H ok, Option.bind_some, H.g.1]
  unfold sp_remove
  have nt : tn_nT (tn_row (C 0) (C 4)) = C 0 307 := rfl
  rw [nt]
  by_cases c1 : 0 ≤ d ∧ d < C 0 307
  · obtain ⟨h1, P', e1, E1, q1, f1⟩ := tx9_saves H (r := b + 1) (k0 := 0) rfl (Or.inl rfl) j0
    obtain ⟨h2, e2, E2, f2⟩ := E1.w0 (i := 307) (C 0 307 - 1) (by omega) (by omega)
    obtain ⟨h3, N', e3, E3, q3, f3⟩ := tx9_rem_l (b := b) (d := d) (n := C 0 307 - 1) (by omega) (by omega) _ (308 + 6 * d) h2 _ E2 (by rw [tn_up2_eq]; exact tm_up_self _ _ _) (by omega) (by omega) rfl
    rw [tn_up2_rk, tn_rk_rk] at E3
    rw [tn_b1 c1, if_neg (by omega), if_pos c1, e1, Option.bind_some, E1.g.1, Option.bind_some, E1.l0 (by omega) (by omega), Option.bind_some]
    rw [show (if (0 : Nat) = 1 then P' else C 0) (Int.toNat 307) = C 0 307 from rfl, tm_wr_id (z := C 0 307 - 1) (by omega) (by omega), e2, Option.bind_some, tm_wr_id (z := 6 * d) (by omega) (by omega), tm_wr_id (by omega) (by omega)]
    refine ⟨h3, e3, tn_F_of q1 E3 rfl rfl rfl rfl (tm_up_self _ _ _) ?_, (f1.tr f2).tr f3⟩
    rw [tn_rk_eq]
    have q4 : ∀ i : Int, 0 ≤ i → N' i.toNat = if 308 + 6 * d ≤ i ∧ i < 308 + 6 * (C 0 307 - 1) then C 0 (i + 6).toNat else if i = 307 then C 0 307 - 1 else C 0 i.toNat := fun i i0 => by
      rw [q3 i i0]
      by_cases k : 308 + 6 * d ≤ i ∧ i < 308 + 6 * (C 0 307 - 1)
      · rw [if_pos k, if_pos k, tn_up2_eq, tn_upr (by omega) (by omega), if_neg (by omega)]; rfl
      · rw [if_neg k, if_neg k, tn_up2_eq, tn_upr (by omega) i0]; rfl
    have off : ∀ i : Int, 0 ≤ i → i ≠ 307 → i < 308 + 6 * d ∨ 380 ≤ i → N' i.toNat = C 0 i.toNat := fun i i0 i1 i2 => by
      rw [q4 i i0, if_neg (by omega), if_neg i1]
    refine ⟨off 0 (by omega) (by omega) (by omega), fun v v0 v1 => ⟨off _ (by omega) (by have : v < C 0 0 := v1; omega) (by have : v < C 0 0 := v1; omega), rfl⟩, fun e d0 d1 => ⟨off _ (by omega) (by omega) (by omega), fun i i0 i1 => ?_⟩, ?_, fun t t0 t1 => ?_, fun z z0 z1 => ⟨off _ (by omega) (by omega) (by omega), fun _ e d0 d1 => ⟨off _ (by omega) (by omega) (by omega), fun i i0 i1 => off _ (by omega) (by omega) (by omega)⟩⟩⟩
    · have := (ok.c (c := e) ⟨d0, d1⟩).2
      have i1' : i < tn_sz (tn_row (C 0) (C 4)) e := i1
      exact off _ (by omega) (by omega) (by omega)
    · refine (q4 307 (by omega)).trans ?_
      rw [if_neg (by omega), if_pos rfl]; rfl
    · have t1' : t < C 0 307 - 1 := t1
      show N' (308 + 6 * t).toNat = C 0 (308 + 6 * (if t < d then t else t + 1)).toNat ∧ N' (313 + 6 * t).toNat = C 0 (313 + 6 * (if t < d then t else t + 1)).toNat ∧ ∀ k : Int, 0 ≤ k → k < C 0 (308 + 6 * (if t < d then t else t + 1)).toNat → N' (309 + 6 * t + k).toNat = C 0 (309 + 6 * (if t < d then t else t + 1) + k).toNat
      by_cases c : t < d
      · simp only [if_pos c]
        have tl := (ok.t (t := t) ⟨t0, show t < C 0 307 by omega⟩).2
        have tl' : C 0 (308 + 6 * t).toNat ≤ 4 := tl
        exact ⟨off _ (by omega) (by omega) (by omega), off _ (by omega) (by omega) (by omega), fun k k0 k1 => off _ (by omega) (by omega) (by omega)⟩
      · simp only [if_neg c]
        have tl := (ok.t (t := t + 1) ⟨by omega, show t + 1 < C 0 307 by omega⟩).2
        have tl' : C 0 (308 + 6 * (t + 1)).toNat ≤ 4 := tl
        refine ⟨?_, ?_, fun k k0 k1 => ?_⟩
        · rw [q4 _ (by omega), if_pos (by omega), show 308 + 6 * t + 6 = 308 + 6 * (t + 1) by omega]
        · rw [q4 _ (by omega), if_pos (by omega), show 313 + 6 * t + 6 = 313 + 6 * (t + 1) by omega]
        · rw [q4 _ (by omega), if_pos (by omega), show 309 + 6 * t + k + 6 = 309 + 6 * (t + 1) + k by omega]
  · rw [tn_b0 c1, if_pos rfl, if_neg c1]
    exact ⟨h, rfl, H.O, tn_fr.rf⟩
end RFR
