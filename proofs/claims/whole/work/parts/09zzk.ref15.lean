/-! states that mean the same have the same marks; the reference: quiet terms, swapped chapters -/
theorem tn_sim.tr {s t u : tn_St} (a : tn_sim s t) (b : tn_sim t u) : tn_sim s u := by
  obtain ⟨a1, a2, a3, a4, a5, a6⟩ := a
  obtain ⟨b1, b2, b3, b4, b5, b6⟩ := b
  refine ⟨a1.trans b1, fun w w0 w1 => ?_, fun c c0 c1 => ?_, a4.trans b4, fun v v0 v1 => ?_, fun z z0 z1 => ?_⟩
  · have x := a2 w w0 (by omega)
    have y := b2 w w0 w1
    exact ⟨x.1.trans y.1, x.2.trans y.2⟩
  · obtain ⟨x1, x2⟩ := a3 c c0 c1
    obtain ⟨y1, y2⟩ := b3 c c0 c1
    exact ⟨x1.trans y1, fun p p0 p1 => (x2 p p0 (by omega)).trans (y2 p p0 p1)⟩
  · obtain ⟨x1, x2, x3⟩ := a5 v v0 (by omega)
    obtain ⟨y1, y2, y3⟩ := b5 v v0 v1
    exact ⟨x1.trans y1, x2.trans y2, fun k k0 k1 => (x3 k k0 (by omega)).trans (y3 k k0 k1)⟩
  · obtain ⟨x1, x2⟩ := a6 z z0 z1
    obtain ⟨y1, y2⟩ := b6 z z0 z1
    refine ⟨x1.trans y1, fun tk c c0 c1 => ?_⟩
    obtain ⟨v1, v2⟩ := x2 (y1.trans tk) c c0 c1
    obtain ⟨w1, w2⟩ := y2 tk c c0 c1
    exact ⟨v1.trans w1, fun p p0 p1 => (v2 p p0 (by omega)).trans (w2 p p0 p1)⟩
theorem tn_sim.oc {s t : tn_St} (e : tn_sim s t) (ok : tn_ok t) {u c p : Int} (hu : 0 ≤ u ∧ u < tn_nT t) (hc : 0 ≤ c ∧ c < 6) (hp : 0 ≤ p) : tn_oc s u c p ↔ tn_oc t u c p := by
  obtain ⟨e1, e2, e3, e4, e5, e6⟩ := e
  obtain ⟨g1, g2⟩ := e3 c hc.1 hc.2
  obtain ⟨k1, k2, k3⟩ := e5 u hu.1 hu.2
  have oc := ok.2.2.2.1 c hc.1 hc.2
  have ot := ok.2.2.2.2.2.2.1 u hu.1 hu.2
  have w : ∀ k : Int, 0 ≤ k → k < tn_tl t u → p + tn_tl t u ≤ tn_sz t c → tn_bs s (tn_wd s c (p + k)) = tn_bs t (tn_wd t c (p + k)) ∧ tn_bs s (tn_tw s u k) = tn_bs t (tn_tw t u k) := fun k k0 k1 h => by
    have x1 := oc.2.2 (p + k) (by omega) (by omega)
    have x2 := ot.2.2.2 k k0 k1
    rw [g2 (p + k) (by omega) (by omega), k3 k k0 k1]
    exact ⟨(e2 _ x1.1 x1.2).1, (e2 _ x2.1 x2.2).1⟩
  unfold tn_oc
  rw [g1, k1]
  constructor
  · rintro ⟨a1, a2⟩
    refine ⟨a1, fun k k0 k1 => ?_⟩
    have x := w k k0 k1 a1
    rw [← x.1, ← x.2]
    exact a2 k k0 k1
  · rintro ⟨a1, a2⟩
    refine ⟨a1, fun k k0 k1 => ?_⟩
    have x := w k k0 k1 a1
    rw [x.1, x.2]
    exact a2 k k0 k1
theorem tn_sim.L {s t : tn_St} (e : tn_sim s t) (ok : tn_ok t) {c p : Int} (hc : 0 ≤ c ∧ c < 6) (hp : 0 ≤ p) : tn_L s c p = tn_L t c p := by
  have e4 : tn_nT s = tn_nT t := e.2.2.2.1
  have a := tn_lg_rn (n := tn_nT t) (m := tn_nT s) (P := fun u => tn_oc t u c p) (P' := fun u => tn_oc s u c p) (len := tn_tl t) (len' := tn_tl s) (f := fun u => u) (tn_L_lg t ok.2.2.2.2.1 c p) rfl (fun u u0 u1 hu => ⟨u0, by rw [e4]; exact u1, (e.oc ok ⟨u0, u1⟩ hc hp).mpr hu, (e.2.2.2.2.1 u u0 u1).1⟩) (fun _ _ _ h _ => h) (fun u u0 u1 hu => ⟨u, u0, by rw [e4] at u1; exact u1, (e.oc ok ⟨u0, by rw [e4] at u1; exact u1⟩ hc hp).mp hu, rfl⟩)
  exact tn_L_eq a
theorem tn_M_sm (s : tn_St) : tn_M s = tn_sm (fun d => tn_km (tn_L s d) (tn_w s) (tn_tq s) (tn_sz s d)) 6 := by
  show tn_sm (fun d => tn_km (tn_L s d) (tn_w s) (tn_tq s) (tn_sz s d)) 6 + 0 = _
  omega
theorem tn_sim.M {s t : tn_St} (e : tn_sim s t) (ok : tn_ok t) : tn_M s = tn_M t := by
  rw [tn_M_sm, tn_M_sm]
  refine tn_sm_cg (fun d d0 d1 => ?_)
  have hd : 0 ≤ d ∧ d < 6 := ⟨d0, by omega⟩
  have n0 : 0 ≤ tn_nT t := ok.2.2.2.2.1
  rw [(e.2.2.1 d hd.1 hd.2).1]
  refine tn_km_nm (fun p p0 => ?_) (fun p p0 => by rw [e.L ok hd p0]) (fun p r p0 r0 => by rw [e.L ok hd p0, e.L ok hd r0]) (fun p p0 h => ?_) _
  · rw [e.L ok hd p0]
    unfold tn_w
    rw [e.2.2.2.1]
    by_cases c : 0 ≤ tn_L t d p ∧ tn_L t d p < tn_nT t
    · rw [if_pos c, if_pos c]
      exact (e.2.2.2.2.1 _ c.1 c.2).1
    · rw [if_neg c, if_neg c]
  · rw [e.L ok hd p0]
    rcases tn_L_in t n0 d p with k | k
    · exact absurd k h
    · rw [(e.2.2.2.2.1 _ k.1 k.2).2.1]
section RGB
variable {h : tm_H} {b : Nat} {C : Nat → Nat → Int} {J : Nat → Int}
theorem tx9_setQuiet (H : tn_E h b C J) (ok : tn_ok (tn_row (C 0) (C 4))) (hn : C 0 307 ≤ 12) (j0 : 0 ≤ J 3 ∧ J 3 ≤ 5) (t v : Int) : ∃ h', fX9_setQuiet b t v h = some ((sp_quiet (tn_row (C 0) (C 4)) t v).1, h') ∧ tn_O h' b C J (sp_quiet (tn_row (C 0) (C 4)) t v).2 ∧ tn_fr b (b + 11) h h' := by
  simp only [fX9_setQuiet, tn_th H.1, tx9_isTerm H ok, Option.bind_some, H.g.1, tx9_in]
  unfold sp_quiet
  have nt : tn_nT (tn_row (C 0) (C 4)) = C 0 307 := rfl
  have n60 : C 0 0 ≤ 60 := ok.2.1
  rw [nt]
  by_cases c1 : 0 ≤ t ∧ t < C 0 307
  · rw [tn_b1 c1, if_neg (by omega)]
    by_cases c2 : 0 ≤ v ∧ v ≤ 1
    · obtain ⟨h1, P', e1, E1, q1, f1⟩ := tx9_saves H (r := b + 1) (k0 := 0) rfl (Or.inl rfl) j0
      obtain ⟨h2, e2, E2, f2⟩ := E1.w0 (i := 308 + 6 * t + 5) v (by omega) (by omega)
      rw [tn_up2_rk] at E2
      have q2 : ∀ i : Int, 0 ≤ i → tm_up (C 0) (308 + 6 * t + 5).toNat v i.toNat = if i = 308 + 6 * t + 5 then v else C 0 i.toNat := fun i i0 => tn_upr (by omega) i0
      have off : ∀ i : Int, 0 ≤ i → i ≠ 308 + 6 * t + 5 → tm_up (C 0) (308 + 6 * t + 5).toNat v i.toNat = C 0 i.toNat := fun i i0 i1 => by rw [q2 i i0, if_neg i1]
      have sm : tn_sim (tn_row (tm_up (C 0) (308 + 6 * t + 5).toNat v) (C 4)) (tn_hsh (tn_row (C 0) (C 4)) t v) := by
        refine ⟨off 0 (by omega) (by omega), fun w w0 w1 => ⟨off _ (by omega) (by have : w < C 0 0 := w1; omega), rfl⟩, fun d d0 d1 => ⟨off _ (by omega) (by omega), fun i i0 i1 => ?_⟩, off 307 (by omega) (by omega), fun u u0 u1 => ⟨off _ (by omega) (by omega), ?_, fun k k0 k1 => ?_⟩, fun z z0 z1 => ⟨off _ (by omega) (by omega), fun _ d d0 d1 => ⟨off _ (by omega) (by omega), fun i i0 i1 => off _ (by omega) (by omega)⟩⟩⟩
        · have := (ok.c (c := d) ⟨d0, d1⟩).2
          have i1' : i < tn_sz (tn_row (C 0) (C 4)) d := i1
          exact off _ (by omega) (by omega)
        · show tm_up (C 0) (308 + 6 * t + 5).toNat v (313 + 6 * u).toNat = if u = t then v else C 0 (313 + 6 * u).toNat
          rw [q2 _ (by omega)]
          by_cases c : u = t
          · rw [if_pos (by omega), if_pos c]
          · rw [if_neg (by omega), if_neg c]
        · have tl' : tn_tl (tn_row (C 0) (C 4)) u ≤ 4 := (ok.t (t := u) ⟨u0, u1⟩).2
          have k1' : k < tn_tl (tn_row (C 0) (C 4)) u := k1
          exact off _ (by omega) (by omega)
      have okh := ok.hsh (t := t) (v := v) (by omega)
      have ok2 := okh.sim sm
      obtain ⟨h3, C3, e3, E3, s3, f3⟩ := tx9_marks E2 ok2 (by
        have : tm_up (C 0) (308 + 6 * t + 5).toNat v (Int.toNat 307) = C 0 (Int.toNat 307) := off 307 (by omega) (by omega)
        show tm_up (C 0) (308 + 6 * t + 5).toNat v (Int.toNat 307) ≤ 12
        rw [this]; exact hn)
      have m3 : tn_M (tn_row (tm_up (C 0) (308 + 6 * t + 5).toNat v) (C 4)) = tn_M (tn_hsh (tn_row (C 0) (C 4)) t v) := sm.M okh
      rw [tn_b1 c2, if_neg (by omega), if_pos (show 0 ≤ t ∧ t < C 0 307 ∧ 0 ≤ v ∧ v ≤ 1 from ⟨c1.1, c1.2, c2.1, c2.2⟩), e1, Option.bind_some, E1.g.1, Option.bind_some, tm_wr_id (z := 6 * t) (by omega) (by omega), tm_wr_id (z := 308 + 6 * t) (by omega) (by omega), tm_wr_id (z := 308 + 6 * t + 5) (by omega) (by omega), e2, Option.bind_some, e3, Option.bind_some]
      refine ⟨h3, congrArg (fun y => some (y, h3)) m3, tn_F_of q1 E3 (s3 1 (by omega) (by omega) (by omega)) (s3 3 (by omega) (by omega) (by omega)) (s3 4 (by omega) (by omega) (by omega)) rfl (tm_up_self _ _ _) ?_, (f1.tr f2).tr f3⟩
      rw [s3 0 (by omega) (by omega) (by omega), tn_rk_eq]
      exact sm
    · rw [tn_b0 c2, if_pos rfl, if_neg (fun k => c2 k.2.2)]
      exact ⟨h, rfl, H.O, tn_fr.rf⟩
  · rw [tn_b0 c1, if_pos rfl, if_neg (fun k => c1 ⟨k.1, k.2.1⟩)]
    exact ⟨h, rfl, H.O, tn_fr.rf⟩
theorem tx9_swp_l {c d : Int} (hc : 0 ≤ c ∧ c < 6) (hd : 0 ≤ d ∧ d < 6) : ∀ (m : Nat) (k : Int) (h : tm_H) (C : Nat → Nat → Int), tn_E h b C J → 0 ≤ k → k ≤ 41 → (41 - k).toNat = m → ∃ h' N', fX9_swap_L26 b c d k h = fX9_swap_L26 b c d 41 h' ∧ tn_E h' b (tn_rk C 0 N') J ∧ (∀ i : Int, 0 ≤ i → N' i.toNat = if 61 + 41 * c + k ≤ i ∧ i < 61 + 41 * c + 41 then C 0 (i - 41 * c + 41 * d).toNat else if 61 + 41 * d + k ≤ i ∧ i < 61 + 41 * d + 41 then C 0 (i - 41 * d + 41 * c).toNat else C 0 i.toNat) ∧ tn_fr b (b + 11) h h' := by
  intro m
  induction m with
  | zero =>
    intro k h C H k0 k1 hm
    exact ⟨h, C 0, by rw [show k = 41 by omega], by rw [tn_rk_self]; exact H, fun i i0 => by rw [if_neg (by omega), if_neg (by omega)], tn_fr.rf⟩
  | succ m ih =>
    intro k h C H k0 k1 hm
    obtain ⟨h1, e1, E1, f1⟩ := H.w0 (i := 61 + 41 * c + k) (C 0 (61 + 41 * d + k).toNat) (by omega) (by omega)
    obtain ⟨h2, e2, E2, f2⟩ := E1.w0 (i := 61 + 41 * d + k) (C 0 (61 + 41 * c + k).toNat) (by omega) (by omega)
    obtain ⟨h3, N', e3, E3, q3, f3⟩ := ih (k + 1) h2 _ E2 (by omega) (by omega) (by omega)
    rw [tn_up2_rk, tn_rk_rk, tn_up2_rk, tn_rk_rk] at E3
    refine ⟨h3, N', ?_, E3, fun i i0 => ?_, (f1.tr f2).tr f3⟩
    · rw [fX9_swap_L26_eq, if_pos (by omega), H.g.1, Option.bind_some, tm_wr_id (z := 41 * c) (by omega) (by omega), tm_wr_id (z := 61 + 41 * c) (by omega) (by omega), tm_wr_id (z := 61 + 41 * c + k) (by omega) (by omega), H.l0 (i := 61 + 41 * c + k) (by omega) (by omega), Option.bind_some, Option.bind_some, Option.bind_some, tm_wr_id (z := 41 * d) (by omega) (by omega), tm_wr_id (z := 61 + 41 * d) (by omega) (by omega), tm_wr_id (z := 61 + 41 * d + k) (by omega) (by omega), H.l0 (i := 61 + 41 * d + k) (by omega) (by omega), Option.bind_some, e1, Option.bind_some, E1.g.1, Option.bind_some, e2, Option.bind_some, tm_wr_id (by omega) (by omega)]
      exact e3
    · have up : ∀ j : Int, 0 ≤ j → tn_up2 (tn_up2 C 0 (61 + 41 * c + k).toNat (C 0 (61 + 41 * d + k).toNat)) 0 (61 + 41 * d + k).toNat (C 0 (61 + 41 * c + k).toNat) 0 j.toNat = if j = 61 + 41 * d + k then C 0 (61 + 41 * c + k).toNat else if j = 61 + 41 * c + k then C 0 (61 + 41 * d + k).toNat else C 0 j.toNat := fun j j0 => by
        rw [tn_up2_eq, tn_upr (by omega) j0, tn_up2_eq, tn_upr (by omega) j0]
      rw [q3 i i0]
      by_cases x1 : 61 + 41 * c + (k + 1) ≤ i ∧ i < 61 + 41 * c + 41
      · rw [if_pos x1, if_pos (show 61 + 41 * c + k ≤ i ∧ i < 61 + 41 * c + 41 by omega), up _ (by omega), if_neg (by omega), if_neg (by omega)]
      · rw [if_neg x1]
        by_cases x2 : i = 61 + 41 * c + k
        · rw [if_pos (show 61 + 41 * c + k ≤ i ∧ i < 61 + 41 * c + 41 by omega), if_neg (show ¬ (61 + 41 * d + (k + 1) ≤ i ∧ i < 61 + 41 * d + 41) by omega), up i i0, x2, show 61 + 41 * c + k - 41 * c + 41 * d = 61 + 41 * d + k by omega]
          by_cases x3 : 61 + 41 * c + k = 61 + 41 * d + k
          · rw [if_pos x3, x3]
          · rw [if_neg x3, if_pos rfl]
        · rw [if_neg (show ¬ (61 + 41 * c + k ≤ i ∧ i < 61 + 41 * c + 41) by omega)]
          by_cases x4 : 61 + 41 * d + (k + 1) ≤ i ∧ i < 61 + 41 * d + 41
          · rw [if_pos x4, if_pos (show 61 + 41 * d + k ≤ i ∧ i < 61 + 41 * d + 41 by omega), up _ (by omega), if_neg (by omega), if_neg (by omega)]
          · rw [if_neg x4, up i i0]
            by_cases x5 : i = 61 + 41 * d + k
            · rw [if_pos x5, if_pos (show 61 + 41 * d + k ≤ i ∧ i < 61 + 41 * d + 41 by omega), show i - 41 * d + 41 * c = 61 + 41 * c + k by omega]
            · rw [if_neg x5, if_neg x2, if_neg (by omega)]
theorem tx9_swap (H : tn_E h b C J) (ok : tn_ok (tn_row (C 0) (C 4))) (hn : C 0 307 ≤ 12) (j0 : 0 ≤ J 3 ∧ J 3 ≤ 5) (c d : Int) : ∃ h', fX9_swap b c d h = some ((sp_swap (tn_row (C 0) (C 4)) c d).1, h') ∧ tn_O h' b C J (sp_swap (tn_row (C 0) (C 4)) c d).2 ∧ tn_fr b (b + 11) h h' := by
  simp only [fX9_swap, tn_th H.1, tx9_isChapter, Option.bind_some, H.g.1]
  unfold sp_swap
  have n60 : C 0 0 ≤ 60 := ok.2.1
  by_cases c1 : 0 ≤ c ∧ c < 6
  · rw [tn_b1 c1, if_neg (by omega)]
    by_cases c2 : 0 ≤ d ∧ d < 6
    · obtain ⟨h1, P', e1, E1, q1, f1⟩ := tx9_saves H (r := b + 1) (k0 := 0) rfl (Or.inl rfl) j0
      obtain ⟨h2, N', e2, E2, q2, f2⟩ := tx9_swp_l (b := b) c1 c2 _ 0 h1 _ E1 (by omega) (by omega) rfl
      have q3 : ∀ i : Int, 0 ≤ i → N' i.toNat = if 61 + 41 * c ≤ i ∧ i < 61 + 41 * c + 41 then C 0 (i - 41 * c + 41 * d).toNat else if 61 + 41 * d ≤ i ∧ i < 61 + 41 * d + 41 then C 0 (i - 41 * d + 41 * c).toNat else C 0 i.toNat := fun i i0 => by
        have := q2 i i0
        rw [Int.add_zero, Int.add_zero] at this
        exact this
      have off : ∀ i : Int, 0 ≤ i → i < 61 ∨ 307 ≤ i → N' i.toNat = C 0 i.toNat := fun i i0 i1 => by rw [q3 i i0, if_neg (by omega), if_neg (by omega)]
      have cp : ∀ e j : Int, 0 ≤ e → e < 6 → 0 ≤ j → j < 41 → N' (61 + 41 * e + j).toNat = C 0 (61 + 41 * tn_pi c d e + j).toNat := fun e j e0 e1 j0 j1 => by
        rw [q3 _ (by omega)]
        unfold tn_pi
        by_cases k1 : e = c
        · rw [if_pos (by omega)]
          by_cases k2 : e = d
          · rw [if_pos k2]
            exact congrArg (fun y => C 0 (Int.toNat y)) (by omega)
          · rw [if_neg k2, if_pos k1]
            exact congrArg (fun y => C 0 (Int.toNat y)) (by omega)
        · rw [if_neg (by omega)]
          by_cases k2 : e = d
          · rw [if_pos (by omega), if_pos k2]
            exact congrArg (fun y => C 0 (Int.toNat y)) (by omega)
          · rw [if_neg (by omega), if_neg k2, if_neg k1]
      have sm : tn_sim (tn_row N' (C 4)) (tn_swp (tn_row (C 0) (C 4)) c d) := by
        refine ⟨off 0 (by omega) (by omega), fun w w0 w1 => ⟨off _ (by omega) (by have : w < C 0 0 := w1; omega), rfl⟩, fun e d0 d1 => ⟨?_, fun i i0 i1 => ?_⟩, off 307 (by omega) (by omega), fun u u0 u1 => ⟨off _ (by omega) (by omega), off _ (by omega) (by omega), fun k k0 k1 => off _ (by omega) (by omega)⟩, fun z z0 z1 => ⟨off _ (by omega) (by omega), fun _ d d0 d1 => ⟨off _ (by omega) (by omega), fun i i0 i1 => off _ (by omega) (by omega)⟩⟩⟩
        · have := cp e 0 d0 d1 (by omega) (by omega)
          rw [Int.add_zero, Int.add_zero] at this
          exact this
        · have rg := tn_pi_rg c1 c2 ⟨d0, d1⟩
          have sz := (ok.c (c := tn_pi c d e) rg).2
          have i1' : i < tn_sz (tn_row (C 0) (C 4)) (tn_pi c d e) := i1
          have := cp e (1 + i) d0 d1 (by omega) (by omega)
          rw [show 61 + 41 * e + (1 + i) = 62 + 41 * e + i by omega, show 61 + 41 * tn_pi c d e + (1 + i) = 62 + 41 * tn_pi c d e + i by omega] at this
          exact this
      have okh := ok.swp c1 c2
      have ok2 := okh.sim sm
      obtain ⟨h3, C3, e3, E3, s3, f3⟩ := tx9_marks E2 ok2 (by
        have : N' (Int.toNat 307) = C 0 (Int.toNat 307) := off 307 (by omega) (by omega)
        show N' (Int.toNat 307) ≤ 12
        rw [this]; exact hn)
      have m3 : tn_M (tn_row N' (C 4)) = tn_M (tn_swp (tn_row (C 0) (C 4)) c d) := sm.M okh
      rw [tn_b1 c2, if_neg (by omega), if_pos (show 0 ≤ c ∧ c < 6 ∧ 0 ≤ d ∧ d < 6 from ⟨c1.1, c1.2, c2.1, c2.2⟩), e1, Option.bind_some, e2, fX9_swap_L26_eq, if_neg (by omega), e3, Option.bind_some]
      refine ⟨h3, congrArg (fun y => some (y, h3)) m3, tn_F_of q1 E3 (s3 1 (by omega) (by omega) (by omega)) (s3 3 (by omega) (by omega) (by omega)) (s3 4 (by omega) (by omega) (by omega)) rfl (tm_up_self _ _ _) ?_, (f1.tr f2).tr f3⟩
      rw [s3 0 (by omega) (by omega) (by omega), tn_rk_eq]
      exact sm
    · rw [tn_b0 c2, if_pos rfl, if_neg (fun k => c2 k.2.2)]
      exact ⟨h, rfl, H.O, tn_fr.rf⟩
  · rw [tn_b0 c1, if_pos rfl, if_neg (fun k => c1 ⟨k.1, k.2.1⟩)]
    exact ⟨h, rfl, H.O, tn_fr.rf⟩
end RGB
