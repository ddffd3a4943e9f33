/-! the reference reads a text: terms and forms -/
theorem tn_sim.lik {s t : tn_St} (e : tn_sim s t) (ok : tn_ok t) {k : Int} {W W' : Int → Int} (hW : ∀ j : Int, 0 ≤ j → j < k → W j = W' j ∧ 0 ≤ W' j ∧ W' j < tn_n t) : tn_lik s k W ↔ tn_lik t k W' := by
  obtain ⟨e1, e2, e3, e4, e5, e6⟩ := e
  have ot := ok.2.2.2.2.2.2.1
  unfold tn_lik
  constructor
  · rintro ⟨u, u0, u1, u2, u3⟩
    rw [e4] at u1
    obtain ⟨k1, k2, k3⟩ := e5 u u0 u1
    rw [k1] at u2
    refine ⟨u, u0, u1, u2, fun j j0 j1 => ?_⟩
    have q := u3 j j0 j1
    have o := (ot u u0 u1).2.2.2 j j0 (by omega)
    obtain ⟨w1, w2, w3⟩ := hW j j0 j1
    rw [k3 j j0 (by omega), w1, (e2 _ o.1 o.2).1, (e2 _ w2 w3).1] at q
    exact q
  · rintro ⟨u, u0, u1, u2, u3⟩
    obtain ⟨k1, k2, k3⟩ := e5 u u0 u1
    refine ⟨u, u0, by rw [e4]; exact u1, by rw [k1]; exact u2, fun j j0 j1 => ?_⟩
    have q := u3 j j0 j1
    have o := (ot u u0 u1).2.2.2 j j0 (by omega)
    obtain ⟨w1, w2, w3⟩ := hW j j0 j1
    rw [k3 j j0 (by omega), w1, (e2 _ o.1 o.2).1, (e2 _ w2 w3).1]
    exact q
theorem tn_sim.addT {s t : tn_St} (e : tn_sim s t) {k : Int} {W W' : Int → Int} (hW : ∀ j : Int, 0 ≤ j → j < k → W j = W' j) : tn_sim (tn_addT s k W) (tn_addT t k W') := by
  obtain ⟨e1, e2, e3, e4, e5, e6⟩ := e
  refine ⟨e1, e2, e3, show tn_nT s + 1 = tn_nT t + 1 by omega, fun u u0 u1 => ?_, e6⟩
  have u1' : u < tn_nT t + 1 := u1
  show (if u = tn_nT s then k else tn_tl s u) = (if u = tn_nT t then k else tn_tl t u) ∧ (if u = tn_nT s then 0 else tn_tq s u) = (if u = tn_nT t then 0 else tn_tq t u) ∧ ∀ j : Int, 0 ≤ j → j < (if u = tn_nT t then k else tn_tl t u) → (if u = tn_nT s then W j else tn_tw s u j) = if u = tn_nT t then W' j else tn_tw t u j
  rw [e4]
  by_cases c : u = tn_nT t
  · rw [if_pos c, if_pos c, if_pos c, if_pos c]
    refine ⟨rfl, rfl, fun j j0 j1 => ?_⟩
    rw [if_pos c, if_pos c]
    exact hW j j0 j1
  · rw [if_neg c, if_neg c, if_neg c, if_neg c]
    obtain ⟨k1, k2, k3⟩ := e5 u u0 (by omega)
    refine ⟨k1, k2, fun j j0 j1 => ?_⟩
    rw [if_neg c, if_neg c]
    exact k3 j j0 j1
theorem tn_two_cg {s t : tn_St} (e : tn_sim s t) (ok : tn_ok t) {f g : Int → Int} (hf : ∀ v : Int, 0 ≤ v → v < tn_n t → f v = g v) : tn_two f s ↔ tn_two g t := by
  obtain ⟨e1, e2, e3, e4, e5, e6⟩ := e
  have ot := ok.2.2.2.2.2.2.1
  unfold tn_two
  constructor
  · rintro ⟨a, c, a0, a1, c1, q1, q2⟩
    rw [e4] at c1
    obtain ⟨k1, k2, k3⟩ := e5 a a0 (by omega)
    obtain ⟨m1, m2, m3⟩ := e5 c (by omega) c1
    rw [k1, m1] at q1
    refine ⟨a, c, a0, a1, c1, q1, fun k y0 y1 => ?_⟩
    have q := q2 k y0 (by rw [k1]; exact y1)
    have o1 := (ot a a0 (by omega)).2.2.2 k y0 y1
    have o2 := (ot c (by omega) c1).2.2.2 k y0 (by omega)
    rw [k3 k y0 y1, m3 k y0 (by omega), hf _ o1.1 o1.2, hf _ o2.1 o2.2] at q
    exact q
  · rintro ⟨a, c, a0, a1, c1, q1, q2⟩
    obtain ⟨k1, k2, k3⟩ := e5 a a0 (by omega)
    obtain ⟨m1, m2, m3⟩ := e5 c (by omega) c1
    refine ⟨a, c, a0, a1, by rw [e4]; exact c1, by rw [k1, m1]; exact q1, fun k y0 y1 => ?_⟩
    rw [k1] at y1
    have q := q2 k y0 y1
    have o1 := (ot a a0 (by omega)).2.2.2 k y0 y1
    have o2 := (ot c (by omega) c1).2.2.2 k y0 (by omega)
    rw [k3 k y0 y1, m3 k y0 (by omega), hf _ o1.1 o1.2, hf _ o2.1 o2.2]
    exact q
theorem tn_sim.may {s t : tn_St} (e : tn_sim s t) (ok : tn_ok t) {w v : Int} (hv : 0 ≤ v ∧ v < tn_n t) : tn_may s w v ↔ tn_may t w v := by
  have e0 := e
  obtain ⟨e1, e2, e3, e4, e5, e6⟩ := e
  unfold tn_may
  have h1 : (∃ u : Int, 0 ≤ u ∧ u < tn_n s ∧ u ≠ w ∧ tn_bs s u = w) ↔ ∃ u : Int, 0 ≤ u ∧ u < tn_n t ∧ u ≠ w ∧ tn_bs t u = w := by
    constructor
    · rintro ⟨u, u0, u1, u2, u3⟩
      rw [e1] at u1
      exact ⟨u, u0, u1, u2, by rw [← (e2 u u0 u1).1]; exact u3⟩
    · rintro ⟨u, u0, u1, u2, u3⟩
      exact ⟨u, u0, by rw [e1]; exact u1, u2, by rw [(e2 u u0 u1).1]; exact u3⟩
  have h2 := tn_two_cg e0 ok (f := fun u => if u = w then v else tn_bs s u) (g := fun u => if u = w then v else tn_bs t u) (fun u u0 u1 => by
    rw [(e2 u u0 u1).1])
  rw [(e2 v hv.1 hv.2).1, h1, h2]
theorem tn_sim_setB {s : tn_St} {N Lt N' : Nat → Int} {w v : Int} (e : tn_sim (tn_row N Lt) s) (ok : tn_ok s) (hw : 0 ≤ w ∧ w < tn_n s) (q : ∀ i : Int, 0 ≤ i → N' i.toNat = if i = 1 + w then v else N i.toNat) : tn_sim (tn_row N' Lt) (tn_setB s w v) := by
  obtain ⟨e1, e2, e3, e4, e5, e6⟩ := e
  have n60 := ok.2.1
  have off : ∀ i : Int, 0 ≤ i → i ≠ 1 + w → N' i.toNat = N i.toNat := fun i i0 i1 => by rw [q i i0, if_neg i1]
  refine ⟨(off 0 (by omega) (by omega)).trans e1, fun u u0 u1 => ⟨?_, (e2 u u0 u1).2⟩, fun d d0 d1 => ⟨(off _ (by omega) (by omega)).trans (e3 d d0 d1).1, fun p p0 p1 => (off _ (by omega) (by omega)).trans ((e3 d d0 d1).2 p p0 p1)⟩, (off 307 (by omega) (by omega)).trans e4, fun u u0 u1 => ⟨(off _ (by omega) (by omega)).trans (e5 u u0 u1).1, (off _ (by omega) (by omega)).trans (e5 u u0 u1).2.1, fun k k0 k1 => (off _ (by omega) (by omega)).trans ((e5 u u0 u1).2.2 k k0 k1)⟩, fun z z0 z1 => ⟨(off _ (by omega) (by omega)).trans (e6 z z0 z1).1, fun tk c c0 c1 => ⟨(off _ (by omega) (by omega)).trans ((e6 z z0 z1).2 tk c c0 c1).1, fun p p0 p1 => (off _ (by omega) (by omega)).trans (((e6 z z0 z1).2 tk c c0 c1).2 p p0 p1)⟩⟩⟩
  show N' (1 + u).toNat = if u = w then v else tn_bs s u
  rw [q _ (by omega)]
  by_cases c : u = w
  · rw [if_pos (by omega), if_pos c]
  · rw [if_neg (by omega), if_neg c]
    exact (e2 u u0 u1).1
section RHD
variable {h : tm_H} {b : Nat} {C : Nat → Nat → Int} {J : Nat → Int} {l : Int} {x : Int → Int} {P A X L0 : Nat → Int} {n0 j3 : Int} {s : tn_St}
theorem tx9_tt_l : ∀ (m : Nat) (k : Int) (h : tm_H) (C : Nat → Nat → Int), tn_E h b C J → 0 ≤ k → k ≤ 4 → (4 - k).toNat = m → ∃ h' T', fX9_takesTerm_L38 b k h = fX9_takesTerm_L38 b 4 h' ∧ tn_E h' b (tn_rk C 5 T') J ∧ (∀ i : Int, 0 ≤ i → T' i.toNat = if 1 + k ≤ i ∧ i < 5 then (if i - 1 < J 14 then C 9 (i - 1).toNat else -1) else C 5 i.toNat) ∧ tn_fr b (b + 11) h h' := by
  intro m
  induction m with
  | zero =>
    intro k h C H k0 k1 hm
    exact ⟨h, C 5, by rw [show k = 4 by omega], by rw [tn_rk_self]; exact H, fun i i0 => by rw [if_neg (by omega)], tn_fr.rf⟩
  | succ m ih =>
    intro k h C H k0 k1 hm
    obtain ⟨h1, e1, E1, f1⟩ := H.w5 (i := k + 1) (if k < J 14 then C 9 k.toNat else -1) (by omega) (by omega)
    obtain ⟨h2, T', e2, E2, q2, f2⟩ := ih (k + 1) h1 _ E1 (by omega) (by omega) (by omega)
    rw [tn_up2_rk, tn_rk_rk] at E2
    have l68 : ∀ v : Int, v = (if k < J 14 then C 9 k.toNat else -1) → fX9_takesTerm_L68 b k (b + 6) (k + 1) v h = fX9_takesTerm_L38 b 4 h2 := fun v hv => by
      rw [fX9_takesTerm_L68_eq, hv, e1, Option.bind_some, tm_wr_id (by omega) (by omega)]
      exact e2
    refine ⟨h2, T', ?_, E2, fun i i0 => ?_, f1.tr f2⟩
    · rw [fX9_takesTerm_L38_eq, if_pos (by omega), H.g7, Option.bind_some, H.j.2.2.2.2, Option.bind_some, tm_wr_id (z := k + 1) (by omega) (by omega)]
      by_cases c : k < J 14
      · rw [if_pos c, H.g9.2.2, Option.bind_some, H.l9 k0 (by omega), Option.bind_some]
        exact l68 _ (by rw [if_pos c])
      · rw [if_neg c]
        exact l68 _ (by rw [if_neg c])
    · rw [q2 i i0, tn_up2_ne (show 9 ≠ 5 by omega), tn_up2_eq, tn_upr (by omega) i0]
      by_cases y : i = k + 1
      · rw [if_neg (by omega), if_pos y, if_pos (show 1 + k ≤ i ∧ i < 5 by omega), show i - 1 = k by omega]
      · by_cases z : 1 + k ≤ i ∧ i < 5
        · rw [if_pos (by omega), if_pos z]
        · rw [if_neg (by omega), if_neg y, if_neg z]
theorem tx9_takesTerm (Z : tn_Z h b P A X L0 n0 j3 l s C J) (hx : tn_xx l x X) (ps : tn_ps l x (J 11) (J 12)) : ∃ v h', fX9_takesTerm b h = some (v, h') ∧ tn_Zr h' b P A X L0 n0 j3 l x v (tn_iT l x s (J 12)) ∧ tn_fr b (b + 11) h h' := by
  have en := ps.en
  have s0 := ps.1
  have l1 := hx.2.1
  have n7 : ¬ tn_isl 59 := fun k => by have := k.1; omega
  obtain ⟨v, h1, e1, P1, f1⟩ := tx9_takesWords Z hx (show 0 ≤ J 12 ∧ J 12 ≤ l by omega) 4 (by omega)
  have e1' : fX9_takesWords b 4 h = some (v, h1) := e1
  have tok := tn_tk2_ok (l := l) (x := x) 4 s (tn_ts l x (J 12)) (tn_te l x (tn_ts l x (J 12))) (fun _ => 0) 0 Z.2.2.2.2.2.1 ps.nx (by omega) (fun j j0 j1 => by omega)
  have tok2 := fun s' st' en' W' i' y => (tn_tk2_ok (l := l) (x := x) 4 s (tn_ts l x (J 12)) (tn_te l x (tn_ts l x (J 12))) (fun _ => 0) 0 Z.2.2.2.2.2.1 ps.nx (by omega) (fun j j0 j1 => by omega) s' st' en' W' i' y).2.1
  have nTs := Z.2.2.2.2.2.2.2
  simp only [fX9_takesTerm, tn_th Z.1.1, e1', Option.bind_some]
  unfold tn_iT
  revert P1 tok tok2
  generalize tn_tk2 l x 4 s (tn_ts l x (J 12)) (tn_te l x (tn_ts l x (J 12))) (fun _ => 0) 0 = r
  cases r with
  | inl f =>
    rintro ⟨v0, zf⟩ _ _
    rw [v0, if_pos rfl]
    exact ⟨0, h1, rfl, ⟨rfl, zf⟩, f1⟩
  | inr y =>
    obtain ⟨s', st', en', W', i'⟩ := y
    rintro ⟨v1, C3, J3, Z3, k11, k12, k14, kW⟩ tok tok2
    obtain ⟨t1, t2, t3, t4, t5, t6, t7, t8, t9⟩ := tok s' st' en' W' i' rfl
    have t8' : i' ≤ 4 := by have : i' ≤ 0 + ((4 : Nat) : Int) := t8; omega
    have ps3 : tn_ps l x (J3 11) (J3 12) := by rw [k11, k12]; exact t4
    have en3 := ps3.en
    have s3 := ps3.1
    have nT3 : tn_nT s' ≤ 12 := Z3.2.2.2.2.2.2.2
    have n307 : C3 0 307 = tn_nT s' := Z3.2.2.2.2.1.2.2.2.1
    rw [v1, if_neg (by omega), Z3.1.j.2.2.2.2, Option.bind_some]
    unfold tn_iT2
    dsimp only
    rw [← k11, ← k12, k14]
    by_cases c1 : i' = 0
    · rw [if_pos c1, if_pos (Or.inl c1)]
      exact ⟨0, h1, rfl, ⟨rfl, Z3.f⟩, f1⟩
    · rw [if_neg c1, tx9_isSign Z3.1 (Z3.xx hx) Z3.j5 ps3 ⟨by omega, n7⟩, Option.bind_some]
      by_cases c2 : tn_ch l x (J3 11) = 59
      · obtain ⟨h2, e2, E2, f2⟩ := Z3.1.w5 (i := 0) i' (by omega) (by omega)
        obtain ⟨h3, T, e3, E3, q3, f3⟩ := tx9_tt_l (b := b) (J := J3) _ 0 h2 _ E2 (by omega) (by omega) rfl
        rw [tn_up2_rk, tn_rk_rk] at E3
        have Z4 := Z3.rk E3 (by omega)
        have T0 : T 0 = i' := by
          have := q3 0 (by omega)
          rw [if_neg (by omega), tn_up2_eq, tn_upr (by omega) (by omega), if_pos rfl] at this
          exact this
        have TW : ∀ j : Int, 0 ≤ j → j < i' → T (1 + j).toNat = W' j := fun j j0 j1 => by
          rw [q3 _ (by omega), if_pos (by omega), if_pos (by omega), tn_up2_ne (show 9 ≠ 5 by omega), show 1 + j - 1 = j by omega]
          exact kW j j0 j1
        have rl : tn_rl (tn_rk C3 5 T) 12 = i' := T0
        have rt : ∀ k : Int, tn_rt (tn_rk C3 5 T) 12 k = T (1 + k).toNat := fun k => rfl
        have h12 : tn_tok2 (tn_rk C3 5 T) 12 := ⟨by omega, by omega, by rw [rl]; omega, by rw [rl]; omega, fun k k0 k1 => by
          rw [rl] at k1
          rw [rt, TW k k0 k1]
          have := t6 k k0 k1
          have := t1.2.1
          omega⟩
        have th := tx9_isThere E3 Z4.okC Z4.hnC h12
        have lk : tn_lik (tn_row (tn_rk C3 5 T 0) (tn_rk C3 5 T 4)) (tn_rl (tn_rk C3 5 T) 12) (tn_rt (tn_rk C3 5 T) 12) ↔ tn_lik s' i' W' := by
          rw [rl]
          exact Z4.2.2.2.2.1.lik t1 (fun j j0 j1 => ⟨by rw [rt]; exact TW j j0 j1, t6 j j0 j1⟩)
        rw [tn_b1 c2, if_neg (by omega), Z3.1.g7, Option.bind_some, Option.bind_some, e2, Option.bind_some, e3, fX9_takesTerm_L38_eq, if_neg (by omega), th, Option.bind_some, tn_bc lk]
        by_cases c3 : tn_lik s' i' W'
        · rw [tn_b1 c3, if_neg (by omega), if_pos (Or.inr (Or.inr (Or.inr c3)))]
          exact ⟨0, h3, rfl, ⟨rfl, Z4.f⟩, (f1.tr f2).tr f3⟩
        · rw [tn_b0 c3, if_pos rfl, E3.g.1, Option.bind_some, E3.l0 (by omega) (by omega), Option.bind_some, show tn_rk C3 5 T 0 (Int.toNat 307) = C3 0 307 from rfl]
          by_cases c4 : C3 0 307 = 12
          · rw [if_pos c4, if_pos (Or.inr (Or.inr (Or.inl (by omega))))]
            exact ⟨0, h3, rfl, ⟨rfl, Z4.f⟩, (f1.tr f2).tr f3⟩
          · obtain ⟨h5, N', e5, E5, sm, f5⟩ := tx9_comes E3 Z4.okC (show C3 0 307 < 12 by omega) (K := i') (by omega) T0
            have nn : 0 ≤ C3 0 307 := by rw [n307]; exact t1.2.2.2.2.1
            have e5' : fX9_comes b h3 = some (C3 0 307, h5) := e5
            have no : ¬ (i' = 0 ∨ tn_ch l x (J3 11) ≠ 59 ∨ 12 ≤ tn_nT s' ∨ tn_lik s' i' W') := by
              rintro (k | k | k | k)
              · exact c1 k
              · exact k c2
              · omega
              · exact c3 k
            rw [if_neg c4, e5', Option.bind_some, if_neg no]
            dsimp only
            rw [if_neg (by omega)]
            refine ⟨1, h5, rfl, ⟨rfl, _, J3, ⟨E5, Z3.2.1, Z3.2.2.1, Z3.2.2.2.1, ?_, t1.addT (by omega) (by omega) t6, Z3.2.2.2.2.2.2.1, show tn_nT s' + 1 ≤ 12 by omega⟩, by omega, by omega, rfl, rfl⟩, ((f1.tr f2).tr f3).tr f5⟩
            exact tn_sim.tr sm (Z4.2.2.2.2.1.addT (fun j j0 j1 => TW j j0 j1))
      · rw [tn_b0 c2, if_pos rfl, if_pos (Or.inr (Or.inl c2))]
        exact ⟨0, h1, rfl, ⟨rfl, Z3.f⟩, f1⟩
/-- one word, and what follows -/
theorem tx9_one (Z : tn_Z h b P A X L0 n0 j3 l s C J) (hx : tn_xx l x X) (h12 : 0 ≤ J 12 ∧ J 12 ≤ l) : ∃ v h', fX9_takesWords b 1 h = some (v, h') ∧ tn_fr b (b + 11) h h' ∧ ((v = 0 ∧ tn_rw l x s (tn_ts l x (J 12)) (tn_te l x (tn_ts l x (J 12))) = -99 ∧ tn_Zf h' b P A X L0 n0 j3 l (tn_ts l x (J 12))) ∨ (v = 0 ∧ tn_rw l x s (tn_ts l x (J 12)) (tn_te l x (tn_ts l x (J 12))) ≠ -99 ∧ tn_isl (tn_ch l x (tn_ts l x (tn_te l x (tn_ts l x (J 12))))) ∧ tn_Zf h' b P A X L0 n0 j3 l (tn_ts l x (tn_te l x (tn_ts l x (J 12))))) ∨ (v = 1 ∧ tn_rw l x s (tn_ts l x (J 12)) (tn_te l x (tn_ts l x (J 12))) = -99 ∧ ∃ C' J', tn_Z h' b P A X L0 n0 j3 l s C' J' ∧ J' 14 = 0 ∧ J' 11 = tn_ts l x (J 12)) ∨ (v = 1 ∧ tn_rw l x s (tn_ts l x (J 12)) (tn_te l x (tn_ts l x (J 12))) ≠ -99 ∧ ∃ C' J', tn_Z h' b P A X L0 n0 j3 l (tn_rs x s (tn_ts l x (J 12)) (tn_te l x (tn_ts l x (J 12)))) C' J' ∧ J' 14 = 1 ∧ J' 11 = tn_ts l x (tn_te l x (tn_ts l x (J 12))) ∧ J' 12 = tn_te l x (tn_ts l x (tn_te l x (tn_ts l x (J 12)))) ∧ C' 9 0 = tn_rw l x s (tn_ts l x (J 12)) (tn_te l x (tn_ts l x (J 12))))) := by
  obtain ⟨v, h1, e1, P1, f1⟩ := tx9_takesWords Z hx h12 1 (by omega)
  refine ⟨v, h1, e1, f1, ?_⟩
  simp only [tn_tk2] at P1
  by_cases c1 : tn_isl (tn_ch l x (tn_ts l x (J 12)))
  · rw [if_pos c1] at P1
    by_cases c2 : tn_rw l x s (tn_ts l x (J 12)) (tn_te l x (tn_ts l x (J 12))) = -99
    · rw [if_pos c2] at P1
      exact Or.inl ⟨P1.1, c2, P1.2⟩
    · rw [if_neg c2] at P1
      by_cases c3 : tn_isl (tn_ch l x (tn_ts l x (tn_te l x (tn_ts l x (J 12)))))
      · rw [if_pos c3] at P1
        exact Or.inr (Or.inl ⟨P1.1, c2, c3, P1.2⟩)
      · rw [if_neg c3] at P1
        obtain ⟨v1, C3, J3, Z3, k11, k12, k14, kW⟩ := P1
        exact Or.inr (Or.inr (Or.inr ⟨v1, c2, C3, J3, Z3, k14, k11, k12, (kW 0 (by omega) (by omega)).trans (if_pos rfl)⟩))
  · rw [if_neg c1] at P1
    obtain ⟨v1, C3, J3, Z3, k11, k12, k14, kW⟩ := P1
    exact Or.inr (Or.inr (Or.inl ⟨v1, by unfold tn_rw; rw [if_neg (fun k => c1 k.1)], C3, J3, Z3, k14, k11⟩))
theorem tx9_takesForm (Z : tn_Z h b P A X L0 n0 j3 l s C J) (hx : tn_xx l x X) (ps : tn_ps l x (J 11) (J 12)) : ∃ v h', fX9_takesForm b h = some (v, h') ∧ tn_Zr h' b P A X L0 n0 j3 l x v (tn_iF l x s (J 12)) ∧ tn_fr b (b + 11) h h' := by
  have en := ps.en
  have s0 := ps.1
  have l1 := hx.2.1
  have n6 : ¬ tn_isl 61 := fun k => by have := k.1; omega
  have n7 : ¬ tn_isl 59 := fun k => by have := k.1; omega
  obtain ⟨v, h1, e1, f1, D1⟩ := tx9_one Z hx (show 0 ≤ J 12 ∧ J 12 ≤ l by omega)
  have p1 := ps.nx
  have q1 := p1.en
  have p2 := p1.nx
  simp only [fX9_takesForm, tn_th Z.1.1, e1, Option.bind_some]
  unfold tn_iF tn_iF1
  rcases D1 with ⟨v0, r0, zf⟩ | ⟨v0, r0, i0, zf⟩ | ⟨v0, r0, C1, J1, Z1, k14, k11⟩ | ⟨v0, r0, C1, J1, Z1, k14, k11, k12, k9⟩
  · rw [v0, if_pos rfl, if_pos r0]
    exact ⟨0, h1, rfl, ⟨rfl, zf⟩, f1⟩
  · have ne : tn_ch l x (tn_ts l x (tn_te l x (tn_ts l x (J 12)))) ≠ 61 := fun k => by rw [k] at i0; exact n6 i0
    rw [v0, if_pos rfl, if_neg r0, if_pos ne]
    exact ⟨0, h1, rfl, ⟨rfl, zf⟩, f1⟩
  · rw [v0, if_neg (by omega), Z1.1.j.2.2.2.2, Option.bind_some, if_pos k14, if_pos r0]
    exact ⟨0, h1, rfl, ⟨rfl, by rw [← k11]; exact Z1.f⟩, f1⟩
  · have ps1 : tn_ps l x (J1 11) (J1 12) := by rw [k11, k12]; exact p2
    have en1 := ps1.en
    have s1 := ps1.1
    obtain ⟨o1, o2, o3, o4⟩ := tn_rs_ok (l := l) (x := x) Z.2.2.2.2.2.1 r0
    rw [v0, if_neg (by omega), Z1.1.j.2.2.2.2, Option.bind_some, if_neg (by omega), tx9_isSign Z1.1 (Z1.xx hx) Z1.j5 ps1 ⟨by omega, n6⟩, Option.bind_some, if_neg r0, ← k12, ← k11]
    by_cases c1 : tn_ch l x (J1 11) = 61
    · have c1' : ¬ tn_ch l x (J1 11) ≠ 61 := fun k => k c1
      obtain ⟨v2, h2, e2, f2, D2⟩ := tx9_one Z1 hx (show 0 ≤ J1 12 ∧ J1 12 ≤ l by omega)
      have l9 : tm_lI h1 0 (b + 10) 0 = some (C1 9 0) := Z1.1.l9 (by omega) (by omega)
      have q3 := ps1.nx
      have q4 := q3.nx
      rw [tn_b1 c1, if_neg (by omega), if_neg c1', Z1.1.g9.2.2, Option.bind_some, l9, Option.bind_some, e2, Option.bind_some]
      dsimp only
      unfold tn_iF2
      rcases D2 with ⟨v0, r1, zf⟩ | ⟨v0, r1, i0, zf⟩ | ⟨v0, r1, C2, J2, Z2, m14, m11⟩ | ⟨v0, r1, C2, J2, Z2, m14, m11, m12, m9⟩
      · rw [v0, if_pos rfl, if_pos r1]
        exact ⟨0, h2, rfl, ⟨rfl, zf⟩, f1.tr f2⟩
      · have ne : tn_ch l x (tn_ts l x (tn_te l x (tn_ts l x (J1 12)))) ≠ 59 := fun k => by rw [k] at i0; exact n7 i0
        rw [v0, if_pos rfl, if_neg r1, if_pos ne]
        exact ⟨0, h2, rfl, ⟨rfl, zf⟩, f1.tr f2⟩
      · rw [v0, if_neg (by omega), Z2.1.j.2.2.2.2, Option.bind_some, if_pos m14, if_pos r1]
        exact ⟨0, h2, rfl, ⟨rfl, by rw [← m11]; exact Z2.f⟩, f1.tr f2⟩
      · have ps2 : tn_ps l x (J2 11) (J2 12) := by rw [m11, m12]; exact q4
        have en2 := ps2.en
        have s2 := ps2.1
        obtain ⟨y1, y2, y3, y4⟩ := tn_rs_ok (l := l) (x := x) o1 r1
        rw [v0, if_neg (by omega), Z2.1.j.2.2.2.2, Option.bind_some, if_neg (by omega), tx9_isSign Z2.1 (Z2.xx hx) Z2.j5 ps2 ⟨by omega, n7⟩, Option.bind_some, if_neg r1, ← m12, ← m11]
        by_cases c2 : tn_ch l x (J2 11) = 59
        · have c2' : ¬ tn_ch l x (J2 11) ≠ 59 := fun k => k c2
          have l92 : tm_lI h2 0 (b + 10) 0 = some (C2 9 0) := Z2.1.l9 (by omega) (by omega)
          have n60 := y1.2.1
          have sim2 := Z2.2.2.2.2.1
          have bsd := (sim2.2.1 _ y3 y4).1
          have bs0 : tn_bs (tn_row (C2 0) (C2 4)) (C2 9 0) = C2 0 (1 + C2 9 0).toNat := rfl
          rw [← m9, bs0] at bsd
          have brg := y1.2.2.1 _ y3 y4
          rw [← m9] at y3 y4 brg
          have lb : tm_lI h2 0 (b + 1) (1 + C2 9 0) = some (C2 0 (1 + C2 9 0).toNat) := Z2.1.l0 (by omega) (by omega)
          have wr : 0 ≤ C1 9 0 ∧ C1 9 0 < tn_n (tn_rs x (tn_rs x s (tn_ts l x (J 12)) (tn_te l x (tn_ts l x (J 12)))) (tn_ts l x (J1 12)) (tn_te l x (tn_ts l x (J1 12)))) := by rw [k9]; exact ⟨o3, Int.lt_of_lt_of_le o4 y2⟩
          have nn2 := Z2.n
          obtain ⟨h3, e3, E3, f3⟩ := tx9_canBe Z2.1 Z2.okC Z2.hnC (w := C1 9 0) (x := C2 0 (1 + C2 9 0).toNat) (by rw [nn2]; exact wr) (by rw [nn2, bsd]; exact brg)
          have my := sim2.may y1 (w := C1 9 0) (v := C2 0 (1 + C2 9 0).toNat) (by rw [bsd]; exact brg)
          rw [tn_b1 c2, if_neg (by omega), if_neg c2', Z2.1.g.1, Option.bind_some, Z2.1.g9.2.2, Option.bind_some, l92, Option.bind_some, tm_wr_id (z := 1 + C2 9 0) (by omega) (by omega), lb, Option.bind_some, e3, Option.bind_some]
          dsimp only
          rw [tn_bc my, ← k9, ← m9, ← bsd]
          by_cases c3 : tn_may (tn_rs x (tn_rs x s (tn_ts l x (J 12)) (tn_te l x (tn_ts l x (J 12)))) (tn_ts l x (J1 12)) (tn_te l x (tn_ts l x (J1 12)))) (C1 9 0) (C2 0 (1 + C2 9 0).toNat)
          · obtain ⟨h4, e4, E4, f4⟩ := E3.w0 (i := 1 + C1 9 0) (C2 0 (1 + C2 9 0).toNat) (by omega) (by omega)
            rw [tn_b1 c3, if_neg (by omega), if_pos c3, E3.g.1, Option.bind_some, tm_wr_id (z := 1 + C1 9 0) (by omega) (by omega), e4, Option.bind_some]
            refine ⟨1, h4, rfl, ⟨rfl, _, J2, ⟨E4, Z2.2.1, Z2.2.2.1, Z2.2.2.2.1, ?_, y1.setB (by rw [bsd]; exact brg), Z2.2.2.2.2.2.2.1, Z2.2.2.2.2.2.2.2⟩, by omega, by omega, rfl, rfl⟩, ((f1.tr f2).tr f3).tr f4⟩
            exact tn_sim_setB sim2 y1 wr (fun i i0 => by rw [tn_up2_eq, tn_upr (by omega) i0])
          · rw [tn_b0 c3, if_pos rfl, if_neg c3]
            exact ⟨0, h3, rfl, ⟨rfl, C2, J2, E3, Z2.2.1, Z2.2.2.1, Z2.2.2.2.1, rfl⟩, (f1.tr f2).tr f3⟩
        · rw [tn_b0 c2, if_pos rfl, if_pos c2]
          exact ⟨0, h2, rfl, ⟨rfl, Z2.f⟩, f1.tr f2⟩
    · rw [tn_b0 c1, if_pos rfl, if_pos c1]
      exact ⟨0, h1, rfl, ⟨rfl, Z1.f⟩, f1⟩
end RHD
