/-! the reference: marks are counted, what would be -/
theorem tn_ra.nd {C C' : Nat → Nat → Int} {wo wt c n : Int} {s' : tn_St} (D : tn_nd C wo wt s' (fun t => t)) (hc : 0 ≤ c ∧ c < 6) (R : tn_ra (tn_gl C c wo wt) (tn_gw C) (tn_gq C) n C') : tn_ra (tn_L s' c) (tn_w s') (tn_tq s') n C' := by
  have ge : tn_gl C c wo wt = tn_L s' c := funext (fun p => D.g hc p)
  have rd : ∀ m, tn_rd (tn_gl C c wo wt) (tn_gw C) m = tn_rd (tn_L s' c) (tn_w s') m := tn_rd_nm (fun p _ => D.e1 hc p)
  intro i i0 i1
  obtain ⟨a1, a2, a3⟩ := R i i0 i1
  have fm : tn_fm (tn_gl C c wo wt) (tn_gw C) i = tn_fm (tn_L s' c) (tn_w s') i := by unfold tn_fm; rw [rd]
  have ov : tn_ov (tn_gl C c wo wt) (tn_gw C) i = tn_ov (tn_L s' c) (tn_w s') i := by unfold tn_ov; rw [fm, ge]
  have wh : tn_wh (tn_gl C c wo wt) (tn_gw C) i = tn_wh (tn_L s' c) (tn_w s') i := by unfold tn_wh; rw [ov, fm]
  have mk := tn_bc (tn_mk_nm (fun p _ => D.e1 hc p) (fun p _ => D.e2 hc p) (fun p r _ _ => D.e3 hc p r) (fun p _ h => D.e4 hc p h) i0)
  exact ⟨a1.trans (by rw [ov]), a2.trans (by rw [wh]), a3.trans (by rw [mk])⟩
section RFY
variable {h : tm_H} {b : Nat} {C : Nat → Nat → Int} {J : Nat → Int}
theorem tn_sc.G {C' : Nat → Nat → Int} (hs : tn_sc C C') (H : tn_E h b C' J) : tn_G h b C J := ⟨C', J, H, fun k hk _ => hs k (by omega) (by omega) (by omega), rfl, rfl⟩
theorem tx9_reads (H : tn_E h b C J) (ok : tn_ok (tn_row (C 0) (C 4))) (hn : C 0 307 ≤ 12) {c : Int} (hc : 0 ≤ c ∧ c < 6) : ∃ h' C', fX9_reads b c h = some (tn_km (tn_L (tn_row (C 0) (C 4)) c) (tn_w (tn_row (C 0) (C 4))) (tn_tq (tn_row (C 0) (C 4))) (tn_sz (tn_row (C 0) (C 4)) c), h') ∧ tn_E h' b C' J ∧ tn_sc C C' ∧ tn_ra (tn_L (tn_row (C 0) (C 4)) c) (tn_w (tn_row (C 0) (C 4))) (tn_tq (tn_row (C 0) (C 4))) (tn_sz (tn_row (C 0) (C 4)) c) C' ∧ tn_fr b (b + 11) h h' := by
  obtain ⟨h1, C1, e1, E1, s1, a1, f1⟩ := tx9_readsBy H ok hn (wo := -1) (wt := 0) hc (fun k => absurd rfl k)
  have D := tn_nd_id ok hn (wo := -1) (by omega)
  refine ⟨h1, C1, ?_, E1, s1, a1.nd D hc, f1⟩
  simp only [fX9_reads, tn_th H.1, e1, Option.bind_some]
  rw [D.km hc]
  rfl
theorem tx9_am_l {C0 : Nat → Nat → Int} (ok : tn_ok (tn_row (C0 0) (C0 4))) (hn : C0 0 307 ≤ 12) {wo : Int} : ∀ (m : Nat) (k : Int) (h : tm_H) (C : Nat → Nat → Int), tn_E h b C J → tn_sc C0 C → 0 ≤ k → k ≤ 6 → (6 - k).toNat = m → ∃ h' C', fX9_allMarks_L4 b wo (tn_sm (tn_mw C0 wo 0) k.toNat) k h = some (tn_sm (tn_mw C0 wo 0) 6, h') ∧ tn_E h' b C' J ∧ tn_sc C0 C' ∧ tn_fr b (b + 11) h h' := by
  intro m
  induction m with
  | zero =>
    intro k h C H hs k0 k1 hm
    rw [fX9_allMarks_L4_eq, if_neg (by omega), show k.toNat = 6 by omega]
    exact ⟨h, C, rfl, H, hs, tn_fr.rf⟩
  | succ m ih =>
    intro k h C H hs k0 k1 hm
    have ok1 : tn_ok (tn_row (C 0) (C 4)) := by rw [hs 0 (by omega) (by omega) (by omega), hs 4 (by omega) (by omega) (by omega)]; exact ok
    have n1 : C 0 307 ≤ 12 := by rw [hs 0 (by omega) (by omega) (by omega)]; exact hn
    obtain ⟨h1, C1, e1, E1, s1, a1, f1⟩ := tx9_readsBy H ok1 n1 (wo := wo) (wt := 0) (c := k) ⟨k0, by omega⟩ (fun y => absurd rfl y)
    have mwk : tn_km (tn_gl C k wo 0) (tn_gw C) (tn_gq C) (C 0 (61 + 41 * k).toNat) = tn_mw C0 wo 0 k := by rw [← tn_mw_sc hs]; rfl
    have r1 := tn_mw_rg ok wo 0 (d := k) ⟨k0, by omega⟩
    have r2 := tn_sm_rg (f := tn_mw C0 wo 0) (B := 40) (m := k.toNat) (fun i i0 i1 => tn_mw_rg ok wo 0 ⟨i0, by omega⟩)
    obtain ⟨h2, C2, e2, E2, s2, f2⟩ := ih (k + 1) h1 C1 E1 (hs.tr s1) (by omega) (by omega) (by omega)
    rw [tn_sm_su k0] at e2
    refine ⟨h2, C2, ?_, E2, s2, f1.tr f2⟩
    rw [fX9_allMarks_L4_eq, if_pos (by omega), e1, Option.bind_some]
    dsimp only
    rw [mwk, tm_wr_id (z := k + 1) (by omega) (by omega), tm_wr_id (by omega) (by omega)]
    exact e2
theorem tx9_allMarks (H : tn_E h b C J) (ok : tn_ok (tn_row (C 0) (C 4))) (hn : C 0 307 ≤ 12) (wo : Int) : ∃ h' C', fX9_allMarks b wo h = some (tn_sm (tn_mw C wo 0) 6, h') ∧ tn_E h' b C' J ∧ tn_sc C C' ∧ tn_fr b (b + 11) h h' := by
  obtain ⟨h1, C1, e1, E1, s1, f1⟩ := tx9_am_l (b := b) (J := J) ok hn (wo := wo) _ 0 h C H (tn_sc.rf C) (by omega) (by omega) rfl
  refine ⟨h1, C1, ?_, E1, s1, f1⟩
  simp only [fX9_allMarks, tn_th H.1]
  exact e1
theorem tx9_marks (H : tn_E h b C J) (ok : tn_ok (tn_row (C 0) (C 4))) (hn : C 0 307 ≤ 12) : ∃ h' C', fX9_allMarks b (-1) h = some (tn_M (tn_row (C 0) (C 4)), h') ∧ tn_E h' b C' J ∧ tn_sc C C' ∧ tn_fr b (b + 11) h h' := by
  obtain ⟨h1, C1, e1, E1, s1, f1⟩ := tx9_allMarks H ok hn (-1)
  refine ⟨h1, C1, ?_, E1, s1, f1⟩
  rw [e1, (tn_nd_id ok hn (wo := -1) (by omega)).M (fun d _ _ => rfl)]
theorem tx9_gain_l {C0 : Nat → Nat → Int} (ok : tn_ok (tn_row (C0 0) (C0 4))) (hn : C0 0 307 ≤ 12) (h12 : tn_tok2 C0 12) {a1 a2 a3 a4 : Int} : ∀ (m : Nat) (k : Int) (h : tm_H) (C : Nat → Nat → Int), tn_E h b C J → tn_sc C0 C → 0 ≤ k → k ≤ 6 → (6 - k).toNat = m → ∃ h' C', fX9_gain_L30 b a1 a2 a3 a4 (tn_sm (tn_mw C0 (-1) 1) k.toNat - tn_sm (tn_mw C0 (-1) 0) k.toNat) k h = some (100 + (tn_sm (tn_mw C0 (-1) 1) 6 - tn_sm (tn_mw C0 (-1) 0) 6), h') ∧ tn_E h' b C' J ∧ tn_sc C0 C' ∧ tn_fr b (b + 11) h h' := by
  have q1 : ∀ k : Int, 0 ≤ k → k ≤ 6 → 0 ≤ tn_sm (tn_mw C0 (-1) 1) k.toNat ∧ tn_sm (tn_mw C0 (-1) 1) k.toNat ≤ 240 := fun k k0 k1 => by
    have := tn_sm_rg (f := tn_mw C0 (-1) 1) (B := 40) (m := k.toNat) (fun i i0 i1 => tn_mw_rg ok (-1) 1 ⟨i0, by omega⟩)
    omega
  have q0 : ∀ k : Int, 0 ≤ k → k ≤ 6 → 0 ≤ tn_sm (tn_mw C0 (-1) 0) k.toNat ∧ tn_sm (tn_mw C0 (-1) 0) k.toNat ≤ 240 := fun k k0 k1 => by
    have := tn_sm_rg (f := tn_mw C0 (-1) 0) (B := 40) (m := k.toNat) (fun i i0 i1 => tn_mw_rg ok (-1) 0 ⟨i0, by omega⟩)
    omega
  intro m
  induction m with
  | zero =>
    intro k h C H hs k0 k1 hm
    have x1 := q1 k k0 k1
    have x0 := q0 k k0 k1
    rw [fX9_gain_L30_eq, if_neg (by omega), tm_wr_id (by omega) (by omega), show k.toNat = 6 by omega]
    exact ⟨h, C, rfl, H, hs, tn_fr.rf⟩
  | succ m ih =>
    intro k h C H hs k0 k1 hm
    have ok1 : tn_ok (tn_row (C 0) (C 4)) := by rw [hs 0 (by omega) (by omega) (by omega), hs 4 (by omega) (by omega) (by omega)]; exact ok
    have n1 : C 0 307 ≤ 12 := by rw [hs 0 (by omega) (by omega) (by omega)]; exact hn
    obtain ⟨h1, C1, e1, E1, s1, a1', f1⟩ := tx9_readsBy H ok1 n1 (wo := -1) (wt := 1) (c := k) ⟨k0, by omega⟩ (fun _ => tn_tok2_sc hs h12)
    have hs1 := hs.tr s1
    have ok2 : tn_ok (tn_row (C1 0) (C1 4)) := by rw [hs1 0 (by omega) (by omega) (by omega), hs1 4 (by omega) (by omega) (by omega)]; exact ok
    have n2 : C1 0 307 ≤ 12 := by rw [hs1 0 (by omega) (by omega) (by omega)]; exact hn
    obtain ⟨h2, C2, e2, E2, s2, a2', f2⟩ := tx9_reads E1 ok2 n2 (c := k) ⟨k0, by omega⟩
    have w1 : tn_km (tn_gl C k (-1) 1) (tn_gw C) (tn_gq C) (C 0 (61 + 41 * k).toNat) = tn_mw C0 (-1) 1 k := by rw [← tn_mw_sc hs]; rfl
    have w0 : tn_km (tn_L (tn_row (C1 0) (C1 4)) k) (tn_w (tn_row (C1 0) (C1 4))) (tn_tq (tn_row (C1 0) (C1 4))) (tn_sz (tn_row (C1 0) (C1 4)) k) = tn_mw C0 (-1) 0 k := by
      rw [← (tn_nd_id ok2 n2 (wo := -1) (by omega)).km ⟨k0, by omega⟩, ← tn_mw_sc hs1]; rfl
    have r1 := tn_mw_rg ok (-1) 1 (d := k) ⟨k0, by omega⟩
    have r0 := tn_mw_rg ok (-1) 0 (d := k) ⟨k0, by omega⟩
    have x1 := q1 k k0 k1
    have x0 := q0 k k0 k1
    obtain ⟨h3, C3, e3, E3, s3, f3⟩ := ih (k + 1) h2 C2 E2 (hs1.tr s2) (by omega) (by omega) (by omega)
    rw [tn_sm_su k0, tn_sm_su k0] at e3
    refine ⟨h3, C3, ?_, E3, s3, (f1.tr f2).tr f3⟩
    rw [fX9_gain_L30_eq, if_pos (by omega), e1, Option.bind_some]
    dsimp only
    rw [e2, Option.bind_some]
    dsimp only
    rw [w1, w0, tm_wr_id (z := k + 1) (by omega) (by omega), tm_wr_id (z := tn_mw C0 (-1) 1 k - tn_mw C0 (-1) 0 k) (by omega) (by omega), tm_wr_id (by omega) (by omega), show tn_sm (tn_mw C0 (-1) 1) k.toNat - tn_sm (tn_mw C0 (-1) 0) k.toNat + (tn_mw C0 (-1) 1 k - tn_mw C0 (-1) 0 k) = tn_sm (tn_mw C0 (-1) 1) k.toNat + tn_mw C0 (-1) 1 k - (tn_sm (tn_mw C0 (-1) 0) k.toNat + tn_mw C0 (-1) 0 k) by omega]
    exact e3
theorem tx9_gain (H : tn_E h b C J) (ok : tn_ok (tn_row (C 0) (C 4))) (hn : C 0 307 ≤ 12) (a1 a2 a3 a4 : Int) : ∃ h', fX9_gain b a1 a2 a3 a4 h = some (sp_gain (tn_row (C 0) (C 4)) a1 a2 a3 a4, h') ∧ tn_G h' b C J ∧ tn_fr b (b + 11) h h' := by
  have n60 : C 0 0 ≤ 60 := ok.2.1
  obtain ⟨h1, T, e1, E1, T0, T1, T2, T3, T4, f1⟩ := tx9_tries H ok a1 a2 a3 a4
  have G1 : tn_G h1 b C J := ⟨_, _, E1, fun k hk _ => tn_rk_ne (by omega), rfl, rfl⟩
  have K := tn_aK_rg a2 a3 a4
  simp only [fX9_gain, tn_th H.1, e1, Option.bind_some]
  unfold sp_gain sp_ask
  have nd : tn_n (tn_row (C 0) (C 4)) = C 0 0 := rfl
  rw [nd]
  by_cases V : tn_aV (C 0 0) a1 a2 a3 a4
  · have hW := tn_aW_in V
    have TW : ∀ j : Int, 0 ≤ j → j < 4 → T (1 + j).toNat = tn_aW a1 a2 a3 a4 j := fun j j0 j1 => by
      have : j = 0 ∨ j = 1 ∨ j = 2 ∨ j = 3 := by omega
      rcases this with k | k | k | k <;> subst k
      · exact T1
      · exact T2
      · exact T3
      · exact T4
    have rl : tn_rl (tn_rk C 5 T) 12 = tn_aK a2 a3 a4 := T0
    have rt : ∀ k : Int, tn_rt (tn_rk C 5 T) 12 k = T (1 + k).toNat := fun k => rfl
    have h12 : tn_tok2 (tn_rk C 5 T) 12 := ⟨by omega, by omega, by rw [rl]; exact K.1, by rw [rl]; exact K.2, fun k k0 k1 => by
      rw [rl] at k1
      rw [rt, TW k k0 (by omega)]
      have := hW k k0 k1
      omega⟩
    have ok1 : tn_ok (tn_row (tn_rk C 5 T 0) (tn_rk C 5 T 4)) := ok
    have th := tx9_isThere E1 ok1 hn h12
    have lk : tn_lik (tn_row (tn_rk C 5 T 0) (tn_rk C 5 T 4)) (tn_rl (tn_rk C 5 T) 12) (tn_rt (tn_rk C 5 T) 12) ↔ tn_lik (tn_row (C 0) (C 4)) (tn_aK a2 a3 a4) (tn_aW a1 a2 a3 a4) := by
      rw [rl]
      unfold tn_lik
      exact ⟨fun ⟨u, u0, u1, u2, u3⟩ => ⟨u, u0, u1, u2, fun j j0 j1 => by rw [← TW j j0 (by omega)]; exact u3 j j0 j1⟩, fun ⟨u, u0, u1, u2, u3⟩ => ⟨u, u0, u1, u2, fun j j0 j1 => by rw [rt, TW j j0 (by omega)]; exact u3 j j0 j1⟩⟩
    rw [tn_b1 V, if_neg (by omega), th, Option.bind_some, tn_bc lk]
    simp only [if_pos V]
    by_cases k : tn_lik (tn_row (C 0) (C 4)) (tn_aK a2 a3 a4) (tn_aW a1 a2 a3 a4)
    · simp only [if_pos k]
      rw [tn_b1 k, if_neg (by omega), if_pos (by omega)]
      exact ⟨h1, rfl, G1, f1⟩
    · simp only [if_neg k]
      rw [tn_b0 k, if_pos rfl, if_neg (by omega)]
      obtain ⟨h2, C2, e2, E2, s2, f2⟩ := tx9_gain_l (b := b) (J := J) (C0 := tn_rk C 5 T) ok hn h12 (a1 := a1) (a2 := a2) (a3 := a3) (a4 := a4) _ 0 h1 _ E1 (tn_sc.rf _) (by omega) (by omega) rfl
      have M1 := (tn_nd_add (C := tn_rk C 5 T) ok hn (K := tn_aK a2 a3 a4) (W := tn_aW a1 a2 a3 a4) T0 (fun j j0 j1 => TW j j0 (by omega))).M (fun d _ _ => rfl)
      have M0 := (tn_nd_id (C := tn_rk C 5 T) ok hn (wo := -1) (by omega)).M (fun d _ _ => rfl)
      rw [M1, M0] at e2
      refine ⟨h2, ?_, ⟨C2, J, E2, fun k hk _ => (s2 k (by omega) (by omega) (by omega)).trans (tn_rk_ne (by omega)), rfl, rfl⟩, f1.tr f2⟩
      refine Eq.trans e2 ?_
      rw [show tn_row (tn_rk C 5 T 0) (tn_rk C 5 T 4) = tn_row (C 0) (C 4) from rfl]
      exact congrArg (fun y => some (y, h2)) (by omega)
  · rw [tn_b0 V, if_pos rfl]
    simp only [if_neg V]
    rw [if_pos (by omega)]
    exact ⟨h1, rfl, G1, f1⟩
theorem tn_gr_nn {s : tn_St} (ok : tn_ok s) : ∀ m : Nat, (m : Int) ≤ tn_nT s → 0 < m → 0 ≤ (tn_gr s m).1
  | 0, _, h => absurd h (by omega)
  | m + 1, h1, _ => by
    have r := tn_M_rg (ok.drp (d := m) (by omega))
    simp only [tn_gr]
    by_cases c : (tn_gr s m).2 < tn_M (tn_drp s m)
    · rw [if_pos c]
      exact Int.natCast_nonneg m
    · rw [if_neg c]
      by_cases d : m = 0
      · subst d
        exact absurd (show (-1 : Int) < tn_M (tn_drp s ((0 : Nat) : Int)) by omega) c
      · exact tn_gr_nn ok m (by omega) (by omega)
theorem tx9_greedy_l {C0 : Nat → Nat → Int} (ok : tn_ok (tn_row (C0 0) (C0 4))) (hn : C0 0 307 ≤ 12) : ∀ (m : Nat) (k : Int) (h : tm_H) (C : Nat → Nat → Int), tn_E h b C J → tn_sc C0 C → 0 ≤ k → k ≤ C0 0 307 → (C0 0 307 - k).toNat = m → ∃ h' C', fX9_greediest_L7 b (tn_gr (tn_row (C0 0) (C0 4)) k.toNat).1 (if k = 0 then 0 else (tn_gr (tn_row (C0 0) (C0 4)) k.toNat).2) k h = some ((tn_gr (tn_row (C0 0) (C0 4)) (C0 0 307).toNat).1, h') ∧ tn_E h' b C' J ∧ tn_sc C0 C' ∧ tn_fr b (b + 11) h h' := by
  intro m
  induction m with
  | zero =>
    intro k h C H hs k0 k1 hm
    have n0 : C 0 (Int.toNat 307) = C0 0 307 := by rw [hs 0 (by omega) (by omega) (by omega)]; rfl
    rw [fX9_greediest_L7_eq, H.g.1, Option.bind_some, H.l0 (by omega) (by omega), Option.bind_some, n0, if_neg (by omega), show k = C0 0 307 by omega]
    exact ⟨h, C, rfl, H, hs, tn_fr.rf⟩
  | succ m ih =>
    intro k h C H hs k0 k1 hm
    have n0 : C 0 (Int.toNat 307) = C0 0 307 := by rw [hs 0 (by omega) (by omega) (by omega)]; rfl
    have ok1 : tn_ok (tn_row (C 0) (C 4)) := by rw [hs 0 (by omega) (by omega) (by omega), hs 4 (by omega) (by omega) (by omega)]; exact ok
    have n1 : C 0 307 ≤ 12 := by rw [hs 0 (by omega) (by omega) (by omega)]; exact hn
    obtain ⟨h1, C1, e1, E1, s1, f1⟩ := tx9_allMarks H ok1 n1 k
    have M1 := (tn_nd_drp ok hn (d := k) ⟨k0, by omega⟩).M (fun d _ _ => rfl)
    rw [tn_mw_sc hs, M1] at e1
    have r := tn_M_rg (ok.drp (d := k) ⟨k0, show k < C0 0 307 by omega⟩)
    have su : tn_gr (tn_row (C0 0) (C0 4)) (k + 1).toNat = if (tn_gr (tn_row (C0 0) (C0 4)) k.toNat).2 < tn_M (tn_drp (tn_row (C0 0) (C0 4)) k) then (k, tn_M (tn_drp (tn_row (C0 0) (C0 4)) k)) else tn_gr (tn_row (C0 0) (C0 4)) k.toNat := by
      rw [show (k + 1).toNat = k.toNat + 1 by omega]
      simp only [tn_gr]
      rw [Int.toNat_of_nonneg k0]
    obtain ⟨h2, C2, e2, E2, s2, f2⟩ := ih (k + 1) h1 C1 E1 (hs.tr s1) (by omega) (by omega) (by omega)
    rw [su, if_neg (show ¬ k + 1 = 0 by omega)] at e2
    refine ⟨h2, C2, ?_, E2, s2, f1.tr f2⟩
    rw [fX9_greediest_L7_eq, H.g.1, Option.bind_some, H.l0 (by omega) (by omega), Option.bind_some, n0, if_pos (by omega), e1, Option.bind_some]
    dsimp only
    rw [fX9_greediest_L38_eq, fX9_greediest_L43_eq, fX9_greediest_L43_eq, tm_wr_id (z := k + 1) (by omega) (by omega)]
    by_cases c0 : k = 0
    · subst c0
      have g0 : tn_gr (tn_row (C0 0) (C0 4)) (Int.toNat 0) = (-99, -1) := rfl
      rw [g0] at e2 ⊢
      rw [if_pos (show (-1 : Int) < tn_M (tn_drp (tn_row (C0 0) (C0 4)) 0) by omega)] at e2
      rw [if_pos rfl]
      exact e2
    · have nn := tn_gr_nn ok k.toNat (show ((k.toNat : Nat) : Int) ≤ C0 0 307 by omega) (by omega)
      rw [if_neg (by omega), if_neg c0]
      by_cases c : (tn_gr (tn_row (C0 0) (C0 4)) k.toNat).2 < tn_M (tn_drp (tn_row (C0 0) (C0 4)) k)
      · rw [if_pos c] at e2
        rw [if_pos c]
        exact e2
      · rw [if_neg c] at e2
        rw [if_neg c]
        exact e2
theorem tx9_greediest (H : tn_E h b C J) (ok : tn_ok (tn_row (C 0) (C 4))) (hn : C 0 307 ≤ 12) : ∃ h', fX9_greediest b h = some ((tn_gr (tn_row (C 0) (C 4)) (tn_nT (tn_row (C 0) (C 4))).toNat).1, h') ∧ tn_G h' b C J ∧ tn_fr b (b + 11) h h' := by
  have n0 : 0 ≤ C 0 307 := ok.2.2.2.2.1
  obtain ⟨h1, C1, e1, E1, s1, f1⟩ := tx9_greedy_l (b := b) (J := J) ok hn _ 0 h C H (tn_sc.rf C) (by omega) n0 rfl
  rw [if_pos rfl] at e1
  refine ⟨h1, ?_, s1.G E1, f1⟩
  simp only [fX9_greediest, tn_th H.1]
  exact e1
end RFY
