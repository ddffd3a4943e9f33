/-! the reference reads a text: rows of words, chapters -/
/-- what stands when words were read -/
def tn_Zw (h : tm_H) (b : Nat) (P A X L0 : Nat → Int) (n0 j3 l v : Int) : tn_Rew → Prop
  | .inl f => v = 0 ∧ tn_Zf h b P A X L0 n0 j3 l f
  | .inr (s', (st', (en', (W', i')))) => v = 1 ∧ ∃ (C' : Nat → Nat → Int) (J' : Nat → Int), tn_Z h b P A X L0 n0 j3 l s' C' J' ∧ J' 11 = st' ∧ J' 12 = en' ∧ J' 14 = i' ∧ ∀ j : Int, 0 ≤ j → j < i' → C' 9 j.toNat = W' j
/-- what stands when an item was read, but for the step to the next token -/
def tn_Zr (h : tm_H) (b : Nat) (P A X L0 : Nat → Int) (n0 j3 l : Int) (x : Int → Int) (v : Int) : tn_Ret → Prop
  | .inl f => v = 0 ∧ tn_Zf h b P A X L0 n0 j3 l f
  | .inr (s', (st', en')) => v = 1 ∧ ∃ (C' : Nat → Nat → Int) (J' : Nat → Int), tn_Z h b P A X L0 n0 j3 l s' C' J' ∧ 0 ≤ J' 12 ∧ J' 12 ≤ l ∧ st' = tn_ts l x (J' 12) ∧ en' = tn_te l x (tn_ts l x (J' 12))
section RHC
variable {h : tm_H} {b : Nat} {C : Nat → Nat → Int} {J : Nat → Int} {l : Int} {x : Int → Int} {P A X L0 : Nat → Int} {n0 j3 : Int} {s : tn_St}
/-- the next token -/
theorem tn_Z.token (Z : tn_Z h b P A X L0 n0 j3 l s C J) (hx : tn_xx l x X) (h12 : 0 ≤ J 12 ∧ J 12 ≤ l) : ∃ h' J', fX9_token b h = some h' ∧ tn_Z h' b P A X L0 n0 j3 l s C J' ∧ J' 11 = tn_ts l x (J 12) ∧ J' 12 = tn_te l x (tn_ts l x (J 12)) ∧ J' 14 = J 14 ∧ tn_ps l x (J' 11) (J' 12) ∧ tn_fr b (b + 11) h h' := by
  obtain ⟨h1, J1, e1, E1, t1, f1⟩ := tx9_token Z.1 (Z.xx hx) Z.j5 h12
  obtain ⟨t11, t12, t3, t5, t14⟩ := t1
  have q := tn_ts_rg (x := x) h12.2
  refine ⟨h1, J1, e1, Z.tj E1 t3 t5, t11, t12, t14, ?_, f1⟩
  rw [t11, t12]
  exact ⟨by omega, q.2, rfl⟩
theorem tx9_tw_l (hx : tn_xx l x X) {K : Int} (hK : K ≤ 40) : ∀ (k : Nat) (s : tn_St) (W : Int → Int) (i : Int) (h : tm_H) (C : Nat → Nat → Int) (J : Nat → Int), tn_Z h b P A X L0 n0 j3 l s C J → tn_ps l x (J 11) (J 12) → J 14 = i → 0 ≤ i → i + k = K → (∀ j : Int, 0 ≤ j → j < i → C 9 j.toNat = W j) → ∃ v h', fX9_takesWords_L9 b K h = some (v, h') ∧ tn_Zw h' b P A X L0 n0 j3 l v (tn_tk2 l x k s (J 11) (J 12) W i) ∧ tn_fr b (b + 11) h h' := by
  intro k
  induction k with
  | zero =>
    intro s W i h C J Z ps hi i0 hk hW
    rw [fX9_takesWords_L9_eq, tx9_isRun Z.1 (Z.xx hx) Z.j5 ps, Option.bind_some]
    simp only [tn_tk2]
    by_cases c : tn_isl (tn_ch l x (J 11))
    · rw [tn_b1 c, if_neg (by omega), if_pos c, Z.1.j.2.2.2.2, Option.bind_some, if_pos (by omega), fX9_takesWords_L33_eq, if_pos rfl]
      exact ⟨0, h, rfl, ⟨rfl, Z.f⟩, tn_fr.rf⟩
    · rw [tn_b0 c, if_pos rfl, if_neg c]
      exact ⟨1, h, rfl, ⟨rfl, C, J, Z, rfl, rfl, hi, hW⟩, tn_fr.rf⟩
  | succ k ih =>
    intro s W i h C J Z ps hi i0 hk hW
    rw [fX9_takesWords_L9_eq, tx9_isRun Z.1 (Z.xx hx) Z.j5 ps, Option.bind_some]
    simp only [tn_tk2]
    by_cases c : tn_isl (tn_ch l x (J 11))
    · obtain ⟨h1, C1, e1, Z1, c9, f1⟩ := tx9_wordHere Z hx ps
      rw [tn_b1 c, if_neg (by omega), if_pos c, Z.1.j.2.2.2.2, Option.bind_some, if_neg (by omega), e1, Option.bind_some]
      dsimp only
      rw [fX9_takesWords_L33_eq]
      by_cases c2 : tn_rw l x s (J 11) (J 12) = -99
      · rw [if_pos c2, if_pos c2]
        exact ⟨0, h1, rfl, ⟨rfl, Z1.f⟩, f1⟩
      · rw [if_neg c2] at Z1
        obtain ⟨h2, e2, E2, f2⟩ := Z1.1.w9 (i := J 14) (tn_rw l x s (J 11) (J 12)) (by omega) (by omega)
        rw [tn_up2_rk] at E2
        have Z2 := Z1.rk E2 (by omega)
        obtain ⟨h3, e3, E3, f3⟩ := E2.s 14 (J 14 + 1) (by omega)
        have Z3 := Z2.tj E3 rfl rfl
        have en := ps.en
        have s0 := ps.1
        obtain ⟨h4, J4, e4, Z4, j11, j12, j14, ps4, f4⟩ := Z3.token hx (show 0 ≤ J 12 ∧ J 12 ≤ l by omega)
        have j11' : J4 11 = tn_ts l x (J 12) := j11
        have j12' : J4 12 = tn_te l x (tn_ts l x (J 12)) := j12
        have j14' : J4 14 = J 14 + 1 := j14
        obtain ⟨v, h5, e5, P5, f5⟩ := ih (tn_rs x s (J 11) (J 12)) (fun j => if j = i then tn_rw l x s (J 11) (J 12) else W j) (i + 1) h4 _ J4 Z4 ps4 (by omega) (by omega) (by omega) (fun j j0 j1 => by
          rw [tn_rk_eq, tn_upr (by omega) j0, c9, hi]
          by_cases y : j = i
          · rw [if_pos y, if_pos y]
          · rw [if_neg y, if_neg y]; exact hW j j0 (by omega))
        rw [j11', j12'] at P5
        refine ⟨v, h5, ?_, by rw [if_neg c2]; exact P5, (((f1.tr f2).tr f3).tr f4).tr f5⟩
        rw [if_neg c2, Z1.1.g9.2.2, Option.bind_some, Z1.1.j.2.2.2.2, Option.bind_some, e2, Option.bind_some, E2.j.2.2.2.2, Option.bind_some, tm_wr_id (by omega) (by omega), e3, Option.bind_some, e4, Option.bind_some]
        exact e5
    · rw [tn_b0 c, if_pos rfl, if_neg c]
      exact ⟨1, h, rfl, ⟨rfl, C, J, Z, rfl, rfl, hi, hW⟩, tn_fr.rf⟩
theorem tx9_takesWords (Z : tn_Z h b P A X L0 n0 j3 l s C J) (hx : tn_xx l x X) (h12 : 0 ≤ J 12 ∧ J 12 ≤ l) (k : Nat) (hk : k ≤ 40) : ∃ v h', fX9_takesWords b (k : Int) h = some (v, h') ∧ tn_Zw h' b P A X L0 n0 j3 l v (tn_tk2 l x k s (tn_ts l x (J 12)) (tn_te l x (tn_ts l x (J 12))) (fun _ => 0) 0) ∧ tn_fr b (b + 11) h h' := by
  obtain ⟨h1, e1, E1, f1⟩ := Z.1.s 14 0 (by omega)
  have Z1 := Z.tj E1 rfl rfl
  obtain ⟨h2, J2, e2, Z2, j11, j12, j14, ps2, f2⟩ := Z1.token hx (show 0 ≤ J 12 ∧ J 12 ≤ l from h12)
  have j11' : J2 11 = tn_ts l x (J 12) := j11
  have j12' : J2 12 = tn_te l x (tn_ts l x (J 12)) := j12
  have j14' : J2 14 = 0 := j14
  obtain ⟨v, h3, e3, P3, f3⟩ := tx9_tw_l hx (K := k) (by omega) k s (fun _ => 0) 0 h2 C J2 Z2 ps2 j14' (by omega) (by omega) (fun j j0 j1 => by omega)
  rw [j11', j12'] at P3
  refine ⟨v, h3, ?_, P3, (f1.tr f2).tr f3⟩
  simp only [fX9_takesWords, tn_th Z.1.1, e1, e2, Option.bind_some]
  exact e3
theorem tx9_tc_l {c : Int} (hc : 0 ≤ c ∧ c < 6) : ∀ (m : Nat) (k : Int) (h : tm_H) (C : Nat → Nat → Int), tn_E h b C J → 0 ≤ k → k ≤ J 14 → J 14 ≤ 40 → (J 14 - k).toNat = m → ∃ h' N', fX9_takesChapter_L102 b c k h = some (1, h') ∧ tn_E h' b (tn_rk C 0 N') J ∧ (∀ i : Int, 0 ≤ i → N' i.toNat = if 62 + 41 * c + k ≤ i ∧ i < 62 + 41 * c + J 14 then C 9 (i - (62 + 41 * c)).toNat else C 0 i.toNat) ∧ tn_fr b (b + 11) h h' := by
  intro m
  induction m with
  | zero =>
    intro k h C H k0 k1 k2 hm
    refine ⟨h, C 0, ?_, by rw [tn_rk_self]; exact H, fun i i0 => by rw [if_neg (by omega)], tn_fr.rf⟩
    rw [fX9_takesChapter_L102_eq, H.j.2.2.2.2, Option.bind_some, if_neg (by omega)]
  | succ m ih =>
    intro k h C H k0 k1 k2 hm
    obtain ⟨h1, e1, E1, f1⟩ := H.w0 (i := 62 + 41 * c + k) (C 9 k.toNat) (by omega) (by omega)
    obtain ⟨h2, N', e2, E2, q2, f2⟩ := ih (k + 1) h1 _ E1 (by omega) (by omega) k2 (by omega)
    rw [tn_up2_rk, tn_rk_rk] at E2
    refine ⟨h2, N', ?_, E2, fun i i0 => ?_, f1.tr f2⟩
    · rw [fX9_takesChapter_L102_eq, H.j.2.2.2.2, Option.bind_some, if_pos (by omega), H.g.1, Option.bind_some, tx9_at hc (by omega), Option.bind_some, H.g9.2.2, Option.bind_some, H.l9 k0 (by omega), Option.bind_some, e1, Option.bind_some, tm_wr_id (by omega) (by omega)]
      exact e2
    · rw [q2 i i0, tn_up2_ne (show 9 ≠ 0 by omega), tn_up2_eq, tn_upr (by omega) i0]
      by_cases y : i = 62 + 41 * c + k
      · rw [if_neg (by omega), if_pos y, if_pos (show 62 + 41 * c + k ≤ i ∧ i < 62 + 41 * c + J 14 by omega), show i - (62 + 41 * c) = k by omega]
      · by_cases z : 62 + 41 * c + k ≤ i ∧ i < 62 + 41 * c + J 14
        · rw [if_pos (by omega), if_pos z]
        · rw [if_neg (by omega), if_neg y, if_neg z]
/-- a chapter's words are others -/
theorem tn_sim_setC {N Lt N' : Nat → Int} {c k : Int} {W : Int → Int} (e : tn_sim (tn_row N Lt) s) (ok : tn_ok s) (hc : 0 ≤ c ∧ c < 6) (hk : 0 ≤ k ∧ k ≤ 40) (q : ∀ i : Int, 0 ≤ i → N' i.toNat = if 62 + 41 * c ≤ i ∧ i < 62 + 41 * c + k then W (i - (62 + 41 * c)) else if i = 61 + 41 * c then k else N i.toNat) : tn_sim (tn_row N' Lt) (tn_setC s c k W) := by
  obtain ⟨e1, e2, e3, e4, e5, e6⟩ := e
  have n60 := ok.2.1
  have off : ∀ i : Int, 0 ≤ i → i < 61 + 41 * c ∨ 62 + 41 * c + 40 ≤ i → N' i.toNat = N i.toNat := fun i i0 i1 => by rw [q i i0, if_neg (by omega), if_neg (by omega)]
  refine ⟨(off 0 (by omega) (by omega)).trans e1, fun w w0 w1 => ?_, fun d d0 d1 => ?_, (off 307 (by omega) (by omega)).trans e4, fun u u0 u1 => ⟨(off _ (by omega) (by omega)).trans (e5 u u0 u1).1, (off _ (by omega) (by omega)).trans (e5 u u0 u1).2.1, fun k k0 k1 => (off _ (by omega) (by omega)).trans ((e5 u u0 u1).2.2 k k0 k1)⟩, fun z z0 z1 => ⟨(off _ (by omega) (by omega)).trans (e6 z z0 z1).1, fun tk c c0 c1 => ⟨(off _ (by omega) (by omega)).trans ((e6 z z0 z1).2 tk c c0 c1).1, fun p p0 p1 => (off _ (by omega) (by omega)).trans (((e6 z z0 z1).2 tk c c0 c1).2 p p0 p1)⟩⟩⟩
  · have w1' : w < tn_n s := w1
    exact ⟨(off _ (by omega) (by omega)).trans (e2 w w0 w1).1, (e2 w w0 w1).2⟩
  · show N' (61 + 41 * d).toNat = (if d = c then k else tn_sz s d) ∧ ∀ p : Int, 0 ≤ p → p < (if d = c then k else tn_sz s d) → N' (62 + 41 * d + p).toNat = if d = c then W p else tn_wd s d p
    by_cases y : d = c
    · rw [if_pos y]
      refine ⟨by rw [q _ (by omega), if_neg (by omega), if_pos (by omega)], fun p p0 p1 => ?_⟩
      rw [if_pos y, q _ (by omega), if_pos (by omega), show 62 + 41 * d + p - (62 + 41 * c) = p by omega]
    · rw [if_neg y]
      have sz := ok.c (c := d) ⟨d0, d1⟩
      refine ⟨(off _ (by omega) (by omega)).trans (e3 d d0 d1).1, fun p p0 p1 => ?_⟩
      rw [if_neg y]
      exact (off _ (by omega) (by omega)).trans ((e3 d d0 d1).2 p p0 p1)
theorem tx9_takesChapter (Z : tn_Z h b P A X L0 n0 j3 l s C J) (hx : tn_xx l x X) (ps : tn_ps l x (J 11) (J 12)) : ∃ v h', fX9_takesChapter b h = some (v, h') ∧ tn_Zr h' b P A X L0 n0 j3 l x v (tn_iC l x s (J 12)) ∧ tn_fr b (b + 11) h h' := by
  have en := ps.en
  have s0 := ps.1
  have l1 := hx.2.1
  have n6 : ¬ tn_isl 58 := fun k => by have := k.1; omega
  have n7 : ¬ tn_isl 59 := fun k => by have := k.1; omega
  obtain ⟨h1, J1, e1, Z1, a11, a12, a14, ps1, f1⟩ := Z.token hx (show 0 ≤ J 12 ∧ J 12 ≤ l by omega)
  have en1 := ps1.en
  have s1 := ps1.1
  have hx3 := Z1.xx hx
  simp only [fX9_takesChapter, tn_th Z.1.1, e1, Z1.1.j.2.2.1, Z1.1.j.2.2.2.1, Z1.1.g9.1, Option.bind_some]
  rw [tm_wr_id (z := J1 11 + 1) (by omega) (by omega)]
  unfold tn_iC
  rw [← a12, ← a11]
  have bad : ¬ (0 ≤ tn_ch l x (J1 11) - 48 ∧ tn_ch l x (J1 11) - 48 < 6) → (some (0, h1) : Option (Int × tm_H)) = some (0, h1) ∧ tn_Zr h1 b P A X L0 n0 j3 l x 0 (if ¬ (0 ≤ tn_ch l x (J1 11) - 48 ∧ tn_ch l x (J1 11) - 48 < 6) then .inl (J1 11) else if tn_ch l x (tn_ts l x (J1 12)) ≠ 58 then .inl (tn_ts l x (J1 12)) else tn_iC2 l x (tn_ch l x (J1 11) - 48) (tn_tk2 l x 40 s (tn_ts l x (tn_te l x (tn_ts l x (J1 12)))) (tn_te l x (tn_ts l x (tn_te l x (tn_ts l x (J1 12))))) (fun _ => 0) 0)) ∧ tn_fr b (b + 11) h h1 := fun k => ⟨rfl, by rw [if_pos k]; exact ⟨rfl, Z1.f⟩, f1⟩
  by_cases c1 : J1 12 = J1 11 + 1
  · have xe : tn_ch l x (J1 11) = x (J1 11) := if_pos ⟨s1, by omega⟩
    have rd : tm_lI h1 0 (b + 4) (J1 11) = some (tn_ch l x (J1 11)) := by rw [Z1.1.l3 s1 (by omega), (hx3.2.2 _ s1 (by omega)).1, xe]
    rw [if_pos c1, rd]
    simp only [Option.bind_some]
    rw [tx9_in, Option.bind_some]
    by_cases c2 : 48 ≤ tn_ch l x (J1 11) ∧ tn_ch l x (J1 11) ≤ 53
    · have c2' : ¬ ¬ (0 ≤ tn_ch l x (J1 11) - 48 ∧ tn_ch l x (J1 11) - 48 < 6) := by omega
      obtain ⟨h2, J2, e2, Z2, d11, d12, d14, ps2, f2⟩ := Z1.token hx (show 0 ≤ J1 12 ∧ J1 12 ≤ l by omega)
      have en2 := ps2.en
      have s2 := ps2.1
      rw [tn_b1 c2, if_neg (by omega), e2, Option.bind_some, tx9_isSign Z2.1 (Z2.xx hx) Z2.j5 ps2 ⟨by omega, n6⟩, Option.bind_some, if_neg c2', ← d12, ← d11]
      by_cases c3 : tn_ch l x (J2 11) = 58
      · obtain ⟨v, h3, e3, P3, f3⟩ := tx9_takesWords Z2 hx (show 0 ≤ J2 12 ∧ J2 12 ≤ l by omega) 40 (by omega)
        have e3' : fX9_takesWords b 40 h2 = some (v, h3) := e3
        have tok := tn_tk2_ok (l := l) (x := x) 40 s (tn_ts l x (J2 12)) (tn_te l x (tn_ts l x (J2 12))) (fun _ => 0) 0 Z2.2.2.2.2.2.1 ps2.nx (by omega) (fun j j0 j1 => by omega)
        have c3' : ¬ tn_ch l x (J2 11) ≠ 58 := fun k => k c3
        rw [tn_b1 c3, if_neg (by omega), e3', Option.bind_some, if_neg c3']
        revert P3 tok
        generalize tn_tk2 l x 40 s (tn_ts l x (J2 12)) (tn_te l x (tn_ts l x (J2 12))) (fun _ => 0) 0 = r
        cases r with
        | inl f =>
          rintro ⟨v0, zf⟩ _
          dsimp only
          rw [v0, if_pos rfl]
          exact ⟨0, h3, rfl, ⟨rfl, zf⟩, (f1.tr f2).tr f3⟩
        | inr y =>
          obtain ⟨s', st', en', W', i'⟩ := y
          rintro ⟨v1, C3, J3, Z3, k11, k12, k14, kW⟩ tok
          obtain ⟨t1, t2, t3, t4, t5, t6, t7, t8, t9⟩ := tok s' st' en' W' i' rfl
          have ps3 : tn_ps l x (J3 11) (J3 12) := by rw [k11, k12]; exact t4
          have en3 := ps3.en
          have s3 := ps3.1
          dsimp only
          rw [v1, if_neg (by omega), tx9_isSign Z3.1 (Z3.xx hx) Z3.j5 ps3 ⟨by omega, n7⟩, Option.bind_some]
          unfold tn_iC2
          dsimp only
          rw [← k11, ← k12]
          by_cases c4 : tn_ch l x (J3 11) = 59
          · have t8' : i' ≤ 40 := by have : i' ≤ 0 + ((40 : Nat) : Int) := t8; omega
            obtain ⟨h4, e4, E4, f4⟩ := Z3.1.w0 (i := 61 + 41 * (tn_ch l x (J1 11) - 48)) (J3 14) (by omega) (by omega)
            obtain ⟨h5, N', e5, E5, q5, f5⟩ := tx9_tc_l (b := b) (J := J3) (c := tn_ch l x (J1 11) - 48) (by omega) _ 0 h4 _ E4 (by omega) (by omega) (by omega) rfl
            rw [tn_up2_rk, tn_rk_rk] at E5
            rw [tn_b1 c4, if_neg (by omega), if_pos c4, Z3.1.g.1, Option.bind_some, Z3.1.j.2.2.2.2, Option.bind_some, tm_wr_id (z := tn_ch l x (J1 11) - 48) (by omega) (by omega), tm_wr_id (z := 41 * (tn_ch l x (J1 11) - 48)) (by omega) (by omega), tm_wr_id (z := 61 + 41 * (tn_ch l x (J1 11) - 48)) (by omega) (by omega), e4, Option.bind_some, e5]
            have sm : tn_sim (tn_row N' (C3 4)) (tn_setC s' (tn_ch l x (J1 11) - 48) i' W') := by
              refine tn_sim_setC Z3.2.2.2.2.1 t1 (by omega) (by omega) (fun i i0 => ?_)
              rw [q5 i i0, k14, tn_up2_ne (show 9 ≠ 0 by omega), tn_up2_eq, tn_upr (by omega) i0, Int.add_zero]
              by_cases y : 62 + 41 * (tn_ch l x (J1 11) - 48) ≤ i ∧ i < 62 + 41 * (tn_ch l x (J1 11) - 48) + i'
              · rw [if_pos y, if_pos y]; exact kW _ (by omega) (by omega)
              · rw [if_neg y, if_neg y]
            refine ⟨1, h5, rfl, ⟨rfl, tn_rk C3 0 N', J3, ⟨E5, Z3.2.1, Z3.2.2.1, Z3.2.2.2.1, sm, t1.setC (by omega) (fun j j0 j1 => t6 j j0 j1), Z3.2.2.2.2.2.2.1, Z3.2.2.2.2.2.2.2⟩, by omega, by omega, rfl, rfl⟩, (((f1.tr f2).tr f3).tr f4).tr f5⟩
          · rw [tn_b0 c4, if_pos rfl, if_neg c4]
            exact ⟨0, h3, rfl, ⟨rfl, Z3.f⟩, (f1.tr f2).tr f3⟩
      · rw [tn_b0 c3, if_pos rfl, if_pos c3]
        exact ⟨0, h2, rfl, ⟨rfl, Z2.f⟩, f1.tr f2⟩
    · rw [tn_b0 c2, if_pos rfl]
      exact ⟨0, h1, bad (by omega)⟩
  · rw [if_neg c1]
    refine ⟨0, h1, bad ?_⟩
    intro k
    have lt : J1 11 < l := by
      by_cases y : J1 11 < l
      · exact y
      · unfold tn_ch at k
        rw [if_neg (fun z => y z.2)] at k
        omega
    have xe : tn_ch l x (J1 11) = x (J1 11) := if_pos ⟨s1, lt⟩
    have := tn_te_one (x := x) lt (by rw [← xe]; intro y; have := y.1; omega)
    have := ps1.2.2
    omega
end RHC
