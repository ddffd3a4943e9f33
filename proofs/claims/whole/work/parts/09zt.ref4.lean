/-! the reference: slots, terms that are alike, bases -/
section RFO
variable {h : tm_H} {b : Nat} {C : Nat → Nat → Int} {J : Nat → Int}
theorem tx9_isSlot (y : Int) : fX9_isSlot y h = some (tn_b (0 ≤ y ∧ y < 2)) := by
  simp only [fX9_isSlot, tx9_in, Option.bind_some, tn_zr]
  rw [tn_bc]
  omega
/-- rows that are the same but for the chapters -/
theorem tn_sim_all {N N' Lt : Nat → Int} {sz : Int → Int} {wd : Int → Int → Int} (ok : tn_ok (tn_row N Lt)) (off : ∀ i : Int, 0 ≤ i → i < 61 ∨ 307 ≤ i → N' i.toNat = N i.toNat) (e : ∀ c : Int, 0 ≤ c → c < 6 → N' (61 + 41 * c).toNat = sz c ∧ ∀ p : Int, 0 ≤ p → p < sz c → N' (62 + 41 * c + p).toNat = wd c p) : tn_sim (tn_row N' Lt) ((tn_row N Lt).1, ((sz, wd), (tn_row N Lt).2.2)) := by
  exact ⟨off 0 (by omega) (by omega), fun v v0 v1 => ⟨off _ (by omega) (by have : v < N 0 := v1; have := ok.2.1; have : N 0 ≤ 60 := this; omega), rfl⟩, e, off 307 (by omega) (by omega), fun t t0 t1 => ⟨off _ (by omega) (by omega), off _ (by omega) (by omega), fun k k0 k1 => off _ (by omega) (by omega)⟩, fun z z0 z1 => ⟨off _ (by omega) (by omega), fun _ d d0 d1 => ⟨off _ (by omega) (by omega), fun i i0 i1 => off _ (by omega) (by omega)⟩⟩⟩
theorem tx9_tak_l {y q : Int} (hq : q = 380 ∨ q = 627) : ∀ (m : Nat) (k : Int) (h : tm_H) (C : Nat → Nat → Int), tn_E h b C J → 0 ≤ k → k ≤ 246 → (246 - k).toNat = m → ∃ h' N', fX9_take_L36 b y q k h = fX9_take_L36 b y q 246 h' ∧ tn_E h' b (tn_rk C 0 N') J ∧ (∀ i : Int, 0 ≤ i → N' i.toNat = if q + 1 + k ≤ i ∧ i < q + 247 then C 0 (i - q - 1 + 61).toNat else C 0 i.toNat) ∧ tn_fr b (b + 11) h h' := by
  intro m
  induction m with
  | zero =>
    intro k h C H k0 k1 hm
    exact ⟨h, C 0, by rw [show k = 246 by omega], by rw [tn_rk_self]; exact H, fun i i0 => by rw [if_neg (by omega)], tn_fr.rf⟩
  | succ m ih =>
    intro k h C H k0 k1 hm
    obtain ⟨h1, e1, E1, f1⟩ := H.w0 (i := q + 1 + k) (C 0 (61 + k).toNat) (by omega) (by omega)
    obtain ⟨h2, N', e2, E2, q2, f2⟩ := ih (k + 1) h1 _ E1 (by omega) (by omega) (by omega)
    refine ⟨h2, N', ?_, by rw [tn_up2_rk, tn_rk_rk] at E2; exact E2, fun i i0 => ?_, f1.tr f2⟩
    · rw [fX9_take_L36_eq, if_pos (by omega), H.g.1, Option.bind_some, Option.bind_some, tm_wr_id (z := 61 + k) (by omega) (by omega), H.l0 (by omega) (by omega), Option.bind_some, tm_wr_id (z := q + 1) (by omega) (by omega), tm_wr_id (z := q + 1 + k) (by omega) (by omega), e1, Option.bind_some, tm_wr_id (by omega) (by omega)]
      exact e2
    · rw [q2 i i0, tn_up2_eq, tn_upr (by omega) i0]
      by_cases c1 : i = q + 1 + k
      · rw [if_neg (by omega), if_pos c1, if_pos (by omega), show i - q - 1 + 61 = 61 + k by omega]
      · by_cases c2 : q + 1 + k ≤ i ∧ i < q + 247
        · rw [if_pos (by omega), if_pos c2, tn_upr (by omega) (by omega), if_neg (by omega)]
        · rw [if_neg (by omega), if_neg c1, if_neg c2]
theorem tx9_take (H : tn_E h b C J) (ok : tn_ok (tn_row (C 0) (C 4))) (hn : C 0 307 ≤ 12) (j0 : 0 ≤ J 3 ∧ J 3 ≤ 5) (y : Int) : ∃ h', fX9_take b y h = some ((sp_take (tn_row (C 0) (C 4)) y).1, h') ∧ tn_O h' b C J (sp_take (tn_row (C 0) (C 4)) y).2 ∧ tn_fr b (b + 11) h h' := by
  simp only [fX9_take, tn_th H.1, tx9_isSlot, Option.bind_some, H.g.1]
  unfold sp_take
  by_cases c1 : 0 ≤ y ∧ y < 2
  · obtain ⟨h1, P', e1, E1, q1, f1⟩ := tx9_saves H (r := b + 1) (k0 := 0) rfl (Or.inl rfl) j0
    obtain ⟨h2, e2, E2, f2⟩ := E1.w0 (i := 380 + 247 * y) 1 (by omega) (by omega)
    obtain ⟨h3, N', e3, E3, q3, f3⟩ := tx9_tak_l (b := b) (y := y) (q := 380 + 247 * y) (by omega) _ 0 h2 _ E2 (by omega) (by omega) rfl
    rw [tn_up2_rk, tn_rk_rk] at E3
    have q3' : ∀ i : Int, 0 ≤ i → N' i.toNat = if 380 + 247 * y + 1 ≤ i ∧ i < 380 + 247 * y + 247 then C 0 (i - (380 + 247 * y) - 1 + 61).toNat else if i = 380 + 247 * y then 1 else C 0 i.toNat := fun i i0 => by
      rw [q3 i i0, Int.add_zero]
      by_cases k : 380 + 247 * y + 1 ≤ i ∧ i < 380 + 247 * y + 247
      · rw [if_pos k, if_pos k, tn_up2_eq, tn_upr (by omega) (by omega), if_neg (by omega)]; rfl
      · rw [if_neg k, if_neg k, tn_up2_eq, tn_upr (by omega) (by omega)]; rfl
    have szs : ∀ c : Int, 0 ≤ c → c < 6 → N' (61 + 41 * c).toNat = C 0 (61 + 41 * c).toNat := fun c c0 c1 => by rw [q3' _ (by omega), if_neg (by omega), if_neg (by omega)]
    have tot := tx9_wordsOfAll E3 (fun c c0 c1 => by
      have := ok.c (c := c) ⟨c0, c1⟩
      show 0 ≤ N' (61 + 41 * c).toNat ∧ N' (61 + 41 * c).toNat ≤ 40
      rw [szs c c0 c1]; exact this)
    have tot2 : tn_sm (tn_sz (tn_row N' (C 4))) 6 = tn_sm (tn_sz (tn_row (C 0) (C 4))) 6 := tn_sm_cg (fun c c0 c1 => szs c c0 (by omega))
    rw [tn_b1 c1, if_neg (by omega), if_pos c1, e1, Option.bind_some, E1.g.1, Option.bind_some, tm_wr_id (z := 247 * y) (by omega) (by omega), tm_wr_id (z := 380 + 247 * y) (by omega) (by omega), e2, Option.bind_some, e3, fX9_take_L36_eq, if_neg (by omega), tot, Option.bind_some]
    refine ⟨h3, ?_, tn_F_of q1 E3 rfl rfl rfl rfl (tm_up_self _ _ _) ?_, (f1.tr f2).tr f3⟩
    · exact congrArg (fun v => some (v, h3)) tot2
    · rw [tn_rk_eq]
      have off : ∀ i : Int, 0 ≤ i → i < 380 → N' i.toNat = C 0 i.toNat := fun i i0 i1 => by rw [q3' _ i0, if_neg (by omega), if_neg (by omega)]
      refine ⟨off 0 (by omega) (by omega), fun v v0 v1 => ⟨off _ (by omega) (by have : v < C 0 0 := v1; have := ok.2.1; have : C 0 0 ≤ 60 := this; omega), rfl⟩, fun c c0 c1 => ⟨off _ (by omega) (by omega), fun p p0 p1 => off _ (by omega) (by have := (ok.c (c := c) ⟨c0, c1⟩).2; have : p < tn_sz (tn_row (C 0) (C 4)) c := p1; omega)⟩, off 307 (by omega) (by omega), fun t t0 t1 => ?_, fun z z0 z1 => ?_⟩
      · have t1' : t < C 0 307 := t1
        have tl := (ok.t (t := t) ⟨t0, t1⟩).2
        have tld : tn_tl (tn_tak (tn_row (C 0) (C 4)) y) t = tn_tl (tn_row (C 0) (C 4)) t := rfl
        exact ⟨off _ (by omega) (by omega), off _ (by omega) (by omega), fun k k0 k1 => off _ (by omega) (by omega)⟩
      · show N' (380 + 247 * z).toNat = (if z = y then 1 else C 0 (380 + 247 * z).toNat) ∧ ((if z = y then 1 else C 0 (380 + 247 * z).toNat) = 1 → ∀ c : Int, 0 ≤ c → c < 6 → N' (381 + 247 * z + 41 * c).toNat = (if z = y then tn_sz (tn_row (C 0) (C 4)) else tn_zs (tn_row (C 0) (C 4)) z) c ∧ ∀ p : Int, 0 ≤ p → p < (if z = y then tn_sz (tn_row (C 0) (C 4)) else tn_zs (tn_row (C 0) (C 4)) z) c → N' (382 + 247 * z + 41 * c + p).toNat = (if z = y then tn_wd (tn_row (C 0) (C 4)) else tn_zw (tn_row (C 0) (C 4)) z) c p)
        by_cases k : z = y
        · subst k
          simp only [if_true]
          refine ⟨by rw [q3' _ (by omega), if_neg (by omega), if_pos rfl], fun _ c c0 c1 => ⟨?_, fun p p0 p1 => ?_⟩⟩
          · rw [q3' _ (by omega), if_pos (by omega), show 381 + 247 * z + 41 * c - (380 + 247 * z) - 1 + 61 = 61 + 41 * c by omega]; rfl
          · have := (ok.c (c := c) ⟨c0, c1⟩).2
            rw [q3' _ (by omega), if_pos (by omega), show 382 + 247 * z + 41 * c + p - (380 + 247 * z) - 1 + 61 = 62 + 41 * c + p by omega]; rfl
        · simp only [if_neg k]
          refine ⟨by rw [q3' _ (by omega), if_neg (by omega), if_neg (by omega)], fun tk c c0 c1 => ⟨?_, fun p p0 p1 => ?_⟩⟩
          · rw [q3' _ (by omega), if_neg (by omega), if_neg (by omega)]; rfl
          · have := ((ok.2.2.2.2.2.2.2 z z0 z1).2 tk c c0 c1).2.1
            rw [q3' _ (by omega), if_neg (by omega), if_neg (by omega)]; rfl
  · rw [tn_b0 c1, if_pos rfl, if_neg c1]
    exact ⟨h, rfl, H.O, tn_fr.rf⟩
theorem tx9_res_l {y q : Int} (hq : q = 380 ∨ q = 627) : ∀ (m : Nat) (k : Int) (h : tm_H) (C : Nat → Nat → Int), tn_E h b C J → 0 ≤ k → k ≤ 246 → (246 - k).toNat = m → ∃ h' N', fX9_restore_L41 b y q k h = fX9_restore_L41 b y q 246 h' ∧ tn_E h' b (tn_rk C 0 N') J ∧ (∀ i : Int, 0 ≤ i → N' i.toNat = if 61 + k ≤ i ∧ i < 307 then C 0 (i - 61 + q + 1).toNat else C 0 i.toNat) ∧ tn_fr b (b + 11) h h' := by
  intro m
  induction m with
  | zero =>
    intro k h C H k0 k1 hm
    exact ⟨h, C 0, by rw [show k = 246 by omega], by rw [tn_rk_self]; exact H, fun i i0 => by rw [if_neg (by omega)], tn_fr.rf⟩
  | succ m ih =>
    intro k h C H k0 k1 hm
    obtain ⟨h1, e1, E1, f1⟩ := H.w0 (i := 61 + k) (C 0 (q + 1 + k).toNat) (by omega) (by omega)
    obtain ⟨h2, N', e2, E2, q2, f2⟩ := ih (k + 1) h1 _ E1 (by omega) (by omega) (by omega)
    refine ⟨h2, N', ?_, by rw [tn_up2_rk, tn_rk_rk] at E2; exact E2, fun i i0 => ?_, f1.tr f2⟩
    · rw [fX9_restore_L41_eq, if_pos (by omega), H.g.1, Option.bind_some, Option.bind_some, tm_wr_id (z := q + 1) (by omega) (by omega), tm_wr_id (z := q + 1 + k) (by omega) (by omega), H.l0 (by omega) (by omega), Option.bind_some, tm_wr_id (z := 61 + k) (by omega) (by omega), e1, Option.bind_some, tm_wr_id (by omega) (by omega)]
      exact e2
    · rw [q2 i i0, tn_up2_eq, tn_upr (by omega) i0]
      by_cases c1 : i = 61 + k
      · rw [if_neg (by omega), if_pos c1, if_pos (by omega), show i - 61 + q + 1 = q + 1 + k by omega]
      · by_cases c2 : 61 + k ≤ i ∧ i < 307
        · rw [if_pos (by omega), if_pos c2, tn_upr (by omega) (by omega), if_neg (by omega)]
        · rw [if_neg (by omega), if_neg c1, if_neg c2]
theorem tx9_restore (H : tn_E h b C J) (ok : tn_ok (tn_row (C 0) (C 4))) (j0 : 0 ≤ J 3 ∧ J 3 ≤ 5) (y : Int) : ∃ h', fX9_restore b y h = some ((sp_restore (tn_row (C 0) (C 4)) y).1, h') ∧ tn_O h' b C J (sp_restore (tn_row (C 0) (C 4)) y).2 ∧ tn_fr b (b + 11) h h' := by
  simp only [fX9_restore, tn_th H.1, tx9_isSlot, Option.bind_some, H.g.1]
  unfold sp_restore
  by_cases c1 : 0 ≤ y ∧ y < 2
  · have tkd : tn_tk (tn_row (C 0) (C 4)) y = C 0 (380 + 247 * y).toNat := rfl
    rw [tn_b1 c1, if_neg (by omega), if_pos c1, tm_wr_id (z := 247 * y) (by omega) (by omega), tm_wr_id (z := 380 + 247 * y) (by omega) (by omega), H.l0 (by omega) (by omega), Option.bind_some, tkd]
    have k := ok.2.2.2.2.2.2.2 y c1.1 c1.2
    rw [tkd] at k
    by_cases c2 : C 0 (380 + 247 * y).toNat = 0
    · rw [if_pos c2, if_pos c2]
      exact ⟨h, rfl, H.O, tn_fr.rf⟩
    · have zs := k.2 (by omega)
      obtain ⟨h1, P', e1, E1, q1, f1⟩ := tx9_saves H (r := b + 1) (k0 := 0) rfl (Or.inl rfl) j0
      obtain ⟨h3, N', e3, E3, q3, f3⟩ := tx9_res_l (b := b) (y := y) (q := 380 + 247 * y) (by omega) _ 0 h1 _ E1 (by omega) (by omega) rfl
      change ∀ i : Int, 0 ≤ i → N' i.toNat = if 61 + 0 ≤ i ∧ i < 307 then C 0 (i - 61 + (380 + 247 * y) + 1).toNat else C 0 i.toNat at q3
      have szs : ∀ c : Int, 0 ≤ c → c < 6 → N' (61 + 41 * c).toNat = tn_zs (tn_row (C 0) (C 4)) y c := fun c c0 c1 => by
        rw [q3 _ (by omega), if_pos (by omega), show 61 + 41 * c - 61 + (380 + 247 * y) + 1 = 381 + 247 * y + 41 * c by omega]; rfl
      have tot := tx9_wordsOfAll E3 (fun c c0 c1 => by
        have := zs c c0 c1
        show 0 ≤ N' (61 + 41 * c).toNat ∧ N' (61 + 41 * c).toNat ≤ 40
        rw [szs c c0 c1]; exact ⟨this.1, this.2.1⟩)
      have tot2 : tn_sm (tn_sz (tn_row N' (C 4))) 6 = tn_sm (tn_zs (tn_row (C 0) (C 4)) y) 6 := tn_sm_cg (fun c c0 c1 => szs c c0 (by omega))
      rw [if_neg c2, if_neg c2, e1, Option.bind_some, e3, fX9_restore_L41_eq, if_neg (by omega), tot, Option.bind_some]
      refine ⟨h3, congrArg (fun v => some (v, h3)) tot2, tn_F_of q1 E3 rfl rfl rfl rfl (tm_up_self _ _ _) ?_, f1.tr f3⟩
      rw [tn_rk_eq]
      refine tn_sim_all ok (fun i i0 i1 => by rw [q3 i i0, if_neg (by omega)]) (fun c c0 c1 => ⟨szs c c0 c1, fun p p0 p1 => ?_⟩)
      have := (zs c c0 c1).2.1
      rw [q3 _ (by omega), if_pos (by omega), show 62 + 41 * c + p - 61 + (380 + 247 * y) + 1 = 382 + 247 * y + 41 * c + p by omega]; rfl
  · rw [tn_b0 c1, if_pos rfl, if_neg c1]
    exact ⟨h, rfl, H.O, tn_fr.rf⟩
end RFO
