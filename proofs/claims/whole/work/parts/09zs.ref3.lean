/-! the reference: delete, replace, slots -/
section RFN
variable {h : tm_H} {b : Nat} {C : Nat → Nat → Int} {J : Nat → Int}
/-- rows that are the same but for one chapter's -/
theorem tn_sim_chap {N N' Lt : Nat → Int} {c n : Int} {W : Int → Int} (ok : tn_ok (tn_row N Lt)) (hc : 0 ≤ c ∧ c < 6) (off : ∀ i : Int, 0 ≤ i → i < 61 + 41 * c ∨ 62 + 41 * c + 40 ≤ i → N' i.toNat = N i.toNat) (e1 : N' (61 + 41 * c).toNat = n) (e2 : ∀ i : Int, 0 ≤ i → i < n → N' (62 + 41 * c + i).toNat = W i) : tn_sim (tn_row N' Lt) (tn_setC (tn_row N Lt) c n W) := by
  refine ⟨off 0 (by omega) (by omega), fun v v0 v1 => ⟨off _ (by omega) (by have : v < N 0 := v1; have := ok.2.1; have : N 0 ≤ 60 := this; omega), rfl⟩, fun d d0 d1 => ?_, off 307 (by omega) (by omega), fun t t0 t1 => ⟨off _ (by omega) (by omega), off _ (by omega) (by omega), fun k k0 k1 => off _ (by omega) (by omega)⟩, fun z z0 z1 => ⟨off _ (by omega) (by omega), fun _ d d0 d1 => ⟨off _ (by omega) (by omega), fun i i0 i1 => off _ (by omega) (by omega)⟩⟩⟩
  show N' (61 + 41 * d).toNat = (if d = c then n else N (61 + 41 * d).toNat) ∧ ∀ i : Int, 0 ≤ i → i < (if d = c then n else N (61 + 41 * d).toNat) → N' (62 + 41 * d + i).toNat = if d = c then W i else N (62 + 41 * d + i).toNat
  by_cases k : d = c
  · subst k
    simp only [if_true]
    exact ⟨e1, e2⟩
  · simp only [if_neg k]
    have od := ok.c (c := d) ⟨d0, d1⟩
    have od' : N (61 + 41 * d).toNat ≤ 40 := od.2
    exact ⟨off _ (by omega) (by omega), fun i i0 i1 => off _ (by omega) (by omega)⟩
theorem tx9_del_l {c p q g : Int} (hc : 0 ≤ c ∧ c < 6) (hp : 0 ≤ p) (hg : 1 ≤ g) : ∀ (m : Nat) (k : Int) (h : tm_H) (C : Nat → Nat → Int), tn_E h b C J → p + g ≤ C 0 (61 + 41 * c).toNat → C 0 (61 + 41 * c).toNat ≤ 40 → p ≤ k → k + g ≤ C 0 (61 + 41 * c).toNat → (C 0 (61 + 41 * c).toNat - g - k).toNat = m → ∃ h' N', fX9_delete_L57 b c p q g k h = some (C 0 (61 + 41 * c).toNat - g, h') ∧ tn_E h' b (tn_rk C 0 N') J ∧ (∀ i : Int, 0 ≤ i → N' i.toNat = if i = 61 + 41 * c then C 0 (61 + 41 * c).toNat - g else if 62 + 41 * c + k ≤ i ∧ i < 62 + 41 * c + C 0 (61 + 41 * c).toNat - g then C 0 (i + g).toNat else C 0 i.toNat) ∧ tn_fr b (b + 11) h h' := by
  intro m
  induction m with
  | zero =>
    intro k h C H s0 s1 k0 k1 hm
    obtain ⟨h2, e2, E2, f2⟩ := H.w0 (i := 61 + 41 * c) (C 0 (61 + 41 * c).toNat - g) (by omega) (by omega)
    refine ⟨h2, _, ?_, by rw [tn_up2_rk] at E2; exact E2, fun i i0 => ?_, f2⟩
    · rw [fX9_delete_L57_eq, tx9_size H hc, Option.bind_some, tm_wr_id (z := k + g) (by omega) (by omega), if_neg (by omega), H.g.1, Option.bind_some, tm_wr_id (z := 41 * c) (by omega) (by omega), tm_wr_id (z := 61 + 41 * c) (by omega) (by omega), H.l0 (by omega) (by omega), Option.bind_some, tm_wr_id (by omega) (by omega), e2, Option.bind_some, tx9_size E2 hc, Option.bind_some, tn_up2_eq, tn_upr (by omega) (by omega), if_pos rfl]
    · rw [tn_upr (by omega) i0]
      by_cases c1 : i = 61 + 41 * c
      · rw [if_pos c1, if_pos c1]
      · rw [if_neg c1, if_neg c1, if_neg (by omega)]
  | succ m ih =>
    intro k h C H s0 s1 k0 k1 hm
    obtain ⟨h1, e1, E1, f1⟩ := H.w0 (i := 62 + 41 * c + k) (C 0 (62 + 41 * c + (k + g)).toNat) (by omega) (by omega)
    have r1 : tn_up2 C 0 (62 + 41 * c + k).toNat (C 0 (62 + 41 * c + (k + g)).toNat) 0 (61 + 41 * c).toNat = C 0 (61 + 41 * c).toNat := by
      rw [tn_up2_eq, tn_upr (by omega) (by omega), if_neg (by omega)]
    obtain ⟨h2, N', e2, E2, q2, f2⟩ := ih (k + 1) h1 _ E1 (by rw [r1]; exact s0) (by rw [r1]; exact s1) (by omega) (by rw [r1]; omega) (by rw [r1]; omega)
    rw [r1] at e2
    refine ⟨h2, N', ?_, by rw [tn_up2_rk, tn_rk_rk] at E2; exact E2, fun i i0 => ?_, f1.tr f2⟩
    · rw [fX9_delete_L57_eq, tx9_size H hc, Option.bind_some, tm_wr_id (z := k + g) (by omega) (by omega), if_pos (by omega), H.g.1, Option.bind_some, tx9_at hc (by omega), Option.bind_some, Option.bind_some, tx9_at hc (by omega), Option.bind_some, H.l0 (by omega) (by omega), Option.bind_some, e1, Option.bind_some, tm_wr_id (by omega) (by omega)]
      exact e2
    · rw [q2 i i0, r1, tn_up2_eq, tn_upr (by omega) i0, tn_upr (by omega) (by omega)]
      by_cases c1 : i = 61 + 41 * c
      · rw [if_pos c1, if_pos c1]
      · rw [if_neg c1, if_neg c1]
        by_cases c3 : i = 62 + 41 * c + k
        · rw [if_neg (by omega), if_pos c3, if_pos (by omega), show i + g = 62 + 41 * c + (k + g) by omega]
        · by_cases c4 : 62 + 41 * c + k ≤ i ∧ i < 62 + 41 * c + C 0 (61 + 41 * c).toNat - g
          · rw [if_pos (by omega), if_pos c4, if_neg (by omega)]
          · rw [if_neg (by omega), if_neg c3, if_neg c4]
theorem tx9_delete (H : tn_E h b C J) (ok : tn_ok (tn_row (C 0) (C 4))) (j0 : 0 ≤ J 3 ∧ J 3 ≤ 5) (c p q : Int) : ∃ h', fX9_delete b c p q h = some ((sp_delete (tn_row (C 0) (C 4)) c p q).1, h') ∧ tn_O h' b C J (sp_delete (tn_row (C 0) (C 4)) c p q).2 ∧ tn_fr b (b + 11) h h' := by
  simp only [fX9_delete, tn_th H.1, tx9_isChapter, Option.bind_some, H.g.1]
  unfold sp_delete
  by_cases c1 : 0 ≤ c ∧ c < 6
  · have sz := ok.c c1
    rw [tn_b1 c1, if_neg (by omega), tx9_size H c1, Option.bind_some, tx9_in, Option.bind_some]
    have szd : tn_sz (tn_row (C 0) (C 4)) c = C 0 (61 + 41 * c).toNat := rfl
    rw [szd] at sz ⊢
    rw [tm_wr_id (by omega) (by omega)]
    by_cases c2 : 0 ≤ p ∧ p ≤ C 0 (61 + 41 * c).toNat - 1
    · rw [tn_b1 c2, if_neg (by omega), Option.bind_some, tx9_in, Option.bind_some, tm_wr_id (z := C 0 (61 + 41 * c).toNat - 1) (by omega) (by omega)]
      by_cases c3 : p ≤ q ∧ q ≤ C 0 (61 + 41 * c).toNat - 1
      · obtain ⟨h1, P', e1, E1, q1, f1⟩ := tx9_saves H (r := b + 1) (k0 := 0) rfl (Or.inl rfl) j0
        obtain ⟨h2, N', e2, E2, q2, f2⟩ := tx9_del_l (b := b) (p := p) (q := q) (g := q - p + 1) c1 c2.1 (by omega) _ p h1 _ E1 (show p + (q - p + 1) ≤ C 0 (61 + 41 * c).toNat by omega) sz.2 (by omega) (show p + (q - p + 1) ≤ C 0 (61 + 41 * c).toNat by omega) rfl
        rw [tn_b1 c3, if_neg (by omega), if_pos (show 0 ≤ c ∧ c < 6 ∧ 0 ≤ p ∧ p ≤ q ∧ q < C 0 (61 + 41 * c).toNat by omega), e1, Option.bind_some, tm_wr_id (z := q - p) (by omega) (by omega), tm_wr_id (by omega) (by omega)]
        refine ⟨h2, e2, tn_F_of q1 E2 rfl rfl rfl rfl (tm_up_self _ _ _) ?_, f1.tr f2⟩
        change ∀ i : Int, 0 ≤ i → N' i.toNat = if i = 61 + 41 * c then C 0 (61 + 41 * c).toNat - (q - p + 1) else if 62 + 41 * c + p ≤ i ∧ i < 62 + 41 * c + C 0 (61 + 41 * c).toNat - (q - p + 1) then C 0 (i + (q - p + 1)).toNat else C 0 i.toNat at q2
        rw [tn_rk_eq]
        refine tn_sim_chap (n := C 0 (61 + 41 * c).toNat - (q - p + 1)) (W := fun i => if i < p then C 0 (62 + 41 * c + i).toNat else C 0 (62 + 41 * c + (i + (q - p + 1))).toNat) ok c1 (fun i i0 i1 => by rw [q2 i i0, if_neg (by omega), if_neg (by omega)]) (by rw [q2 _ (by omega), if_pos rfl]) (fun i i0 i1 => ?_)
        rw [q2 _ (by omega), if_neg (by omega)]
        by_cases k1 : i < p
        · rw [if_neg (by omega), if_pos k1]
        · rw [if_pos (by omega), if_neg k1, show 62 + 41 * c + i + (q - p + 1) = 62 + 41 * c + (i + (q - p + 1)) by omega]
      · rw [tn_b0 c3, if_pos rfl, if_neg (by omega)]
        exact ⟨h, rfl, H.O, tn_fr.rf⟩
    · rw [tn_b0 c2, if_pos rfl, if_neg (by omega)]
      exact ⟨h, rfl, H.O, tn_fr.rf⟩
  · rw [tn_b0 c1, if_pos rfl, if_neg (by omega)]
    exact ⟨h, rfl, H.O, tn_fr.rf⟩
/-- the words of all chapters -/
theorem tx9_all_l (H : tn_E h b C J) (ok : ∀ c : Int, 0 ≤ c → c < 6 → 0 ≤ tn_sz (tn_row (C 0) (C 4)) c ∧ tn_sz (tn_row (C 0) (C 4)) c ≤ 40) : ∀ (m : Nat) (k : Int), 0 ≤ k → k ≤ 6 → (6 - k).toNat = m → fX9_wordsOfAll_L4 b h (tn_sm (tn_sz (tn_row (C 0) (C 4))) k.toNat) k = some (tn_sm (tn_sz (tn_row (C 0) (C 4))) 6) := by
  intro m
  induction m with
  | zero =>
    intro k k0 k1 hm
    rw [fX9_wordsOfAll_L4_eq, if_neg (by omega), show k.toNat = 6 by omega]
  | succ m ih =>
    intro k k0 k1 hm
    have q0 := tn_sm_rg (f := tn_sz (tn_row (C 0) (C 4))) (B := 40) (m := k.toNat) (fun i i0 i1 => ok i i0 (by omega))
    have q1 := ok k k0 (by omega)
    have q := ih (k + 1) (by omega) (by omega) (by omega)
    rw [tn_sm_su k0] at q
    rw [fX9_wordsOfAll_L4_eq, if_pos (by omega), tx9_size H ⟨k0, by omega⟩, Option.bind_some, tm_wr_id (z := k + 1) (by omega) (by omega)]
    have e : tn_sz (tn_row (C 0) (C 4)) k = C 0 (61 + 41 * k).toNat := rfl
    rw [← e, tm_wr_id (by omega) (by omega)]
    exact q
theorem tx9_wordsOfAll (H : tn_E h b C J) (ok : ∀ c : Int, 0 ≤ c → c < 6 → 0 ≤ tn_sz (tn_row (C 0) (C 4)) c ∧ tn_sz (tn_row (C 0) (C 4)) c ≤ 40) : fX9_wordsOfAll b h = some (tn_sm (tn_sz (tn_row (C 0) (C 4))) 6) := by
  simp only [fX9_wordsOfAll, tn_th H.1]
  exact tx9_all_l H ok _ 0 (by omega) (by omega) rfl
theorem tx9_rep_l {w o : Int} (ok : tn_ok (tn_row (C 0) (C 4))) : ∀ (m : Nat) (c p : Int) (h : tm_H) (N : Nat → Int), tn_E h b (tn_rk C 0 N) J → (∀ i : Int, 0 ≤ i → (¬ (62 ≤ i ∧ i < 62 + 41 * c + p) ∨ ∃ d : Int, 0 ≤ d ∧ d < 6 ∧ i = 61 + 41 * d) → N i.toNat = C 0 i.toNat) → (∀ d i : Int, 0 ≤ d → d < 6 → 0 ≤ i → i < tn_sz (tn_row (C 0) (C 4)) d → N (62 + 41 * d + i).toNat = if (d < c ∨ d = c ∧ i < p) ∧ C 0 (62 + 41 * d + i).toNat = w then o else C 0 (62 + 41 * d + i).toNat) → 0 ≤ c → c < 6 → 0 ≤ p → p ≤ tn_sz (tn_row (C 0) (C 4)) c → (300 - 41 * c - p).toNat = m →
    ∃ h' N', fX9_replace_L46 b w o (tn_nt (tn_sz (tn_row (C 0) (C 4))) (tn_wd (tn_row (C 0) (C 4))) w c + tn_nc (tn_wd (tn_row (C 0) (C 4))) w c p) c p h = some (tn_nt (tn_sz (tn_row (C 0) (C 4))) (tn_wd (tn_row (C 0) (C 4))) w 6, h') ∧ tn_E h' b (tn_rk C 0 N') J ∧ (∀ i : Int, 0 ≤ i → (i < 61 ∨ 307 ≤ i ∨ ∃ d : Int, 0 ≤ d ∧ d < 6 ∧ i = 61 + 41 * d) → N' i.toNat = C 0 i.toNat) ∧ (∀ d i : Int, 0 ≤ d → d < 6 → 0 ≤ i → i < tn_sz (tn_row (C 0) (C 4)) d → N' (62 + 41 * d + i).toNat = if C 0 (62 + 41 * d + i).toNat = w then o else C 0 (62 + 41 * d + i).toNat) ∧ tn_fr b (b + 11) h h' := by
  have hs : ∀ d : Int, 0 ≤ d → d < 6 → 0 ≤ tn_sz (tn_row (C 0) (C 4)) d ∧ tn_sz (tn_row (C 0) (C 4)) d ≤ 40 := fun d d0 d1 => ok.c ⟨d0, d1⟩
  intro m
  induction m using Nat.strongRecOn with
  | _ m ih =>
    intro c p h N H h1 h2 c0 c1 p0 p1 hm
    have s1 := hs c c0 c1
    have s2 := tn_nc_rg (wd := tn_wd (tn_row (C 0) (C 4))) (w := w) (c := c) p0
    have s3 := tn_nt_rg (wd := tn_wd (tn_row (C 0) (C 4))) (w := w) hs c0 (by omega)
    have szN : N (61 + 41 * c).toNat = tn_sz (tn_row (C 0) (C 4)) c := h1 _ (by omega) (Or.inr ⟨c, c0, c1, rfl⟩)
    rw [fX9_replace_L46_eq, tx9_size H ⟨c0, c1⟩, Option.bind_some, tn_rk_eq, szN]
    by_cases c2 : p < tn_sz (tn_row (C 0) (C 4)) c
    · have hx := h2 c p c0 c1 p0 c2
      rw [if_neg (by omega)] at hx
      have nc1 : tn_nc (tn_wd (tn_row (C 0) (C 4))) w c (p + 1) = tn_nc (tn_wd (tn_row (C 0) (C 4))) w c p + tn_b (tn_wd (tn_row (C 0) (C 4)) c p = w) := by unfold tn_nc; exact tn_sm_su p0
      have wde : tn_wd (tn_row (C 0) (C 4)) c p = C 0 (62 + 41 * c + p).toNat := rfl
      obtain ⟨hA, eA, EA, fA⟩ := H.w0 (i := 62 + 41 * c + p) (if C 0 (62 + 41 * c + p).toNat = w then o else C 0 (62 + 41 * c + p).toNat) (by omega) (by omega)
      rw [tn_up2_rk, tn_rk_eq, tn_rk_rk] at EA
      obtain ⟨hB, N', e2, E2, q2, q3, f2⟩ := ih (300 - 41 * c - (p + 1)).toNat (by omega) c (p + 1) hA _ EA (fun i i0 i1 => by
        rw [tn_upr (by omega) i0]
        have hne : i ≠ 62 + 41 * c + p := by
          rcases i1 with k | ⟨d, d0, d1, k⟩
          · omega
          · omega
        rw [if_neg hne]
        exact h1 i i0 (by
          rcases i1 with k | k
          · exact Or.inl (by omega)
          · exact Or.inr k)) (fun d i d0 d1 i0 i1 => by
        have sd := hs d d0 d1
        rw [tn_upr (by omega) (by omega)]
        by_cases k : d = c ∧ i = p
        · obtain ⟨k1, k2⟩ := k
          subst k1; subst k2
          rw [if_pos rfl]
          by_cases k3 : C 0 (62 + 41 * d + i).toNat = w
          · rw [if_pos k3, if_pos ⟨Or.inr ⟨rfl, by omega⟩, k3⟩]
          · rw [if_neg k3, if_neg (fun y => k3 y.2)]
        · rw [if_neg (by omega), h2 d i d0 d1 i0 i1]
          by_cases k4 : (d < c ∨ d = c ∧ i < p) ∧ C 0 (62 + 41 * d + i).toNat = w
          · rw [if_pos k4, if_pos ⟨by omega, k4.2⟩]
          · rw [if_neg k4, if_neg (fun y => k4 ⟨by omega, y.2⟩)]) c0 c1 (by omega) (by omega) rfl
      refine ⟨hB, N', ?_, E2, q2, q3, fA.tr f2⟩
      have fin : ∀ v : Int, v = tn_b (tn_wd (tn_row (C 0) (C 4)) c p = w) → fX9_replace_L124 b w o c p (tn_nt (tn_sz (tn_row (C 0) (C 4))) (tn_wd (tn_row (C 0) (C 4))) w c + tn_nc (tn_wd (tn_row (C 0) (C 4))) w c p) v hA = some (tn_nt (tn_sz (tn_row (C 0) (C 4))) (tn_wd (tn_row (C 0) (C 4))) w 6, hB) := fun v hv => by
        have br := tn_b_rg (tn_wd (tn_row (C 0) (C 4)) c p = w)
        rw [fX9_replace_L124_eq, hv, tm_wr_id (z := p + 1) (by omega) (by omega), tm_wr_id (by omega) (by omega)]
        rw [nc1, ← Int.add_assoc] at e2
        exact e2
      have lN : tm_lI h 0 (b + 1) (62 + 41 * c + p) = some (C 0 (62 + 41 * c + p).toNat) := by
        rw [H.l0 (by omega) (by omega), tn_rk_eq, hx]
      rw [if_pos c2, H.g.1, Option.bind_some, tx9_at ⟨c0, c1⟩ (by omega), Option.bind_some, lN, Option.bind_some]
      by_cases c3 : C 0 (62 + 41 * c + p).toNat = w
      · rw [if_pos c3] at eA
        rw [if_pos c3, fX9_replace_L78_eq, H.g.1, Option.bind_some, tx9_at ⟨c0, c1⟩ (by omega), Option.bind_some, if_neg (by omega), fX9_replace_L112_eq, eA, Option.bind_some, if_neg (by omega)]
        exact fin 1 (tn_b1 c3).symm
      · rw [if_neg c3] at eA
        rw [if_neg c3, fX9_replace_L78_eq, H.g.1, Option.bind_some, tx9_at ⟨c0, c1⟩ (by omega), Option.bind_some, if_pos rfl, Option.bind_some, Option.bind_some, lN, Option.bind_some, fX9_replace_L112_eq, eA, Option.bind_some, if_pos rfl]
        exact fin 0 (tn_b0 c3).symm
    · rw [if_neg c2, tm_wr_id (z := c + 1) (by omega) (by omega)]
      have ps : p = tn_sz (tn_row (C 0) (C 4)) c := by omega
      have nt1 : tn_nt (tn_sz (tn_row (C 0) (C 4))) (tn_wd (tn_row (C 0) (C 4))) w (c + 1) = tn_nt (tn_sz (tn_row (C 0) (C 4))) (tn_wd (tn_row (C 0) (C 4))) w c + tn_nc (tn_wd (tn_row (C 0) (C 4))) w c p := by rw [ps]; unfold tn_nt; exact tn_sm_su c0
      rw [fX9_replace_L36_eq, ← nt1]
      by_cases c4 : c + 1 < 6
      · rw [if_pos c4]
        have s4 := hs (c + 1) (by omega) c4
        obtain ⟨hB, N', e2, E2, q2, q3, f2⟩ := ih (300 - 41 * (c + 1) - 0).toNat (by omega) (c + 1) 0 h N H (fun i i0 i1 => h1 i i0 (by
          rcases i1 with k | k
          · exact Or.inl (by omega)
          · exact Or.inr k)) (fun d i d0 d1 i0 i1 => by
            rw [h2 d i d0 d1 i0 i1]
            by_cases c5 : (d < c ∨ d = c ∧ i < p) ∧ C 0 (62 + 41 * d + i).toNat = w
            · rw [if_pos c5, if_pos ⟨by omega, c5.2⟩]
            · rw [if_neg c5, if_neg (fun x => c5 ⟨by
                have h7 := x.1
                by_cases h8 : d = c
                · subst h8; omega
                · omega, x.2⟩)]) (by omega) c4 (by omega) s4.1 rfl
        refine ⟨hB, N', ?_, E2, q2, q3, f2⟩
        rw [show tn_nc (tn_wd (tn_row (C 0) (C 4))) w (c + 1) 0 = 0 from rfl, Int.add_zero] at e2
        exact e2
      · rw [if_neg c4, show c + 1 = 6 by omega]
        refine ⟨h, N, rfl, H, fun i i0 i1 => h1 i i0 (by
          rcases i1 with k | k | k
          · exact Or.inl (by omega)
          · exact Or.inl (by omega)
          · exact Or.inr k), fun d i d0 d1 i0 i1 => ?_, tn_fr.rf⟩
        rw [h2 d i d0 d1 i0 i1]
        have : d < c ∨ d = c ∧ i < p := by
          by_cases h8 : d = c
          · subst h8; omega
          · omega
        simp only [this, true_and]
theorem tx9_replace (H : tn_E h b C J) (ok : tn_ok (tn_row (C 0) (C 4))) (j0 : 0 ≤ J 3 ∧ J 3 ≤ 5) (w o : Int) : ∃ h', fX9_replace b w o h = some ((sp_replace (tn_row (C 0) (C 4)) w o).1, h') ∧ tn_O h' b C J (sp_replace (tn_row (C 0) (C 4)) w o).2 ∧ tn_fr b (b + 11) h h' := by
  simp only [fX9_replace, tn_th H.1, tx9_isWord H ok, Option.bind_some, H.g.1]
  unfold sp_replace
  have nd : tn_n (tn_row (C 0) (C 4)) = C 0 0 := rfl
  rw [nd]
  by_cases c1 : 0 ≤ w ∧ w < C 0 0
  · rw [tn_b1 c1, if_neg (by omega)]
    by_cases c2 : 0 ≤ o ∧ o < C 0 0
    · rw [tn_b1 c2, if_neg (by omega)]
      by_cases c3 : w = o
      · rw [if_pos c3, if_neg (by omega)]
        exact ⟨h, rfl, H.O, tn_fr.rf⟩
      · obtain ⟨h1, P', e1, E1, q1, f1⟩ := tx9_saves H (r := b + 1) (k0 := 0) rfl (Or.inl rfl) j0
        have ok1 : tn_ok (tn_row (tn_rk C 1 P' 0) (tn_rk C 1 P' 4)) := ok
        have E1' : tn_E h1 b (tn_rk (tn_rk C 1 P') 0 (tn_rk C 1 P' 0)) (tm_up J 3 (tn_hz (J 3))) := by rw [tn_rk_self]; exact E1
        obtain ⟨h2, N', e2, E2, q2, q3, f2⟩ := tx9_rep_l (w := w) (o := o) ok1 _ 0 0 h1 _ E1' (fun i i0 i1 => rfl) (fun d i d0 d1 i0 i1 => by rw [if_neg (by omega)]) (by omega) (by omega) (by omega) (ok.c (c := 0) (by omega)).1 rfl
        rw [if_neg c3, if_pos (show 0 ≤ w ∧ w < C 0 0 ∧ 0 ≤ o ∧ o < C 0 0 ∧ w ≠ o by omega), e1, Option.bind_some, fX9_replace_L36_eq, if_pos (by omega)]
        refine ⟨h2, e2, tn_F_of q1 E2 rfl rfl rfl rfl (tm_up_self _ _ _) ?_, f1.tr f2⟩
        change ∀ i : Int, 0 ≤ i → (i < 61 ∨ 307 ≤ i ∨ ∃ d : Int, 0 ≤ d ∧ d < 6 ∧ i = 61 + 41 * d) → N' i.toNat = C 0 i.toNat at q2
        rw [tn_rk_eq]
        refine ⟨q2 0 (by omega) (Or.inl (by omega)), fun v v0 v1 => ⟨q2 _ (by omega) (Or.inl (by have : v < C 0 0 := v1; have := ok.2.1; have : C 0 0 ≤ 60 := this; omega)), rfl⟩, fun d d0 d1 => ⟨q2 _ (by omega) (Or.inr (Or.inr ⟨d, d0, d1, rfl⟩)), fun i i0 i1 => q3 d i d0 d1 i0 i1⟩, q2 307 (by omega) (Or.inr (Or.inl (by omega))), fun t t0 t1 => ⟨q2 _ (by omega) (Or.inr (Or.inl (by omega))), q2 _ (by omega) (Or.inr (Or.inl (by omega))), fun k k0 k1 => q2 _ (by omega) (Or.inr (Or.inl (by omega)))⟩, fun z z0 z1 => ⟨q2 _ (by omega) (Or.inr (Or.inl (by omega))), fun _ d d0 d1 => ⟨q2 _ (by omega) (Or.inr (Or.inl (by omega))), fun i i0 i1 => q2 _ (by omega) (Or.inr (Or.inl (by omega)))⟩⟩⟩
    · rw [tn_b0 c2, if_pos rfl, if_neg (by omega)]
      exact ⟨h, rfl, H.O, tn_fr.rf⟩
  · rw [tn_b0 c1, if_pos rfl, if_neg (by omega)]
    exact ⟨h, rfl, H.O, tn_fr.rf⟩
end RFN
