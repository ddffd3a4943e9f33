/-! the reference reads a chapter -/
theorem tn_lg_ex (P : Int → Prop) (len : Int → Int) : ∀ m : Nat, ∃ r, tn_lg (m : Int) P len r
  | 0 => ⟨-99, Or.inl ⟨rfl, fun t t0 t1 => by omega⟩⟩
  | m + 1 => by
    obtain ⟨x, hx⟩ := tn_lg_ex P len m
    by_cases c : P m
    · by_cases d : x = -99 ∨ len x < len m
      · refine ⟨m, Or.inr ⟨by omega, by omega, c, fun t t0 t1 ht => ?_⟩⟩
        by_cases e : t = m
        · rw [e]; exact Or.inr ⟨rfl, Int.le_refl _⟩
        · rcases hx with ⟨b1, b2⟩ | ⟨b1, b2, b3, b4⟩
          · exact absurd ht (b2 t t0 (by omega))
          · have := b4 t t0 (by omega) ht
            omega
      · rcases hx with ⟨b1, b2⟩ | ⟨b1, b2, b3, b4⟩
        · exact absurd (Or.inl b1) d
        · refine ⟨x, Or.inr ⟨b1, by omega, b3, fun t t0 t1 ht => ?_⟩⟩
          by_cases e : t = m
          · rw [e]; omega
          · exact b4 t t0 (by omega) ht
    · refine ⟨x, ?_⟩
      rcases hx with ⟨b1, b2⟩ | ⟨b1, b2, b3, b4⟩
      · refine Or.inl ⟨b1, fun t t0 t1 ht => ?_⟩
        by_cases e : t = m
        · rw [e] at ht; exact c ht
        · exact b2 t t0 (by omega) ht
      · refine Or.inr ⟨b1, by omega, b3, fun t t0 t1 ht => ?_⟩
        by_cases e : t = m
        · rw [e] at ht; exact absurd ht c
        · exact b4 t t0 (by omega) ht
section RDI
variable {g w q : Int → Int}
/-- within a reading -/
theorem tn_rd_in {p : Int} (h : 0 ≤ p) (b : tn_be g w p) : ∀ m : Nat, (m : Int) < w (g p) ∨ m = 0 → tn_rd g w (p + 1 + (m : Int)).toNat = (p, p + w (g p))
  | 0, _ => by
    rw [show p + 1 + ((0 : Nat) : Int) = p + 1 by omega, tn_rd_su h]
    unfold tn_be at b
    rw [if_neg b]
  | m + 1, hm => by
    have ih := tn_rd_in h b m (by omega)
    rw [show p + 1 + ((m + 1 : Nat) : Int) = (p + 1 + (m : Int)) + 1 by omega, tn_rd_su (by omega), ih, if_pos (by dsimp only; omega)]
theorem tn_fm_in {p i : Int} (h : 0 ≤ p) (b : tn_be g w p) (hi : p ≤ i) (hw : i < p + w (g p) ∨ i = p) : tn_fm g w i = p := by
  unfold tn_fm
  have := tn_rd_in h b (i - p).toNat (by omega)
  rw [show p + 1 + (((i - p).toNat : Nat) : Int) = i + 1 by omega] at this
  rw [this]
theorem tn_ov_in {p i : Int} (h : 0 ≤ p) (b : tn_be g w p) (hi : p ≤ i) (hw : i < p + w (g p) ∨ i = p) : tn_ov g w i = g p := by
  unfold tn_ov
  rw [tn_fm_in h b hi hw]
theorem tn_wh_in {p i : Int} (h : 0 ≤ p) (b : tn_be g w p) (hi : p ≤ i) (hw : i < p + w (g p) ∨ i = p) : tn_wh g w i = if g p = -99 then -99 else i - p := by
  unfold tn_wh
  rw [tn_ov_in h b hi hw, tn_fm_in h b hi hw]
theorem tn_nb_in {p i : Int} (h : 0 ≤ p) (b : tn_be g w p) (hi : p < i) (hw : i < p + w (g p)) : ¬ tn_be g w i := by
  unfold tn_be
  have := tn_rd_in h b (i - p - 1).toNat (by omega)
  rw [show p + 1 + (((i - p - 1).toNat : Nat) : Int) = i by omega] at this
  rw [this]
  dsimp only
  omega
theorem tn_be_nx {p : Int} (h : 0 ≤ p) (b : tn_be g w p) (hw : 0 < w (g p)) : tn_be g w (p + w (g p)) := by
  unfold tn_be
  have := tn_rd_in h b (w (g p) - 1).toNat (by omega)
  rw [show p + 1 + (((w (g p) - 1).toNat : Nat) : Int) = p + w (g p) by omega] at this
  rw [this]
  dsimp only
  omega
theorem tn_be_n1 {p : Int} (h : 0 ≤ p) (b : tn_be g w p) (hw : w (g p) = 0) : tn_be g w (p + 1) := by
  unfold tn_be
  have := tn_rd_in h b 0 (Or.inr rfl)
  rw [show p + 1 + ((0 : Nat) : Int) = p + 1 by omega] at this
  rw [this]
  dsimp only
  omega
theorem tn_be_0 : tn_be g w 0 := by
  unfold tn_be
  simp [tn_rd]
theorem tn_km_in {p : Int} (h : 0 ≤ p) (b : tn_be g w p) : ∀ m : Nat, (m : Int) < w (g p) ∨ m = 0 → tn_km g w q (p + 1 + (m : Int)) = tn_km g w q (p + 1)
  | 0, _ => by rw [show p + 1 + ((0 : Nat) : Int) = p + 1 by omega]
  | m + 1, hm => by
    rw [show p + 1 + ((m + 1 : Nat) : Int) = (p + 1 + (m : Int)) + 1 by omega, tn_km_su (by omega), tn_km_in h b m (by omega), tn_b0 (fun y => tn_nb_in h b (i := p + 1 + m) (by omega) (by omega) y.1), Int.add_zero]
theorem tn_km_nx {p : Int} (h : 0 ≤ p) (b : tn_be g w p) (hw : 0 < w (g p)) : tn_km g w q (p + w (g p)) = tn_km g w q p + tn_b (tn_mk g w q p) := by
  have := tn_km_in (q := q) h b (w (g p) - 1).toNat (by omega)
  rw [show p + 1 + (((w (g p) - 1).toNat : Nat) : Int) = p + w (g p) by omega, tn_km_su h] at this
  exact this
theorem tn_us_in {p t : Int} (h : 0 ≤ p) (b : tn_be g w p) (hw : 0 < w (g p)) : (∃ r : Int, 0 ≤ r ∧ r < p + w (g p) ∧ tn_us g w t r) ↔ (∃ r : Int, 0 ≤ r ∧ r < p ∧ tn_us g w t r) ∨ g p = t := by
  constructor
  · rintro ⟨r, r0, r1, r2⟩
    by_cases c : r < p
    · exact Or.inl ⟨r, r0, c, r2⟩
    · by_cases d : r = p
      · rw [d] at r2; exact Or.inr r2.2
      · exact absurd r2.1 (tn_nb_in h b (by omega) r1)
  · rintro (⟨r, r0, r1, r2⟩ | c)
    · exact ⟨r, r0, by omega, r2⟩
    · exact ⟨p, h, by omega, b, c⟩
end RDI
/-- the rows that a reading fills are others, the rest is the same -/
def tn_sc (C C' : Nat → Nat → Int) : Prop := ∀ k : Nat, k ≠ 6 → k ≠ 7 → k ≠ 8 → C' k = C k
theorem tn_sc.rf (C : Nat → Nat → Int) : tn_sc C C := fun _ _ _ _ => rfl
theorem tn_sc.tr {C C' C'' : Nat → Nat → Int} (a : tn_sc C C') (b : tn_sc C' C'') : tn_sc C C'' := fun k h6 h7 h8 => (b k h6 h7 h8).trans (a k h6 h7 h8)
theorem tn_sc.up {C C' : Nat → Nat → Int} (a : tn_sc C C') {k i : Nat} {v : Int} (hk : k = 6 ∨ k = 7 ∨ k = 8) : tn_sc C (tn_up2 C' k i v) := fun j h6 h7 h8 => (tn_up2_ne (by omega)).trans (a j h6 h7 h8)
noncomputable def tn_gl (C : Nat → Nat → Int) (c wo wt p : Int) : Int := Classical.epsilon (fun r => tn_lg 13 (fun t => tn_cd C wo wt t ∧ tn_or C t c p) (tn_rl C) r)
def tn_gw (C : Nat → Nat → Int) (t : Int) : Int := if t = -99 then 0 else tn_rl C t
def tn_gq (C : Nat → Nat → Int) (t : Int) : Int := if t < 12 ∧ C 0 (313 + 6 * t).toNat = 1 then 1 else 0
theorem tn_gl_lg (C : Nat → Nat → Int) (c wo wt p : Int) : tn_lg 13 (fun t => tn_cd C wo wt t ∧ tn_or C t c p) (tn_rl C) (tn_gl C c wo wt p) := Classical.epsilon_spec (p := fun r => tn_lg 13 (fun t => tn_cd C wo wt t ∧ tn_or C t c p) (tn_rl C) r) (tn_lg_ex _ _ 13)
theorem tn_rl_sc {C C' : Nat → Nat → Int} (hs : tn_sc C C') : tn_rl C' = tn_rl C := by
  funext t
  simp only [tn_rl, hs 0 (by omega) (by omega) (by omega), hs 5 (by omega) (by omega) (by omega)]
theorem tn_rt_sc {C C' : Nat → Nat → Int} (hs : tn_sc C C') : tn_rt C' = tn_rt C := by
  funext t k
  simp only [tn_rt, hs 0 (by omega) (by omega) (by omega), hs 5 (by omega) (by omega) (by omega)]
theorem tn_gl_sc {C C' : Nat → Nat → Int} (hs : tn_sc C C') (c wo wt : Int) : tn_gl C' c wo wt = tn_gl C c wo wt := by
  funext p
  simp only [tn_gl, tn_cd, tn_or, tn_rl_sc hs, tn_rt_sc hs, hs 0 (by omega) (by omega) (by omega)]
theorem tn_gq_sc {C C' : Nat → Nat → Int} (hs : tn_sc C C') : tn_gq C' = tn_gq C := by
  funext t
  simp only [tn_gq, hs 0 (by omega) (by omega) (by omega)]
theorem tn_gw_sc {C C' : Nat → Nat → Int} (hs : tn_sc C C') : tn_gw C' = tn_gw C := by
  funext t
  simp only [tn_gw, tn_rl_sc hs]
theorem tn_tok2_sc {C C' : Nat → Nat → Int} (hs : tn_sc C C') {t : Int} (ht : tn_tok2 C t) : tn_tok2 C' t := by
  unfold tn_tok2 at *
  rw [tn_rl_sc hs, tn_rt_sc hs]
  exact ht
/-- what the rows hold when the places before n are read -/
def tn_ra (g w q : Int → Int) (n : Int) (C : Nat → Nat → Int) : Prop := ∀ i : Int, 0 ≤ i → i < 40 → C 6 i.toNat = (if i < n then tn_ov g w i else -99) ∧ C 7 i.toNat = (if i < n then tn_wh g w i else -99) ∧ C 8 i.toNat = if i < n then tn_b (tn_mk g w q i) else 0
section RFX
variable {h : tm_H} {b : Nat} {C : Nat → Nat → Int} {J : Nat → Int}
theorem tn_gl_tk (ok : tn_ok (tn_row (C 0) (C 4))) (hn : C 0 307 ≤ 12) {c p wo wt : Int} (h12 : wt ≠ 0 → tn_tok2 C 12) (hg : tn_gl C c wo wt p ≠ -99) : tn_tok2 C (tn_gl C c wo wt p) ∧ tn_or C (tn_gl C c wo wt p) c p := by
  rcases tn_gl_lg C c wo wt p with ⟨b1, b2⟩ | ⟨b1, b2, b3, b4⟩
  · exact absurd b1 hg
  · refine ⟨?_, b3.2⟩
    have k := b3.1
    unfold tn_cd at k
    by_cases c12 : tn_gl C c wo wt p = 12
    · rw [if_pos c12] at k
      rw [c12]; exact h12 k
    · rw [if_neg c12] at k
      exact tn_tok2_of ok hn ⟨b1, k.1⟩
theorem tx9_long (H : tn_E h b C J) (ok : tn_ok (tn_row (C 0) (C 4))) (hn : C 0 307 ≤ 12) {c p wo wt : Int} (hc : 0 ≤ c ∧ c < 6) (hp : 0 ≤ p ∧ p ≤ 40) (h12 : wt ≠ 0 → tn_tok2 C 12) : fX9_longest b c p wo wt h = some (tn_gl C c wo wt p) := by
  obtain ⟨r, e, l⟩ := tx9_longest H ok hn (wo := wo) hc hp h12
  rw [e, l.uq (tn_gl_lg C c wo wt p)]
theorem tx9_isQ (H : tn_E h b C J) {t : Int} (ht : 0 ≤ t ∧ t ≤ 12) : fX9_isQuiet b t h = some (tn_gq C t) := by
  unfold tn_gq
  by_cases c : t < 12
  · rw [tx9_isQuiet H ⟨ht.1, c⟩]
    by_cases d : C 0 (313 + 6 * t).toNat = 1
    · rw [tn_b1 d, if_pos ⟨c, d⟩]
    · rw [tn_b0 d, if_neg (fun k => d k.2)]
  · simp only [fX9_isQuiet, tn_th H.1]
    rw [if_neg c, if_neg (fun k => c k.1)]
theorem tn_E.wz (H : tn_E h b C J) {i : Int} (v : Int) (i0 : 0 ≤ i) (i1 : i < 40) (hv : v = 0 ∨ v = 1) : ∃ h', tm_wZ h 2 (b + 9) i v = some h' ∧ tn_E h' b (tn_up2 C 8 i.toNat v) J ∧ tn_fr b (b + 11) h h' := by
  obtain ⟨h', e, E, f⟩ := H.w 8 (a := b + 9) (i := i) v rfl (by omega) i0 (by rw [show tn_ln 8 = 40 from rfl]; omega)
  refine ⟨h', ?_, E, f⟩
  unfold tm_wZ
  rw [if_pos hv]
  exact e
theorem tn_E.w6 (H : tn_E h b C J) {i : Int} (v : Int) (i0 : 0 ≤ i) (i1 : i < 40) : ∃ h', tm_wI h 0 (b + 7) i v = some h' ∧ tn_E h' b (tn_up2 C 6 i.toNat v) J ∧ tn_fr b (b + 11) h h' := H.w 6 v rfl (by omega) i0 i1
theorem tn_E.w7 (H : tn_E h b C J) {i : Int} (v : Int) (i0 : 0 ≤ i) (i1 : i < 40) : ∃ h', tm_wI h 0 (b + 8) i v = some h' ∧ tn_E h' b (tn_up2 C 7 i.toNat v) J ∧ tn_fr b (b + 11) h h' := H.w 7 v rfl (by omega) i0 i1
theorem tn_E.l6 (H : tn_E h b C J) {i : Int} (i0 : 0 ≤ i) (i1 : i < 40) : tm_lI h 0 (b + 7) i = some (C 6 i.toNat) := H.l 6 rfl (by omega) i0 i1
theorem tn_E.l7 (H : tn_E h b C J) {i : Int} (i0 : 0 ≤ i) (i1 : i < 40) : tm_lI h 0 (b + 8) i = some (C 7 i.toNat) := H.l 7 rfl (by omega) i0 i1
theorem tn_E.l8 (H : tn_E h b C J) {i : Int} (i0 : 0 ≤ i) (i1 : i < 40) : tm_lI h 2 (b + 9) i = some (C 8 i.toNat) := H.l 8 rfl (by omega) i0 i1
theorem tn_E.g6 (H : tn_E h b C J) : tm_gR h 9 8 b = some (b + 7) ∧ tm_gR h 9 9 b = some (b + 8) ∧ tm_gR h 9 10 b = some (b + 9) := ⟨H.g.2.2.2.2.2.2.1, H.g.2.2.2.2.2.2.2.1, H.g.2.2.2.2.2.2.2.2.1⟩
theorem tx9_rb_w {c wo wt x4 x5 x6 x7 x8 : Int} (h6 : 0 ≤ x6) (h8 : x6 + x8 ≤ 40) : ∀ (m : Nat) (x9 : Int) (h : tm_H) (C : Nat → Nat → Int), tn_E h b C J → 0 ≤ x9 → x9 ≤ x8 → (x8 - x9).toNat = m → ∃ h' C', fX9_readsBy_L95 b c wo wt x4 x5 x6 x7 x8 x9 h = fX9_readsBy_L95 b c wo wt x4 x5 x6 x7 x8 x8 h' ∧ tn_E h' b C' J ∧ tn_sc C C' ∧ C' 8 = C 8 ∧ (∀ i : Int, 0 ≤ i → C' 6 i.toNat = if x6 + x9 ≤ i ∧ i < x6 + x8 then x7 else C 6 i.toNat) ∧ (∀ i : Int, 0 ≤ i → C' 7 i.toNat = if x6 + x9 ≤ i ∧ i < x6 + x8 then i - x6 else C 7 i.toNat) ∧ tn_fr b (b + 11) h h' := by
  intro m
  induction m with
  | zero =>
    intro x9 h C H k0 k1 hm
    exact ⟨h, C, by rw [show x9 = x8 by omega], H, tn_sc.rf C, rfl, fun i i0 => by rw [if_neg (by omega)], fun i i0 => by rw [if_neg (by omega)], tn_fr.rf⟩
  | succ m ih =>
    intro x9 h C H k0 k1 hm
    obtain ⟨h1, e1, E1, f1⟩ := H.w6 (i := x6 + x9) x7 (by omega) (by omega)
    obtain ⟨h2, e2, E2, f2⟩ := E1.w7 (i := x6 + x9) x9 (by omega) (by omega)
    obtain ⟨h3, C3, e3, E3, s3, k8, q6, q7, f3⟩ := ih (x9 + 1) h2 _ E2 (by omega) (by omega) (by omega)
    refine ⟨h3, C3, ?_, E3, (((tn_sc.rf C).up (by omega)).up (by omega)).tr s3, k8, fun i i0 => ?_, fun i i0 => ?_, (f1.tr f2).tr f3⟩
    · rw [fX9_readsBy_L95_eq, if_pos (by omega), H.g6.1, Option.bind_some, tm_wr_id (z := x6 + x9) (by omega) (by omega), e1, Option.bind_some, E1.g6.2.1, Option.bind_some, e2, Option.bind_some, tm_wr_id (z := x9 + 1) (by omega) (by omega)]
      exact e3
    · rw [q6 i i0, tn_up2_ne (show 6 ≠ 7 by omega), tn_up2_eq, tn_upr (by omega) i0]
      by_cases k : i = x6 + x9
      · rw [if_neg (by omega), if_pos k, if_pos (by omega)]
      · by_cases k2 : x6 + x9 ≤ i ∧ i < x6 + x8
        · rw [if_pos (by omega), if_pos k2]
        · rw [if_neg (by omega), if_neg k, if_neg k2]
    · rw [q7 i i0, tn_up2_eq, tn_upr (by omega) i0, tn_up2_ne (show 7 ≠ 6 by omega)]
      by_cases k : i = x6 + x9
      · rw [if_neg (by omega), if_pos k, if_pos (by omega)]; omega
      · by_cases k2 : x6 + x9 ≤ i ∧ i < x6 + x8
        · rw [if_pos (by omega), if_pos k2]
        · rw [if_neg (by omega), if_neg k, if_neg k2]
theorem tx9_rb_l {C0 : Nat → Nat → Int} (ok : tn_ok (tn_row (C0 0) (C0 4))) (hn : C0 0 307 ≤ 12) {c wo wt : Int} (hc : 0 ≤ c ∧ c < 6) (h12 : wt ≠ 0 → tn_tok2 C0 12) : ∀ (m : Nat) (p x5 : Int) (h : tm_H) (C : Nat → Nat → Int), tn_E h b C J → tn_sc C0 C → 0 ≤ p → p ≤ C0 0 (61 + 41 * c).toNat → tn_be (tn_gl C0 c wo wt) (tn_gw C0) p → (∀ t : Int, 0 ≤ t → t ≤ 12 → tn_bit x5 t = tn_b (tn_gq C0 t = 0 ∧ ∃ r : Int, 0 ≤ r ∧ r < p ∧ tn_us (tn_gl C0 c wo wt) (tn_gw C0) t r)) → tn_ra (tn_gl C0 c wo wt) (tn_gw C0) (tn_gq C0) p C → (40 - p).toNat = m → ∃ h' C', fX9_readsBy_L51 b c wo wt (tn_km (tn_gl C0 c wo wt) (tn_gw C0) (tn_gq C0) p) x5 p h = some (tn_km (tn_gl C0 c wo wt) (tn_gw C0) (tn_gq C0) (C0 0 (61 + 41 * c).toNat), h') ∧ tn_E h' b C' J ∧ tn_sc C0 C' ∧ tn_ra (tn_gl C0 c wo wt) (tn_gw C0) (tn_gq C0) (C0 0 (61 + 41 * c).toNat) C' ∧ tn_fr b (b + 11) h h' := by
  intro m
  induction m using Nat.strongRecOn with
  | _ m ih =>
    intro p x5 h C H hs p0 p1 hb hx ha hm
    have ok1 : tn_ok (tn_row (C 0) (C 4)) := by rw [hs 0 (by omega) (by omega) (by omega), hs 4 (by omega) (by omega) (by omega)]; exact ok
    have n1 : C 0 307 ≤ 12 := by rw [hs 0 (by omega) (by omega) (by omega)]; exact hn
    have sz40 : 0 ≤ C0 0 (61 + 41 * c).toNat ∧ C0 0 (61 + 41 * c).toNat ≤ 40 := ⟨(ok.c hc).1, (ok.c hc).2⟩
    have szd : C 0 (61 + 41 * c).toNat = C0 0 (61 + 41 * c).toNat := by rw [hs 0 (by omega) (by omega) (by omega)]
    have gl : fX9_longest b c p wo wt h = some (tn_gl C0 c wo wt p) := by rw [tx9_long H ok1 n1 hc (by omega) (fun k => tn_tok2_sc hs (h12 k)), tn_gl_sc hs]
    have kr := tn_sm_rg (f := fun i => tn_b (tn_mk (tn_gl C0 c wo wt) (tn_gw C0) (tn_gq C0) i)) (B := 1) (m := p.toNat) (fun i _ _ => tn_b_rg _)
    have kr' : 0 ≤ tn_km (tn_gl C0 c wo wt) (tn_gw C0) (tn_gq C0) p ∧ tn_km (tn_gl C0 c wo wt) (tn_gw C0) (tn_gq C0) p ≤ 40 := by unfold tn_km; omega
    rw [fX9_readsBy_L51_eq, tx9_size H hc, Option.bind_some, szd]
    by_cases c1 : p < C0 0 (61 + 41 * c).toNat
    · rw [if_pos c1, gl, Option.bind_some]
      by_cases c2 : tn_gl C0 c wo wt p = -99
      · have w0 : tn_gw C0 (tn_gl C0 c wo wt p) = 0 := by unfold tn_gw; rw [if_pos c2]
        have nm : ¬ tn_mk (tn_gl C0 c wo wt) (tn_gw C0) (tn_gq C0) p := fun y => y.2.1 c2
        have km1 : tn_km (tn_gl C0 c wo wt) (tn_gw C0) (tn_gq C0) (p + 1) = tn_km (tn_gl C0 c wo wt) (tn_gw C0) (tn_gq C0) p := by rw [tn_km_su p0, tn_b0 nm, Int.add_zero]
        rw [if_pos c2, fX9_readsBy_L90_eq, fX9_readsBy_L95_eq, if_neg (by omega), if_neg (by omega), fX9_readsBy_L176_eq, if_neg (by omega), fX9_readsBy_L189_eq, tm_wr_id (by omega) (by omega), ← km1]
        refine ih (40 - (p + 1)).toNat (by omega) (p + 1) x5 h C H hs (by omega) (by omega) (tn_be_n1 p0 hb w0) ?_ ?_ rfl
        · intro t t0 t1
          rw [hx t t0 t1]
          refine tn_bc ⟨fun ⟨y, r, r0, r1, r2⟩ => ⟨y, r, r0, by omega, r2⟩, fun ⟨y, r, r0, r1, r2⟩ => ⟨y, r, r0, ?_, r2⟩⟩
          by_cases k : r = p
          · have := r2.2
            rw [k] at this
            omega
          · omega
        · intro i i0 i1
          obtain ⟨a1, a2, a3⟩ := ha i i0 i1
          rw [a1, a2, a3]
          by_cases k : i = p
          · have x1 : ¬ i < p := by omega
            have x2 : i < p + 1 := by omega
            refine ⟨?_, ?_, ?_⟩
            · rw [if_neg x1, if_pos x2, k, tn_ov_in p0 hb (by omega) (Or.inr rfl), c2]
            · rw [if_neg x1, if_pos x2, k, tn_wh_in p0 hb (by omega) (Or.inr rfl), if_pos c2]
            · rw [if_neg x1, if_pos x2, k, tn_b0 nm]
          · by_cases k2 : i < p
            · have x2 : i < p + 1 := by omega
              refine ⟨?_, ?_, ?_⟩
              · rw [if_pos k2, if_pos x2]
              · rw [if_pos k2, if_pos x2]
              · rw [if_pos k2, if_pos x2]
            · have x2 : ¬ i < p + 1 := by omega
              refine ⟨?_, ?_, ?_⟩
              · rw [if_neg k2, if_neg x2]
              · rw [if_neg k2, if_neg x2]
              · rw [if_neg k2, if_neg x2]
      · obtain ⟨tk, orr⟩ := tn_gl_tk ok hn h12 c2
        have wl : tn_gw C0 (tn_gl C0 c wo wt p) = tn_rl C0 (tn_gl C0 c wo wt p) := by unfold tn_gw; rw [if_neg c2]
        have o1 := orr.1
        rw [← wl] at o1
        have L1 := tk.2.2.1
        have L4 := tk.2.2.2.1
        rw [← wl] at L1 L4
        obtain ⟨h1, C1, e1, E1, s1, k8, q6, q7, f1⟩ := tx9_rb_w (b := b) (J := J) (c := c) (wo := wo) (wt := wt) (x4 := tn_km (tn_gl C0 c wo wt) (tn_gw C0) (tn_gq C0) p) (x5 := x5) (x6 := p) (x7 := tn_gl C0 c wo wt p) (x8 := tn_gw C0 (tn_gl C0 c wo wt p)) p0 (by omega) _ 0 h C H (by omega) (by omega) rfl
        have hs1 := hs.tr s1
        have lenr : tn_rl C (tn_gl C0 c wo wt p) = tn_gw C0 (tn_gl C0 c wo wt p) := by rw [tn_rl_sc hs, wl]
        rw [if_neg c2, tx9_len H ⟨tk.1, tk.2.1⟩, Option.bind_some, lenr, fX9_readsBy_L90_eq, e1, fX9_readsBy_L95_eq, if_neg (by omega), if_pos (by omega), tx9_isQ E1 ⟨tk.1, tk.2.1⟩, Option.bind_some, tn_gq_sc hs1]
        have fin : ∀ (x4' x5' : Int) (h2 : tm_H) (C2 : Nat → Nat → Int), tn_E h2 b C2 J → tn_sc C0 C2 → tn_fr b (b + 11) h h2 → C2 6 = C1 6 → C2 7 = C1 7 → (∀ i : Int, 0 ≤ i → C2 8 i.toNat = if i = p then tn_b (tn_mk (tn_gl C0 c wo wt) (tn_gw C0) (tn_gq C0) p) else C 8 i.toNat) → x4' = tn_km (tn_gl C0 c wo wt) (tn_gw C0) (tn_gq C0) p + tn_b (tn_mk (tn_gl C0 c wo wt) (tn_gw C0) (tn_gq C0) p) → (∀ t : Int, 0 ≤ t → t ≤ 12 → tn_bit x5' t = tn_b (tn_gq C0 t = 0 ∧ ((∃ r : Int, 0 ≤ r ∧ r < p ∧ tn_us (tn_gl C0 c wo wt) (tn_gw C0) t r) ∨ tn_gl C0 c wo wt p = t))) → ∃ h' C', fX9_readsBy_L176 b c wo wt x4' x5' p (tn_gw C0 (tn_gl C0 c wo wt p)) h2 = some (tn_km (tn_gl C0 c wo wt) (tn_gw C0) (tn_gq C0) (C0 0 (61 + 41 * c).toNat), h') ∧ tn_E h' b C' J ∧ tn_sc C0 C' ∧ tn_ra (tn_gl C0 c wo wt) (tn_gw C0) (tn_gq C0) (C0 0 (61 + 41 * c).toNat) C' ∧ tn_fr b (b + 11) h h' := by
          intro x4' x5' h2 C2 E2 s2 f2 k6 k7 q8 hx4 hx5
          rw [fX9_readsBy_L176_eq, if_pos (by omega), fX9_readsBy_L189_eq, tm_wr_id (by omega) (by omega), hx4, ← tn_km_nx p0 hb (by omega)]
          obtain ⟨h3, C3, e3, E3, s3, a3, f3⟩ := ih (40 - (p + tn_gw C0 (tn_gl C0 c wo wt p))).toNat (by omega) (p + tn_gw C0 (tn_gl C0 c wo wt p)) x5' h2 C2 E2 s2 (by omega) (by omega) (tn_be_nx p0 hb (by omega)) (fun t t0 t1 => by
            rw [hx5 t t0 t1]
            exact tn_bc (and_congr_right (fun _ => (tn_us_in p0 hb (by omega)).symm))) (fun i i0 i1 => by
            obtain ⟨a1, a2, a3⟩ := ha i i0 i1
            rw [k6, k7, q6 i i0, q7 i i0, q8 i i0, a1, a2, a3]
            by_cases k2 : i < p
            · have x1 : ¬ (p + 0 ≤ i ∧ i < p + tn_gw C0 (tn_gl C0 c wo wt p)) := by omega
              have x2 : i < p + tn_gw C0 (tn_gl C0 c wo wt p) := by omega
              have x3 : ¬ i = p := by omega
              refine ⟨?_, ?_, ?_⟩
              · rw [if_neg x1, if_pos k2, if_pos x2]
              · rw [if_neg x1, if_pos k2, if_pos x2]
              · rw [if_neg x3, if_pos k2, if_pos x2]
            · by_cases k3 : i < p + tn_gw C0 (tn_gl C0 c wo wt p)
              · have x1 : p + 0 ≤ i ∧ i < p + tn_gw C0 (tn_gl C0 c wo wt p) := by omega
                refine ⟨?_, ?_, ?_⟩
                · rw [if_pos x1, if_pos k3, tn_ov_in p0 hb (by omega) (Or.inl k3)]
                · rw [if_pos x1, if_pos k3, tn_wh_in p0 hb (by omega) (Or.inl k3), if_neg c2]
                · by_cases k4 : i = p
                  · rw [if_pos k4, if_pos k3, k4]
                  · rw [if_neg k4, if_neg k2, if_pos k3, tn_b0 (fun y => tn_nb_in p0 hb (by omega) k3 y.1)]
              · have x1 : ¬ (p + 0 ≤ i ∧ i < p + tn_gw C0 (tn_gl C0 c wo wt p)) := by omega
                have x3 : ¬ i = p := by omega
                refine ⟨?_, ?_, ?_⟩
                · rw [if_neg x1, if_neg k2, if_neg k3]
                · rw [if_neg x1, if_neg k2, if_neg k3]
                · rw [if_neg x3, if_neg k2, if_neg k3]) rfl
          exact ⟨h3, C3, e3, E3, s3, a3, f2.tr f3⟩
        have mk : tn_mk (tn_gl C0 c wo wt) (tn_gw C0) (tn_gq C0) p ↔ tn_gq C0 (tn_gl C0 c wo wt p) = 0 ∧ ¬ ∃ r : Int, 0 ≤ r ∧ r < p ∧ tn_us (tn_gl C0 c wo wt) (tn_gw C0) (tn_gl C0 c wo wt p) r := by
          constructor
          · rintro ⟨y1, y2, y3, y4⟩
            exact ⟨y3, fun ⟨r, r0, r1, r2⟩ => y4 r r0 r1 r2⟩
          · rintro ⟨y3, y4⟩
            exact ⟨hb, c2, y3, fun r r0 r1 r2 => y4 ⟨r, r0, r1, r2⟩⟩
        have q8n : ¬ tn_mk (tn_gl C0 c wo wt) (tn_gw C0) (tn_gq C0) p → ∀ i : Int, 0 ≤ i → C1 8 i.toNat = if i = p then tn_b (tn_mk (tn_gl C0 c wo wt) (tn_gw C0) (tn_gq C0) p) else C 8 i.toNat := fun nm i i0 => by
          rw [k8]
          by_cases k : i = p
          · rw [if_pos k, tn_b0 nm, (ha i i0 (by omega)).2.2, if_neg (by omega)]
          · rw [if_neg k]
        by_cases c3 : tn_gq C0 (tn_gl C0 c wo wt p) = 0
        · have bt := hx (tn_gl C0 c wo wt p) tk.1 tk.2.1
          unfold tn_bit at bt
          rw [if_pos c3, bt]
          by_cases c4 : ∃ r : Int, 0 ≤ r ∧ r < p ∧ tn_us (tn_gl C0 c wo wt) (tn_gw C0) (tn_gl C0 c wo wt p) r
          · have nm : ¬ tn_mk (tn_gl C0 c wo wt) (tn_gw C0) (tn_gq C0) p := fun y => (mk.mp y).2 c4
            rw [tn_b1 ⟨c3, c4⟩, if_neg (by omega)]
            refine fin _ _ h1 C1 E1 hs1 f1 rfl rfl (q8n nm) (by rw [tn_b0 nm, Int.add_zero]) (fun t t0 t1 => ?_)
            rw [hx t t0 t1]
            refine tn_bc (and_congr_right (fun _ => ⟨Or.inl, fun y => ?_⟩))
            rcases y with y | y
            · exact y
            · rw [← y]; exact c4
          · have ym : tn_mk (tn_gl C0 c wo wt) (tn_gw C0) (tn_gq C0) p := mk.mpr ⟨c3, c4⟩
            obtain ⟨h2, e2, E2, f2⟩ := E1.wz (i := p) 1 p0 (by omega) (Or.inr rfl)
            rw [tn_b0 (fun y => c4 y.2), if_pos rfl, E1.g6.2.2, Option.bind_some, e2, Option.bind_some, tm_wr_id (by omega) (by omega)]
            refine fin _ _ h2 _ E2 (hs1.up (by omega)) (f1.tr f2) (tn_up2_ne (by omega)) (tn_up2_ne (by omega)) (fun i i0 => ?_) (by rw [tn_b1 ym]) (fun t t0 t1 => ?_)
            · rw [tn_up2_eq, tn_upr p0 i0, k8, tn_b1 ym]
            · rw [tn_bit_or x5 ⟨t0, t1⟩ ⟨tk.1, tk.2.1⟩, hx t t0 t1]
              by_cases k : t = tn_gl C0 c wo wt p
              · rw [if_pos k, tn_b1 ⟨by rw [k]; exact c3, Or.inr k.symm⟩]
              · rw [if_neg k]
                refine tn_bc (and_congr_right (fun _ => ⟨Or.inl, fun y => ?_⟩))
                rcases y with y | y
                · exact y
                · exact absurd y.symm k
        · have nm : ¬ tn_mk (tn_gl C0 c wo wt) (tn_gw C0) (tn_gq C0) p := fun y => c3 (mk.mp y).1
          rw [if_neg c3]
          refine fin _ _ h1 C1 E1 hs1 f1 rfl rfl (q8n nm) (by rw [tn_b0 nm, Int.add_zero]) (fun t t0 t1 => ?_)
          rw [hx t t0 t1]
          refine tn_bc (and_congr_right (fun z => ⟨Or.inl, fun y => ?_⟩))
          rcases y with y | y
          · exact y
          · rw [← y] at z; exact absurd z c3
    · rw [if_neg c1]
      have pe : p = C0 0 (61 + 41 * c).toNat := by omega
      exact ⟨h, C, by rw [pe], H, hs, by rw [← pe]; exact ha, tn_fr.rf⟩
theorem tx9_rb_i {c wo wt x6 : Int} : ∀ (m : Nat) (k : Int) (h : tm_H) (C : Nat → Nat → Int), tn_E h b C J → (∀ i : Int, 0 ≤ i → i < k → C 6 i.toNat = -99 ∧ C 7 i.toNat = -99 ∧ C 8 i.toNat = 0) → 0 ≤ k → k ≤ 40 → (40 - k).toNat = m → ∃ h' C', fX9_readsBy_L12 b c wo wt 0 0 x6 k h = fX9_readsBy_L51 b c wo wt 0 0 x6 h' ∧ tn_E h' b C' J ∧ tn_sc C C' ∧ (∀ i : Int, 0 ≤ i → i < 40 → C' 6 i.toNat = -99 ∧ C' 7 i.toNat = -99 ∧ C' 8 i.toNat = 0) ∧ tn_fr b (b + 11) h h' := by
  intro m
  induction m with
  | zero =>
    intro k h C H ha k0 k1 hm
    exact ⟨h, C, by rw [fX9_readsBy_L12_eq, if_neg (by omega)], H, tn_sc.rf C, fun i i0 i1 => ha i i0 (by omega), tn_fr.rf⟩
  | succ m ih =>
    intro k h C H ha k0 k1 hm
    obtain ⟨h1, e1, E1, f1⟩ := H.w6 (i := k) (-99) (by omega) (by omega)
    obtain ⟨h2, e2, E2, f2⟩ := E1.w7 (i := k) (-99) (by omega) (by omega)
    obtain ⟨h3, e3, E3, f3⟩ := E2.wz (i := k) 0 (by omega) (by omega) (Or.inl rfl)
    obtain ⟨h4, C4, e4, E4, s4, q4, f4⟩ := ih (k + 1) h3 _ E3 (fun i i0 i1 => by
      rw [tn_up2_ne (show 6 ≠ 8 by omega), tn_up2_ne (show 6 ≠ 7 by omega), tn_up2_eq, tn_upr (by omega) i0, tn_up2_ne (show 7 ≠ 8 by omega), tn_up2_eq, tn_upr (by omega) i0, tn_up2_ne (show 7 ≠ 6 by omega), tn_up2_eq, tn_upr (by omega) i0, tn_up2_ne (show 8 ≠ 7 by omega), tn_up2_ne (show 8 ≠ 6 by omega)]
      by_cases c : i = k
      · rw [if_pos c, if_pos c, if_pos c]; exact ⟨rfl, rfl, rfl⟩
      · rw [if_neg c, if_neg c, if_neg c]; exact ha i i0 (by omega)) (by omega) (by omega) (by omega)
    refine ⟨h4, C4, ?_, E4, ((((tn_sc.rf C).up (by omega)).up (by omega)).up (by omega)).tr s4, q4, ((f1.tr f2).tr f3).tr f4⟩
    rw [fX9_readsBy_L12_eq, if_pos (by omega), H.g6.1, Option.bind_some, e1, Option.bind_some, E1.g6.2.1, Option.bind_some, e2, Option.bind_some, E2.g6.2.2, Option.bind_some, e3, Option.bind_some, tm_wr_id (by omega) (by omega)]
    exact e4
/-- a chapter is read: the number of marks is told, the rows hold what is read -/
theorem tx9_readsBy (H : tn_E h b C J) (ok : tn_ok (tn_row (C 0) (C 4))) (hn : C 0 307 ≤ 12) {c wo wt : Int} (hc : 0 ≤ c ∧ c < 6) (h12 : wt ≠ 0 → tn_tok2 C 12) : ∃ h' C', fX9_readsBy b c wo wt h = some (tn_km (tn_gl C c wo wt) (tn_gw C) (tn_gq C) (C 0 (61 + 41 * c).toNat), h') ∧ tn_E h' b C' J ∧ tn_sc C C' ∧ tn_ra (tn_gl C c wo wt) (tn_gw C) (tn_gq C) (C 0 (61 + 41 * c).toNat) C' ∧ tn_fr b (b + 11) h h' := by
  obtain ⟨h1, C1, e1, E1, s1, a1, f1⟩ := tx9_rb_i (c := c) (wo := wo) (wt := wt) (x6 := 0) _ 0 h C H (fun i i0 i1 => by omega) (by omega) (by omega) rfl
  obtain ⟨h2, C2, e2, E2, s2, a2, f2⟩ := tx9_rb_l (b := b) (J := J) ok hn (wo := wo) hc h12 _ 0 0 h1 C1 E1 s1 (by omega) (ok.c hc).1 tn_be_0 (fun t t0 t1 => by
    rw [tn_bit0 ⟨t0, t1⟩, tn_b0]
    rintro ⟨_, r, r0, r1, _⟩
    omega) (fun i i0 i1 => by
    obtain ⟨x1, x2, x3⟩ := a1 i i0 i1
    rw [x1, x2, x3, if_neg (by omega), if_neg (by omega), if_neg (by omega)]
    exact ⟨rfl, rfl, rfl⟩) rfl
  refine ⟨h2, C2, ?_, E2, s2, a2, f1.tr f2⟩
  simp only [fX9_readsBy, tn_th H.1]
  rw [e1]
  exact e2
end RFX
