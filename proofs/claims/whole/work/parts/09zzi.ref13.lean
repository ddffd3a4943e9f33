/-! the reference: what is looked at -/
section WHO
variable {g w q : Int → Int}
theorem tn_ov_be {p : Int} (hp : 0 ≤ p) (b : tn_be g w p) : tn_ov g w p = g p := by
  unfold tn_ov
  rw [tn_fm_be hp b]
theorem tn_wh0 {p : Int} (hp : 0 ≤ p) : tn_wh g w p = 0 ↔ tn_be g w p ∧ g p ≠ -99 := by
  unfold tn_wh
  by_cases c : tn_ov g w p = -99
  · rw [if_pos c]
    refine ⟨fun e => by omega, fun ⟨b, n⟩ => ?_⟩
    rw [tn_ov_be hp b] at c
    exact absurd c n
  · rw [if_neg c]
    constructor
    · intro e
      have k := (tn_fm_rg (g := g) (w := w) hp).2.2
      rw [show tn_fm g w p = p by omega] at k
      rw [tn_ov_be hp k] at c
      exact ⟨k, c⟩
    · rintro ⟨b, n⟩
      rw [tn_fm_be hp b]
      omega
theorem tn_us_wh {p t : Int} (hp : 0 ≤ p) (ht : t ≠ -99) : tn_us g w t p ↔ tn_wh g w p = 0 ∧ tn_ov g w p = t := by
  rw [tn_wh0 hp]
  unfold tn_us
  constructor
  · rintro ⟨b, e⟩
    rw [tn_ov_be hp b]
    exact ⟨⟨b, by rw [e]; exact ht⟩, e⟩
  · rintro ⟨⟨b, n⟩, e⟩
    rw [tn_ov_be hp b] at e
    exact ⟨b, e⟩
/-- the first place over which a term is read is one where it begins -/
theorem tn_ff_ov {n t r : Int} (ht : t ≠ -99) (a : tn_ff n (fun i => tn_ov g w i = t) r) : tn_ff n (tn_us g w t) r := by
  rcases a with ⟨a1, a2⟩ | ⟨a1, a2, a3, a4⟩
  · exact Or.inl ⟨a1, fun i i0 i1 hu => a2 i i0 i1 ((tn_ov_be i0 hu.1).trans hu.2)⟩
  · have b : tn_be g w r := by
      refine Classical.byContradiction (fun nb => ?_)
      have k1 := tn_fm_nb a1 nb
      obtain ⟨k2, k3, k4⟩ := tn_fm_rg (g := g) (w := w) a1
      exact a4 _ k2 k1 ((tn_ov_be k2 k4).trans a3)
    refine Or.inr ⟨a1, a2, ⟨b, by rw [← tn_ov_be a1 b]; exact a3⟩, fun i i0 i1 hu => a4 i i0 i1 ((tn_ov_be i0 hu.1).trans hu.2)⟩
/-- nothing is read over a place: there a reading would begin -/
theorem tn_ov_no {p : Int} (hp : 0 ≤ p) (hw : w (-99) = 0) (e : tn_ov g w p = -99) : tn_be g w p := by
  refine Classical.byContradiction (fun nb => ?_)
  have k1 := tn_fm_nb hp nb
  obtain ⟨a, c, d, f⟩ := tn_rd_fm (g := g) (w := w) (p + 1).toNat (by omega)
  have s := tn_rd_su (g := g) (w := w) hp
  unfold tn_be at nb
  rw [if_pos (by omega)] at s
  have e' : g (tn_rd g w (p + 1).toNat).1 = -99 := e
  rw [e', hw] at d
  have k1' : (tn_rd g w (p + 1).toNat).1 < p := k1
  rw [s] at d k1'
  omega
theorem tn_km_pos {p n : Int} (hp : 0 ≤ p) (hn : p < n) (m : tn_mk g w q p) : 0 < tn_km g w q n := by
  have a := tn_km_su (g := g) (w := w) (q := q) hp
  rw [tn_b1 m] at a
  have r := tn_sm_rg (f := fun i => tn_b (tn_mk g w q i)) (B := 1) (m := p.toNat) (fun i _ _ => tn_b_rg _)
  have k := tn_sm_mo (f := fun i => tn_b (tn_mk g w q i)) (fun i => (tn_b_rg _).1) (m := (p + 1).toNat) (n := n.toNat) (by omega)
  unfold tn_km at *
  omega
end WHO
/-- the row still means the state s, only what a reading fills may be other -/
def tn_V (h : tm_H) (b : Nat) (C0 : Nat → Nat → Int) (J : Nat → Int) (s : tn_St) (C : Nat → Nat → Int) : Prop := tn_row (C0 0) (C0 4) = s ∧ tn_ok s ∧ C0 0 307 ≤ 12 ∧ tn_E h b C J ∧ tn_sc C0 C
section RFZ
variable {h : tm_H} {b : Nat} {C0 C : Nat → Nat → Int} {J : Nat → Int} {s : tn_St}
theorem tn_V_of (H : tn_E h b C J) (ok : tn_ok (tn_row (C 0) (C 4))) (hn : C 0 307 ≤ 12) : tn_V h b C J (tn_row (C 0) (C 4)) C := ⟨rfl, ok, hn, H, tn_sc.rf C⟩
theorem tn_V.G (V : tn_V h b C0 J s C) : tn_G h b C0 J := V.2.2.2.2.G V.2.2.2.1
theorem tn_V.e (V : tn_V h b C0 J s C) : C 0 = C0 0 ∧ C 4 = C0 4 := ⟨V.2.2.2.2 0 (by omega) (by omega) (by omega), V.2.2.2.2 4 (by omega) (by omega) (by omega)⟩
theorem tn_V.okC (V : tn_V h b C0 J s C) : tn_ok (tn_row (C 0) (C 4)) := by
  rw [V.e.1, V.e.2, V.1]; exact V.2.1
theorem tn_V.hnC (V : tn_V h b C0 J s C) : C 0 307 ≤ 12 := by
  rw [V.e.1]; exact V.2.2.1
theorem tn_V.sd (V : tn_V h b C0 J s C) : tn_row (C 0) (C 4) = s := by
  rw [V.e.1, V.e.2, V.1]
theorem tn_V.nT (V : tn_V h b C0 J s C) : tn_nT s = C 0 307 := by
  rw [← V.sd]
  rfl
theorem tn_V.size (V : tn_V h b C0 J s C) {c : Int} (hc : 0 ≤ c ∧ c < 6) : fX9_size b c h = some (tn_sz s c) := by
  rw [tx9_size V.2.2.2.1 hc, ← V.sd]
  rfl
theorem tn_V.isTerm (V : tn_V h b C0 J s C) (t : Int) : fX9_isTerm b t h = some (tn_b (0 ≤ t ∧ t < tn_nT s)) := by
  rw [tx9_isTerm V.2.2.2.1 V.okC, V.nT]
theorem tn_V.quiet (V : tn_V h b C0 J s C) {t : Int} (ht : 0 ≤ t ∧ t < tn_nT s) : fX9_isQuiet b t h = some (tn_tq s t) := by
  have n12 := V.hnC
  have nt := V.nT
  have tq := (V.2.1.2.2.2.2.2.2.1 t ht.1 ht.2).2.2.1
  have e : tn_tq s t = C 0 (313 + 6 * t).toNat := by rw [← V.sd]; rfl
  rw [tx9_isQuiet V.2.2.2.1 ⟨ht.1, by omega⟩]
  rw [e] at tq ⊢
  rcases tq with k | k
  · rw [tn_b0 (by omega), k]
  · rw [tn_b1 k, k]
theorem tn_V.reads (V : tn_V h b C0 J s C) {c : Int} (hc : 0 ≤ c ∧ c < 6) : ∃ h' C', fX9_reads b c h = some (tn_km (tn_L s c) (tn_w s) (tn_tq s) (tn_sz s c), h') ∧ tn_V h' b C0 J s C' ∧ tn_ra (tn_L s c) (tn_w s) (tn_tq s) (tn_sz s c) C' ∧ tn_fr b (b + 11) h h' := by
  obtain ⟨h1, C1, e1, E1, s1, a1, f1⟩ := tx9_reads V.2.2.2.1 V.okC V.hnC hc
  rw [V.sd] at e1 a1
  exact ⟨h1, C1, e1, ⟨V.1, V.2.1, V.2.2.1, E1, V.2.2.2.2.tr s1⟩, a1, f1⟩
theorem tn_V.km (V : tn_V h b C0 J s C) {c : Int} (hc : 0 ≤ c ∧ c < 6) (p : Int) (hp : p ≤ tn_sz s c) : 0 ≤ tn_km (tn_L s c) (tn_w s) (tn_tq s) p ∧ tn_km (tn_L s c) (tn_w s) (tn_tq s) p ≤ 40 := by
  have sz := V.2.1.c hc
  have := tn_sm_rg (f := fun i => tn_b (tn_mk (tn_L s c) (tn_w s) (tn_tq s) i)) (B := 1) (m := p.toNat) (fun i _ _ => tn_b_rg _)
  unfold tn_km
  omega
theorem tx9_place (V : tn_V h b C0 J s C) (c p w : Int) : ∃ h' C', fX9_place b c p w h = some (sp_place s c p w, h') ∧ tn_V h' b C0 J s C' ∧ tn_fr b (b + 11) h h' := by
  simp only [fX9_place, tn_th V.2.2.2.1.1, tx9_isChapter, Option.bind_some]
  unfold sp_place
  by_cases c1 : 0 ≤ c ∧ c < 6
  · rw [tn_b1 c1, if_neg (by omega), tx9_in, Option.bind_some]
    by_cases c2 : 0 ≤ w ∧ w ≤ 3
    · rw [tn_b1 c2, if_neg (by omega)]
      by_cases c3 : p < 0
      · rw [if_pos c3, if_neg (by omega)]
        exact ⟨h, C, rfl, V, tn_fr.rf⟩
      · rw [if_neg c3, V.size c1, Option.bind_some, if_pos (show 0 ≤ c ∧ c < 6 ∧ 0 ≤ p ∧ 0 ≤ w ∧ w ≤ 3 by omega)]
        by_cases c4 : p < tn_sz s c
        · obtain ⟨h1, C1, e1, V1, a1, f1⟩ := V.reads c1
          have sz := V.2.1.c c1
          obtain ⟨r1, r2, r3⟩ := a1 p (by omega) (by omega)
          rw [if_pos c4] at r1 r2 r3
          refine ⟨h1, C1, ?_, V1, f1⟩
          rw [if_pos c4, if_pos c4, e1, Option.bind_some]
          dsimp only
          by_cases w0 : w = 0
          · have wd : tn_wd s c p = C1 0 (62 + 41 * c + p).toNat := by rw [← V1.sd]; rfl
            rw [if_pos w0, if_pos w0, V1.2.2.2.1.g.1, Option.bind_some, tx9_at c1 (by omega), Option.bind_some, V1.2.2.2.1.l0 (by omega) (by omega), Option.bind_some, wd]
          · rw [if_neg w0, if_neg w0]
            by_cases w1 : w = 1
            · rw [if_pos w1, if_pos w1, V1.2.2.2.1.g6.1, Option.bind_some, V1.2.2.2.1.l6 (by omega) (by omega), Option.bind_some, r1]
            · rw [if_neg w1, if_neg w1]
              by_cases w2 : w = 2
              · rw [if_pos w2, if_pos w2, V1.2.2.2.1.g6.2.1, Option.bind_some, V1.2.2.2.1.l7 (by omega) (by omega), Option.bind_some, r2]
              · rw [if_neg w2, if_neg w2, V1.2.2.2.1.g6.2.2, Option.bind_some, V1.2.2.2.1.l8 (by omega) (by omega), Option.bind_some, r3]
                by_cases k : tn_mk (tn_L s c) (tn_w s) (tn_tq s) p
                · rw [tn_b1 k, if_neg (by omega), if_pos (tn_km_pos (by omega) c4 k)]
                · rw [tn_b0 k, if_pos rfl]
        · rw [if_neg c4, if_neg c4]
          exact ⟨h, C, rfl, V, tn_fr.rf⟩
    · rw [tn_b0 c2, if_pos rfl, if_neg (by omega)]
      exact ⟨h, C, rfl, V, tn_fr.rf⟩
  · rw [tn_b0 c1, if_pos rfl, if_neg (by omega)]
    exact ⟨h, C, rfl, V, tn_fr.rf⟩
theorem tx9_why (V : tn_V h b C0 J s C) (c p t : Int) : ∃ h' C', fX9_why b c p t h = some (sp_why s c p t, h') ∧ tn_V h' b C0 J s C' ∧ tn_fr b (b + 11) h h' := by
  simp only [fX9_why, tn_th V.2.2.2.1.1, tx9_isChapter, Option.bind_some]
  unfold sp_why
  by_cases c1 : 0 ≤ c ∧ c < 6
  · have sz := V.2.1.c c1
    rw [tn_b1 c1, if_neg (by omega), V.size c1, Option.bind_some, tx9_in, Option.bind_some, tm_wr_id (by omega) (by omega)]
    by_cases c2 : 0 ≤ p ∧ p ≤ tn_sz s c - 1
    · rw [tn_b1 c2, if_neg (by omega), V.isTerm, Option.bind_some]
      by_cases c3 : 0 ≤ t ∧ t < tn_nT s
      · obtain ⟨h1, C1, e1, V1, a1, f1⟩ := V.reads c1
        obtain ⟨r1, r2, r3⟩ := a1 p (by omega) (by omega)
        rw [if_pos (by omega)] at r1 r2 r3
        have nt := V1.nT
        have n12 := V1.hnC
        have oc : tn_or C1 t c p ↔ tn_oc s t c p := by rw [← V1.sd]; exact tn_or_oc ⟨c3.1, by omega⟩
        refine ⟨h1, C1, ?_, V1, f1⟩
        rw [tn_b1 c3, if_neg (by omega), if_pos (show 0 ≤ c ∧ c < 6 ∧ 0 ≤ p ∧ p < tn_sz s c ∧ 0 ≤ t ∧ t < tn_nT s by omega), e1, Option.bind_some]
        dsimp only
        rw [tx9_occurs V1.2.2.2.1 V1.okC (tn_tok2_of V1.okC n12 ⟨c3.1, by omega⟩) c1 (by omega), Option.bind_some, tn_bc oc]
        by_cases c4 : tn_oc s t c p
        · have L72 : fX9_why_L72 b c p t (tn_km (tn_L s c) (tn_w s) (tn_tq s) (tn_sz s c)) h1 = some (if 0 < tn_wh (tn_L s c) (tn_w s) p then 3 else if tn_tq s t ≠ 0 then 4 else @ite _ (tn_mk (tn_L s c) (tn_w s) (tn_tq s) p) (Classical.propDecidable _) 0 5, h1) := by
            simp only [fX9_why_L72]
            rw [V1.2.2.2.1.g6.2.1, Option.bind_some, V1.2.2.2.1.l7 (by omega) (by omega), Option.bind_some, r2]
            by_cases d1 : 0 < tn_wh (tn_L s c) (tn_w s) p
            · rw [if_pos d1, if_pos d1]
            · rw [if_neg d1, if_neg d1, V1.quiet c3, Option.bind_some]
              by_cases d2 : tn_tq s t = 0
              · rw [if_pos d2, if_neg (show ¬ tn_tq s t ≠ 0 from fun k => k d2), V1.2.2.2.1.g6.2.2, Option.bind_some, V1.2.2.2.1.l8 (by omega) (by omega), Option.bind_some, r3]
                by_cases d3 : tn_mk (tn_L s c) (tn_w s) (tn_tq s) p
                · rw [tn_b1 d3, if_neg (by omega), if_pos (tn_km_pos (by omega) (by omega) d3), if_pos d3]
                · rw [tn_b0 d3, if_pos rfl, if_neg d3]
              · rw [if_neg d2, if_pos d2]
          rw [tn_b1 c4, if_neg (by omega), if_pos c4, V1.2.2.2.1.g6.2.1, Option.bind_some, V1.2.2.2.1.l7 (by omega) (by omega), Option.bind_some, r2, V1.2.2.2.1.g6.1, Option.bind_some, V1.2.2.2.1.l6 (by omega) (by omega), Option.bind_some, r1, L72]
          by_cases c5 : tn_wh (tn_L s c) (tn_w s) p = 0
          · rw [if_pos c5, if_neg (show ¬ 0 < tn_wh (tn_L s c) (tn_w s) p by omega), if_neg (show ¬ 0 < tn_wh (tn_L s c) (tn_w s) p by omega)]
            by_cases c6 : tn_ov (tn_L s c) (tn_w s) p = t
            · rw [if_pos c6, if_pos c6]
            · rw [if_neg c6, if_neg c6]
          · rw [if_neg c5]
            have ps : 0 < tn_wh (tn_L s c) (tn_w s) p := by
              have fr := tn_fm_rg (g := tn_L s c) (w := tn_w s) (p := p) (by omega)
              by_cases d1 : tn_ov (tn_L s c) (tn_w s) p = -99
              · have be := tn_ov_no (g := tn_L s c) (w := tn_w s) (p := p) (by omega) (by unfold tn_w; rw [if_neg (by omega)]) d1
                rw [tn_ov_be (by omega) be] at d1
                rcases tn_L_lg s V.2.1.2.2.2.2.1 c p with ⟨b1, b2⟩ | ⟨b1, b2, b3, b4⟩
                · exact absurd c4 (b2 t c3.1 c3.2)
                · omega
              · unfold tn_wh at c5 ⊢
                rw [if_neg d1] at c5 ⊢
                omega
            rw [if_pos ps, if_pos ps]
        · rw [tn_b0 c4, if_pos rfl, if_neg c4]
      · rw [tn_b0 c3, if_pos rfl, if_neg (by omega)]
        exact ⟨h, C, rfl, V, tn_fr.rf⟩
    · rw [tn_b0 c2, if_pos rfl, if_neg (by omega)]
      exact ⟨h, C, rfl, V, tn_fr.rf⟩
  · rw [tn_b0 c1, if_pos rfl, if_neg (by omega)]
    exact ⟨h, C, rfl, V, tn_fr.rf⟩
theorem tx9_fi_l (V : tn_V h b C0 J s C) {c t x : Int} (hc : 0 ≤ c ∧ c < 6) (R : tn_ra (tn_L s c) (tn_w s) (tn_tq s) (tn_sz s c) C) (hx : 0 ≤ x) : ∀ (m : Nat) (k : Int), 0 ≤ k → k ≤ tn_sz s c → (∀ i : Int, 0 ≤ i → i < k → tn_ov (tn_L s c) (tn_w s) i ≠ t) → (tn_sz s c - k).toNat = m → ∃ r, fX9_firstIn_L9 b t c x k h = some (r, h) ∧ tn_ff (tn_sz s c) (fun i => tn_ov (tn_L s c) (tn_w s) i = t) r := by
  have sz := V.2.1.c hc
  intro m
  induction m with
  | zero =>
    intro k k0 k1 ha hm
    refine ⟨-99, ?_, Or.inl ⟨rfl, fun i i0 i1 => ha i i0 (by omega)⟩⟩
    rw [fX9_firstIn_L9_eq, V.size hc, Option.bind_some, if_neg (by omega)]
  | succ m ih =>
    intro k k0 k1 ha hm
    have r1 := (R k k0 (by omega)).1
    rw [if_pos (by omega)] at r1
    rw [fX9_firstIn_L9_eq, V.size hc, Option.bind_some, if_pos (by omega), if_neg (by omega), V.2.2.2.1.g6.1, Option.bind_some, V.2.2.2.1.l6 k0 (by omega), Option.bind_some, r1, tm_wr_id (by omega) (by omega)]
    by_cases c1 : tn_ov (tn_L s c) (tn_w s) k = t
    · rw [if_pos c1]
      exact ⟨k, rfl, Or.inr ⟨k0, by omega, c1, ha⟩⟩
    · rw [if_neg c1]
      exact ih (k + 1) (by omega) (by omega) (fun i i0 i1 => by
        by_cases e : i = k
        · rw [e]; exact c1
        · exact ha i i0 (by omega)) (by omega)
theorem tx9_firstIn (V : tn_V h b C0 J s C) {c t : Int} (hc : 0 ≤ c ∧ c < 6) (ht : t ≠ -99) : ∃ r h' C', fX9_firstIn b t c h = some (r, h') ∧ tn_ff (tn_sz s c) (tn_us (tn_L s c) (tn_w s) t) r ∧ tn_V h' b C0 J s C' ∧ tn_fr b (b + 11) h h' := by
  obtain ⟨h1, C1, e1, V1, a1, f1⟩ := V.reads hc
  have sz := V.2.1.c hc
  obtain ⟨r, e2, l2⟩ := tx9_fi_l (t := t) V1 hc a1 (V.km hc _ (Int.le_refl _)).1 _ 0 (by omega) sz.1 (fun i i0 i1 => by omega) rfl
  refine ⟨r, h1, C1, ?_, tn_ff_ov ht l2, V1, f1⟩
  simp only [fX9_firstIn, tn_th V.2.2.2.1.1, e1, Option.bind_some]
  exact e2
theorem tx9_firstUse (V : tn_V h b C0 J s C) (t c : Int) : ∃ r h' C', fX9_firstUse b t c h = some (r, h') ∧ (0 ≤ t ∧ t < tn_nT s ∧ 0 ≤ c ∧ c < 6 → tn_ff (tn_sz s c) (tn_us (tn_L s c) (tn_w s) t) r) ∧ (¬ (0 ≤ t ∧ t < tn_nT s ∧ 0 ≤ c ∧ c < 6) → r = -1) ∧ tn_V h' b C0 J s C' ∧ tn_fr b (b + 11) h h' := by
  simp only [fX9_firstUse, tn_th V.2.2.2.1.1, tx9_isChapter, V.isTerm, Option.bind_some]
  by_cases c1 : 0 ≤ t ∧ t < tn_nT s
  · rw [tn_b1 c1, if_neg (by omega)]
    by_cases c2 : 0 ≤ c ∧ c < 6
    · obtain ⟨r, h1, C1, e1, l1, V1, f1⟩ := tx9_firstIn V (t := t) c2 (by omega)
      rw [tn_b1 c2, if_neg (by omega), e1, Option.bind_some]
      exact ⟨r, h1, C1, rfl, fun _ => l1, fun k => by omega, V1, f1⟩
    · rw [tn_b0 c2, if_pos rfl]
      exact ⟨-1, h, C, rfl, fun k => by omega, fun _ => rfl, V, tn_fr.rf⟩
  · rw [tn_b0 c1, if_pos rfl]
    exact ⟨-1, h, C, rfl, fun k => by omega, fun _ => rfl, V, tn_fr.rf⟩
theorem tn_hm_ff {t d r : Int} (ht : 0 ≤ t) (l : tn_ff (tn_sz s d) (tn_us (tn_L s d) (tn_w s) t) r) : tn_hm s t d (tn_sz s d) ↔ tn_tq s t = 0 ∧ r ≠ -99 := by
  constructor
  · rintro ⟨q, q0, q1, mk, e⟩
    refine ⟨by rw [← e]; exact mk.2.2.1, fun k => ?_⟩
    rcases l with ⟨b1, b2⟩ | ⟨b1, b2, b3, b4⟩
    · exact b2 q q0 q1 ⟨mk.1, e⟩
    · omega
  · rintro ⟨e, k⟩
    rcases l with ⟨b1, b2⟩ | ⟨b1, b2, b3, b4⟩
    · exact absurd b1 k
    · exact ⟨r, b1, b2, ⟨b3.1, by rw [b3.2]; omega, by rw [b3.2]; exact e, fun i i0 i1 => by rw [b3.2]; exact b4 i i0 i1⟩, b3.2⟩
theorem tx9_mo_l {t : Int} (ht : 0 ≤ t ∧ t < tn_nT s) : ∀ (m : Nat) (k : Int) (h : tm_H) (C : Nat → Nat → Int), tn_V h b C0 J s C → 0 ≤ k → k ≤ 6 → (6 - k).toNat = m → ∃ h' C', fX9_marksOf_L4 b t (tn_sm (fun d => tn_b (tn_hm s t d (tn_sz s d))) k.toNat) k h = some (tn_sm (fun d => tn_b (tn_hm s t d (tn_sz s d))) 6, h') ∧ tn_V h' b C0 J s C' ∧ tn_fr b (b + 11) h h' := by
  intro m
  induction m with
  | zero =>
    intro k h C V k0 k1 hm
    rw [fX9_marksOf_L4_eq, if_neg (by omega), show k.toNat = 6 by omega]
    exact ⟨h, C, rfl, V, tn_fr.rf⟩
  | succ m ih =>
    intro k h C V k0 k1 hm
    have r2 := tn_sm_rg (f := fun d => tn_b (tn_hm s t d (tn_sz s d))) (B := 1) (m := k.toNat) (fun i _ _ => tn_b_rg _)
    obtain ⟨r, h1, C1, e1, l1, V1, f1⟩ := tx9_firstIn V (t := t) (c := k) ⟨k0, by omega⟩ (by omega)
    have hm1 := tn_hm_ff (s := s) ht.1 l1
    rw [fX9_marksOf_L4_eq, if_pos (by omega), V.quiet ht, Option.bind_some]
    by_cases c1 : tn_tq s t = 0
    · obtain ⟨h2, C2, e2, V2, f2⟩ := ih (k + 1) h1 C1 V1 (by omega) (by omega) (by omega)
      rw [tn_sm_su k0] at e2
      refine ⟨h2, C2, ?_, V2, f1.tr f2⟩
      rw [if_pos c1, e1, Option.bind_some]
      dsimp only
      by_cases c2 : r = -99
      · rw [tn_b0 (fun y => (hm1.mp y).2 c2)] at e2
        rw [if_pos c2, fX9_marksOf_L34_eq, fX9_marksOf_L35_eq, tm_wr_id (z := k + 1) (by omega) (by omega), tm_wr_id (by omega) (by omega)]
        exact e2
      · rw [tn_b1 (hm1.mpr ⟨c1, c2⟩)] at e2
        rw [if_neg c2, fX9_marksOf_L35_eq, tm_wr_id (z := k + 1) (by omega) (by omega), tm_wr_id (by omega) (by omega)]
        exact e2
    · obtain ⟨h2, C2, e2, V2, f2⟩ := ih (k + 1) h C V (by omega) (by omega) (by omega)
      rw [tn_sm_su k0, tn_b0 (fun y => c1 (hm1.mp y).1)] at e2
      refine ⟨h2, C2, ?_, V2, f2⟩
      rw [if_neg c1, fX9_marksOf_L34_eq, fX9_marksOf_L35_eq, tm_wr_id (z := k + 1) (by omega) (by omega), tm_wr_id (by omega) (by omega)]
      exact e2
theorem tx9_marksOf (V : tn_V h b C0 J s C) {t : Int} (ht : 0 ≤ t ∧ t < tn_nT s) : ∃ h' C', fX9_marksOf b t h = some (tn_sm (fun d => tn_b (tn_hm s t d (tn_sz s d))) 6, h') ∧ tn_V h' b C0 J s C' ∧ tn_fr b (b + 11) h h' := by
  obtain ⟨h1, C1, e1, V1, f1⟩ := tx9_mo_l (b := b) (C0 := C0) (J := J) ht _ 0 h C V (by omega) (by omega) rfl
  refine ⟨h1, C1, ?_, V1, f1⟩
  simp only [fX9_marksOf, tn_th V.2.2.2.1.1]
  exact e1
/-- readings that are counted: all, or a term's -/
noncomputable def tn_f9 (s : tn_St) (a d i : Int) : Int := if a = -99 then tn_fq s d i else tn_fu s a d i
theorem tn_f9_eq {a d i : Int} (hi : 0 ≤ i) : tn_f9 s a d i = tn_b (tn_wh (tn_L s d) (tn_w s) i = 0 ∧ (a = -99 ∨ tn_ov (tn_L s d) (tn_w s) i = a)) := by
  unfold tn_f9
  by_cases c : a = -99
  · rw [if_pos c]
    exact tn_bc ((tn_wh0 hi).symm.trans ⟨fun y => ⟨y, Or.inl c⟩, fun y => y.1⟩)
  · rw [if_neg c]
    exact tn_bc ((tn_us_wh hi c).trans ⟨fun y => ⟨y.1, Or.inr y.2⟩, fun y => ⟨y.1, y.2.resolve_left c⟩⟩)
theorem tn_f9_rg (a d i : Int) : 0 ≤ tn_f9 s a d i ∧ tn_f9 s a d i ≤ 1 := by
  unfold tn_f9
  split
  · exact tn_b_rg _
  · exact tn_b_rg _
theorem tx9_rg_i (V : tn_V h b C0 J s C) {a d x S : Int} (hd : 0 ≤ d ∧ d < 6) (R : tn_ra (tn_L s d) (tn_w s) (tn_tq s) (tn_sz s d) C) (hx : 0 ≤ x) (hS : 0 ≤ S ∧ S ≤ 240) : ∀ (m : Nat) (k : Int), 0 ≤ k → k ≤ 40 → (40 - k).toNat = m → fX9_readings_L20 b a (S + tn_sm (tn_f9 s a d) (if k < tn_sz s d then k else tn_sz s d).toNat) d x k h = fX9_readings_L73 b a (S + tn_sm (tn_f9 s a d) (tn_sz s d).toNat) d h := by
  have sz := V.2.1.c hd
  intro m
  induction m with
  | zero =>
    intro k k0 k1 hm
    rw [if_neg (show ¬ k < tn_sz s d by omega), fX9_readings_L20_eq, if_neg (by omega)]
  | succ m ih =>
    intro k k0 k1 hm
    have q := ih (k + 1) (by omega) (by omega) (by omega)
    obtain ⟨r1, r2, r3⟩ := R k k0 (by omega)
    rw [fX9_readings_L20_eq, if_pos (by omega), if_neg (by omega), V.2.2.2.1.g6.2.1, Option.bind_some, V.2.2.2.1.l7 k0 (by omega), Option.bind_some, V.2.2.2.1.g6.1, Option.bind_some, V.2.2.2.1.l6 k0 (by omega), Option.bind_some, r1, r2, fX9_readings_L60_eq, fX9_readings_L64_eq, fX9_readings_L65_eq, fX9_readings_L65_eq, tm_wr_id (z := k + 1) (by omega) (by omega)]
    by_cases c1 : k < tn_sz s d
    · have b1 := tn_sm_rg (f := tn_f9 s a d) (B := 1) (m := k.toNat) (fun i _ _ => tn_f9_rg a d i)
      have su : tn_sm (tn_f9 s a d) (if k + 1 < tn_sz s d then k + 1 else tn_sz s d).toNat = tn_sm (tn_f9 s a d) k.toNat + tn_f9 s a d k := by
        rw [← tn_sm_su k0]
        exact congrArg (fun y => tn_sm (tn_f9 s a d) (Int.toNat y)) (by split <;> omega)
      rw [su, tn_f9_eq k0, ← Int.add_assoc] at q
      rw [if_pos c1, if_pos c1, if_pos c1, tm_wr_id (by omega) (by omega), tm_wr_id (by omega) (by omega)]
      by_cases c2 : tn_wh (tn_L s d) (tn_w s) k = 0
      · rw [if_pos c2]
        by_cases c3 : a = -99
        · rw [tn_b1 ⟨c2, Or.inl c3⟩] at q
          rw [if_pos c3]
          exact q
        · rw [if_neg c3]
          by_cases c4 : tn_ov (tn_L s d) (tn_w s) k = a
          · rw [tn_b1 ⟨c2, Or.inr c4⟩] at q
            rw [if_pos c4]
            exact q
          · rw [tn_b0 (fun y => y.2.elim c3 c4)] at q
            rw [if_neg c4]
            exact q
      · rw [tn_b0 (fun y => c2 y.1)] at q
        rw [if_neg c2]
        exact q
    · have b1 := tn_sm_rg (f := tn_f9 s a d) (B := 1) (m := (tn_sz s d).toNat) (fun i _ _ => tn_f9_rg a d i)
      rw [if_neg (show ¬ k + 1 < tn_sz s d by omega)] at q
      rw [if_neg c1, if_neg c1, if_neg c1, if_neg (show ¬ (-99 : Int) = 0 by omega), tm_wr_id (z := S + tn_sm (tn_f9 s a d) (tn_sz s d).toNat + 0) (by omega) (by omega), Int.add_zero]
      exact q
theorem tx9_rg_l {a : Int} : ∀ (m : Nat) (k : Int) (h : tm_H) (C : Nat → Nat → Int), tn_V h b C0 J s C → 0 ≤ k → k ≤ 6 → (6 - k).toNat = m → ∃ h' C', fX9_readings_L4 b a (tn_sm (fun d => tn_sm (tn_f9 s a d) (tn_sz s d).toNat) k.toNat) k h = some (tn_sm (fun d => tn_sm (tn_f9 s a d) (tn_sz s d).toNat) 6, h') ∧ tn_V h' b C0 J s C' ∧ tn_fr b (b + 11) h h' := by
  intro m
  induction m with
  | zero =>
    intro k h C V k0 k1 hm
    rw [fX9_readings_L4_eq, if_neg (by omega), show k.toNat = 6 by omega]
    exact ⟨h, C, rfl, V, tn_fr.rf⟩
  | succ m ih =>
    intro k h C V k0 k1 hm
    have kd : 0 ≤ k ∧ k < 6 := ⟨k0, by omega⟩
    have rS := tn_sm_rg (f := fun d => tn_sm (tn_f9 s a d) (tn_sz s d).toNat) (B := 40) (m := k.toNat) (fun i i0 i1 => by
      have z := V.2.1.c (c := i) ⟨i0, by omega⟩
      have y := tn_sm_rg (f := tn_f9 s a i) (B := 1) (m := (tn_sz s i).toNat) (fun j _ _ => tn_f9_rg a i j)
      omega)
    obtain ⟨h1, C1, e1, V1, a1, f1⟩ := V.reads kd
    have sz := V.2.1.c kd
    have lp := tx9_rg_i V1 (a := a) (S := tn_sm (fun d => tn_sm (tn_f9 s a d) (tn_sz s d).toNat) k.toNat) kd a1 (V.km kd _ (Int.le_refl _)).1 (by omega) _ 0 (by omega) (by omega) rfl
    have z0 : tn_sm (tn_f9 s a k) (if 0 < tn_sz s k then 0 else tn_sz s k).toNat = 0 := by
      rw [show (if 0 < tn_sz s k then (0 : Int) else tn_sz s k) = 0 by split <;> omega]; rfl
    rw [z0, Int.add_zero] at lp
    obtain ⟨h2, C2, e2, V2, f2⟩ := ih (k + 1) h1 C1 V1 (by omega) (by omega) (by omega)
    rw [tn_sm_su k0] at e2
    refine ⟨h2, C2, ?_, V2, f1.tr f2⟩
    rw [fX9_readings_L4_eq, if_pos (by omega), e1, Option.bind_some]
    dsimp only
    rw [lp, fX9_readings_L73_eq, tm_wr_id (by omega) (by omega)]
    exact e2
theorem tx9_readings (V : tn_V h b C0 J s C) (a : Int) : ∃ h' C', fX9_readings b a h = some (if a = -99 then tn_s2 (tn_fq s) (tn_sz s) 6 0 else tn_s2 (tn_fu s a) (tn_sz s) 6 0, h') ∧ tn_V h' b C0 J s C' ∧ tn_fr b (b + 11) h h' := by
  obtain ⟨h1, C1, e1, V1, f1⟩ := tx9_rg_l (a := a) _ 0 h C V (by omega) (by omega) rfl
  refine ⟨h1, C1, ?_, V1, f1⟩
  simp only [fX9_readings, tn_th V.2.2.2.1.1]
  refine e1.trans (congrArg (fun y => some (y, h1)) ?_)
  by_cases c : a = -99
  · rw [if_pos c]
    show _ = tn_sm (fun d => tn_sm (tn_fq s d) (tn_sz s d).toNat) 6 + 0
    rw [Int.add_zero]
    refine tn_sm_cg (fun d _ _ => tn_sm_cg (fun i _ _ => ?_))
    unfold tn_f9
    rw [if_pos c]
  · rw [if_neg c]
    show _ = tn_sm (fun d => tn_sm (tn_fu s a d) (tn_sz s d).toNat) 6 + 0
    rw [Int.add_zero]
    refine tn_sm_cg (fun d _ _ => tn_sm_cg (fun i _ _ => ?_))
    unfold tn_f9
    rw [if_neg c]
end RFZ
