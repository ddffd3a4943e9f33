/-! what a reading answers -/
section RDQ
variable {h : tm_H} {a : Nat} {s : tn_St}
theorem tn_Rp.ob {c p p' : Int} (H : tn_Rp h a s c p p') : tm_is h 3 a := by
  obtain ⟨A, B, Fi, T, mC, mP, mT, H1, H2⟩ := H
  exact ⟨_, H1.1⟩
theorem tn_Rp.cg {h' : tm_H} {c p p' : Int} (H : tn_Rp h a s c p p') (e : tn_eq a (a + 33) h h') : tn_Rp h' a s c p p' := by
  obtain ⟨A, B, Fi, T, mC, mP, mT, H1, H2⟩ := H
  exact ⟨A, B, Fi, T, mC, mP, mT, H1.cg e, H2⟩
theorem tx3_markCount (H : tn_Rp h a s 6 0 0) : fX3_markCount a h = some (tn_s2 (tn_fk s) (tn_sz s) 6 0) := by
  obtain ⟨A, B, Fi, T, mC, mP, mT, H1, H2⟩ := H
  simp only [fX3_markCount, tn_th H1.1, H1.g.2.2.2.2.2.2.2.1, Option.bind_some]
theorem tx3_readingCount (H : tn_Rp h a s 6 0 0) : fX3_readingCount a h = some (tn_s2 (tn_fq s) (tn_sz s) 6 0) := by
  obtain ⟨A, B, Fi, T, mC, mP, mT, H1, H2⟩ := H
  simp only [fX3_readingCount, tn_th H1.1, H1.g.2.2.2.2.2.2.2.2, Option.bind_some]
theorem tx3_isInside {c p : Int} (hc : 0 ≤ c ∧ c < 6) (hp : 0 ≤ p ∧ p < 40) : fX3_isInside c p h = some 1 := by
  unfold fX3_isInside
  rw [if_neg (by omega), if_pos hc.2, if_neg (by omega), if_pos hp.2]
theorem tx3_termOver (H : tn_Rp h a s 6 0 0) (ok : tn_ok s) {c p : Int} (hc : 0 ≤ c ∧ c < 6) (hp : 0 ≤ p ∧ p < tn_sz s c) : fX3_termOver a c p h = some (tn_ov (tn_L s c) (tn_w s) p) := by
  obtain ⟨A, B, Fi, T, mC, mP, mT, H1, H2, H3⟩ := H
  have o := ok.c hc
  simp only [fX3_termOver, tn_th H1.1, tx3_isInside hc (show 0 ≤ p ∧ p < 40 by omega), H1.g.1, (H1.rA hc).1, (H1.lA hc (show 0 ≤ p ∧ p < 40 by omega)).1, Option.bind_some]
  rw [if_neg (by omega), (H2 c p hc.1 hc.2 hp.1 hp.2 (Or.inl hc.2)).1]
theorem tx3_stepOver (H : tn_Rp h a s 6 0 0) (ok : tn_ok s) {c p : Int} (hc : 0 ≤ c ∧ c < 6) (hp : 0 ≤ p ∧ p < tn_sz s c) : fX3_stepOver a c p h = some (tn_wh (tn_L s c) (tn_w s) p) := by
  obtain ⟨A, B, Fi, T, mC, mP, mT, H1, H2, H3⟩ := H
  have o := ok.c hc
  simp only [fX3_stepOver, tn_th H1.1, tx3_isInside hc (show 0 ≤ p ∧ p < 40 by omega), H1.g.2.1, (H1.rA hc).2, (H1.lA hc (show 0 ≤ p ∧ p < 40 by omega)).2, Option.bind_some]
  rw [if_neg (by omega), (H2 c p hc.1 hc.2 hp.1 hp.2 (Or.inl hc.2)).2]
theorem tx3_timesRead (H : tn_Rp h a s 6 0 0) {t : Int} (ht : 0 ≤ t ∧ t < 13) : fX3_timesRead a t h = some (tn_s2 (tn_fu s t) (tn_sz s) 6 0) := by
  obtain ⟨A, B, Fi, T, mC, mP, mT, H1, H2, H3, H4, H5⟩ := H
  simp only [fX3_timesRead, tn_th H1.1, H1.g.2.2.2.1, H1.lT ht, Option.bind_some]
  rw [if_neg (by omega), if_pos ht.2, H4 t ht.1 ht.2]
theorem tx3_firstPlace (H : tn_Rp h a s 6 0 0) {t c : Int} (ht : 0 ≤ t ∧ t < 13) (hc : 0 ≤ c ∧ c < 6) : ∃ r, fX3_firstPlace a t c h = some r ∧ tn_ff (tn_sz s c) (tn_us (tn_L s c) (tn_w s) t) r := by
  obtain ⟨A, B, Fi, T, mC, mP, mT, H1, H2, H3, H4, H5⟩ := H
  refine ⟨Fi t c.toNat, ?_, ?_⟩
  · simp only [fX3_firstPlace, tn_th H1.1, H1.g.2.2.1, H1.rF ht, H1.lF ht hc, Option.bind_some]
    rw [if_neg (by omega), if_pos ht.2, if_neg (by omega), if_pos hc.2]
  · have q := H3 t c ht.1 ht.2 hc.1 hc.2
    rw [if_pos hc.2] at q
    exact q
/-- the places of two marks with one number are one -/
theorem tn_M_uq {c p d q : Int} (c0 : 0 ≤ c) (p0 : 0 ≤ p) (d0 : 0 ≤ d) (q0 : 0 ≤ q) (p1 : p < tn_sz s c) (q1 : q < tn_sz s d) (k1 : tn_mk (tn_L s c) (tn_w s) (tn_tq s) p) (k2 : tn_mk (tn_L s d) (tn_w s) (tn_tq s) q) (e : tn_s2 (tn_fk s) (tn_sz s) c p = tn_s2 (tn_fk s) (tn_sz s) d q) : c = d ∧ p = q := by
  by_cases x : tn_bf c p d q
  · have := tn_s2_lt (f := tn_fk s) (sz := tn_sz s) (fun d i => (tn_fk_rg s d i).1) d0 ⟨q0, q1⟩ p0 x (tn_b1 k2)
    omega
  · by_cases y : tn_bf d q c p
    · have := tn_s2_lt (f := tn_fk s) (sz := tn_sz s) (fun d i => (tn_fk_rg s d i).1) c0 ⟨p0, p1⟩ q0 y (tn_b1 k1)
      omega
    · unfold tn_bf at x y
      omega
theorem tx3_hasMark_l {A B Fi : Int → Nat → Int} {T mC mP mT : Nat → Int} {mc rc : Int} (H : tn_Rr h a A B Fi T mC mP mT mc rc) (h78 : mc ≤ 78) (c p : Int) : ∀ (m : Nat) (k : Int), 0 ≤ k → (mc - k).toNat = m → fX3_hasMark_L2 a c p h k = some (tn_b (∃ i : Int, k ≤ i ∧ i < mc ∧ mC i.toNat = c ∧ mP i.toNat = p)) := by
  obtain ⟨g0, g1, g2, g3, g4, g5, g6, g7, g8⟩ := H.g
  intro m
  induction m with
  | zero =>
    intro k k0 hm
    rw [fX3_hasMark_L2_eq, g7, Option.bind_some, if_neg (by omega), tn_b0]
    rintro ⟨i, i0, i1, _⟩
    omega
  | succ m ih =>
    intro k k0 hm
    have lm := H.lM (m := k) (by omega)
    have nx : fX3_hasMark_L32 a c p h k = fX3_hasMark_L2 a c p h (k + 1) := by rw [fX3_hasMark_L32_eq, tm_wr_id (by omega) (by omega)]
    have cc : ¬ (mC k.toNat = c ∧ mP k.toNat = p) → fX3_hasMark_L2 a c p h (k + 1) = some (tn_b (∃ i : Int, k ≤ i ∧ i < mc ∧ mC i.toNat = c ∧ mP i.toNat = p)) := by
      intro n
      rw [ih (k + 1) (by omega) (by omega), tn_bc]
      refine ⟨fun ⟨i, i0, i1⟩ => ⟨i, by omega, i1⟩, fun ⟨i, i0, i1, i2⟩ => ⟨i, ?_, i1, i2⟩⟩
      by_cases x : i = k
      · rw [x] at i2; exact absurd i2 n
      · omega
    rw [fX3_hasMark_L2_eq, g7, Option.bind_some, if_pos (by omega), g4, Option.bind_some, lm.1, Option.bind_some, g5, Option.bind_some, lm.2.1, Option.bind_some, nx]
    by_cases c1 : mC k.toNat = c
    · rw [if_pos c1]
      by_cases c2 : mP k.toNat = p
      · rw [if_pos c2, tn_b1 ⟨k, by omega, by omega, c1, c2⟩]
      · rw [if_neg c2]; exact cc (fun x => c2 x.2)
    · rw [if_neg c1]; exact cc (fun x => c1 x.1)
theorem tn_Rp.mc78 (H : tn_Rp h a s 6 0 0) (ok : tn_ok s) (hL : ∀ d p : Int, 0 ≤ d → d < 6 → 0 ≤ p → tn_L s d p = -99 ∨ 0 ≤ tn_L s d p ∧ tn_L s d p < tn_nT s) : 0 ≤ tn_s2 (tn_fk s) (tn_sz s) 6 0 ∧ tn_s2 (tn_fk s) (tn_sz s) 6 0 ≤ 78 := by
  obtain ⟨A, B, Fi, T, mC, mP, mT, H1, H2, H3, H4, H5, H6⟩ := H
  have r := tn_s2_rg (f := tn_fk s) (sz := tn_sz s) (c := 6) (p := 0) (fun d i => tn_fk_rg s d i) (fun d d0 d1 => ok.c ⟨d0, d1⟩) (by omega) (by omega) (by omega)
  refine ⟨r.1, ?_⟩
  by_cases c : tn_s2 (tn_fk s) (tn_sz s) 6 0 ≤ 78
  · exact c
  · obtain ⟨d, q, d0, d1, q0, q1, hb, hk, em⟩ := H6 78 (by omega) (by omega)
    have nT : tn_nT s ≤ 13 := ok.2.2.2.2.2.1
    have := tn_room (s := s) (fun d p d0 d1 p0 => by have := hL d p d0 d1 p0; omega) (fun d d0 d1 => (ok.c ⟨d0, d1⟩).1) ⟨d0, d1⟩ q0 hk
    omega
theorem tx3_hasMark (H : tn_Rp h a s 6 0 0) (ok : tn_ok s) (hL : ∀ d p : Int, 0 ≤ d → d < 6 → 0 ≤ p → tn_L s d p = -99 ∨ 0 ≤ tn_L s d p ∧ tn_L s d p < tn_nT s) {c p : Int} (hc : 0 ≤ c ∧ c < 6) (hp : 0 ≤ p ∧ p < tn_sz s c) : fX3_hasMark a c p h = some (tn_b (tn_mk (tn_L s c) (tn_w s) (tn_tq s) p)) := by
  have hm := H.mc78 ok hL
  obtain ⟨A, B, Fi, T, mC, mP, mT, H1, H2, H3, H4, H5, H6⟩ := H
  simp only [fX3_hasMark, tn_th H1.1]
  rw [tx3_hasMark_l H1 hm.2 c p _ 0 (by omega) rfl, tn_bc]
  constructor
  · rintro ⟨i, i0, i1, i2, i3⟩
    obtain ⟨d, q, d0, d1, q0, q1, hb, hk, em⟩ := H6 i i0 i1
    obtain ⟨x1, x2, x3⟩ := H5 d q d0 d1 q0 q1 hb hk
    rw [em] at x1 x2
    rw [← i2, ← i3, x1, x2]
    exact hk
  · intro k
    obtain ⟨x1, x2, x3⟩ := H5 c p hc.1 hc.2 hp.1 hp.2 (Or.inl hc.2) k
    have ge := tn_s2_rg (f := tn_fk s) (sz := tn_sz s) (c := c) (p := p) (fun d i => tn_fk_rg s d i) (fun d d0 d1 => ok.c ⟨d0, d1⟩) hc.1 (by omega) hp.1
    exact ⟨_, ge.1, tn_s2_lt (f := tn_fk s) (sz := tn_sz s) (fun d i => (tn_fk_rg s d i).1) hc.1 hp (by omega) (Or.inl hc.2) (tn_b1 k), x1, x2⟩
theorem tx3_marksOf_l {A B Fi : Int → Nat → Int} {T mC mP mT : Nat → Int} {mc rc : Int} (H : tn_Rr h a A B Fi T mC mP mT mc rc) (h78 : mc ≤ 78) (t : Int) : ∀ (m : Nat) (k : Int), 0 ≤ k → k ≤ mc → (mc - k).toNat = m → fX3_marksOf_L4 a t h (tn_sm (fun i => tn_b (mT i.toNat = t)) k.toNat) k = some (tn_sm (fun i => tn_b (mT i.toNat = t)) mc.toNat) := by
  obtain ⟨g0, g1, g2, g3, g4, g5, g6, g7, g8⟩ := H.g
  intro m
  induction m with
  | zero =>
    intro k k0 k1 hm
    rw [fX3_marksOf_L4_eq, g7, Option.bind_some, if_neg (by omega), show k = mc by omega]
  | succ m ih =>
    intro k k0 k1 hm
    have lm := H.lM (m := k) (by omega)
    have r := tn_sm_rg (f := fun i => tn_b (mT i.toNat = t)) (B := 1) (m := k.toNat) (fun i _ _ => tn_b_rg _)
    rw [fX3_marksOf_L4_eq, g7, Option.bind_some, if_pos (by omega), g6, Option.bind_some, lm.2.2, Option.bind_some, fX3_marksOf_L25_eq, fX3_marksOf_L25_eq, tm_wr_id (z := k + 1) (by omega) (by omega)]
    have q := ih (k + 1) (by omega) (by omega) (by omega)
    rw [tn_sm_su k0] at q
    by_cases c : mT k.toNat = t
    · rw [if_pos c, tm_wr_id (by omega) (by omega)]
      rw [tn_b1 c] at q
      exact q
    · rw [if_neg c]
      rw [tn_b0 c, Int.add_zero] at q
      exact q
/-- a term has a mark in a chapter, before a place -/
def tn_hm (s : tn_St) (t d p : Int) : Prop := ∃ q : Int, 0 ≤ q ∧ q < p ∧ tn_mk (tn_L s d) (tn_w s) (tn_tq s) q ∧ tn_L s d q = t
theorem tn_marksOf {mT : Nat → Int} (t : Int) (ok : tn_ok s) (H5 : ∀ d q : Int, 0 ≤ d → d < 6 → 0 ≤ q → q < tn_sz s d → tn_mk (tn_L s d) (tn_w s) (tn_tq s) q → mT (tn_s2 (tn_fk s) (tn_sz s) d q).toNat = tn_L s d q) : ∀ (m : Nat) (c p : Int), 0 ≤ c → c < 6 → 0 ≤ p → p ≤ tn_sz s c → (41 * c + p).toNat = m → tn_sm (fun i => tn_b (mT i.toNat = t)) (tn_s2 (tn_fk s) (tn_sz s) c p).toNat = tn_sm (fun d => tn_b (tn_hm s t d (tn_sz s d))) c.toNat + tn_b (tn_hm s t c p) := by
  intro m
  induction m using Nat.strongRecOn with
  | _ m ih =>
    intro c p c0 c1 p0 p1 hm
    by_cases z : p = 0
    · subst z
      have hm0 : ∀ d, tn_b (tn_hm s t d 0) = 0 := fun d => tn_b0 (fun ⟨q, q0, q1, _⟩ => by omega)
      rw [hm0, Int.add_zero]
      by_cases y : c = 0
      · subst y; rw [tn_s2_0]; rfl
      · obtain ⟨d, rfl⟩ : ∃ d, c = d + 1 := ⟨c - 1, by omega⟩
        have sd := ok.c (c := d) ⟨by omega, by omega⟩
        rw [tn_s2_c (by omega), ih (41 * d + tn_sz s d).toNat (by omega) d (tn_sz s d) (by omega) (by omega) sd.1 (Int.le_refl _) rfl, tn_sm_su (by omega)]
    · obtain ⟨q, rfl⟩ : ∃ q, p = q + 1 := ⟨p - 1, by omega⟩
      have q0 : 0 ≤ q := by omega
      have ge := tn_s2_rg (f := tn_fk s) (sz := tn_sz s) (c := c) (p := q) (fun d i => tn_fk_rg s d i) (fun d d0 d1 => ok.c ⟨d0, d1⟩) c0 (by omega) q0
      have iq := ih (41 * c + q).toNat (by omega) c q c0 c1 q0 (by omega) rfl
      rw [tn_s2_p q0]
      by_cases k : tn_mk (tn_L s c) (tn_w s) (tn_tq s) q
      · rw [show tn_fk s c q = 1 from tn_b1 k, tn_sm_su ge.1, iq, H5 c q c0 c1 q0 (by omega) k]
        by_cases e : tn_L s c q = t
        · have no : ¬ tn_hm s t c q := by
            rintro ⟨r, r0, r1, r2, r3⟩
            exact k.2.2.2 r r0 r1 ⟨r2.1, by rw [r3, e]⟩
          rw [tn_b0 no, tn_b1 e, tn_b1 (P := tn_hm s t c (q + 1)) ⟨q, q0, by omega, k, e⟩]
          omega
        · rw [tn_b0 e, tn_bc (P := tn_hm s t c (q + 1)) (Q := tn_hm s t c q)]
          · omega
          · refine ⟨fun ⟨r, r0, r1, r2, r3⟩ => ⟨r, r0, ?_, r2, r3⟩, fun ⟨r, r0, r1, r2⟩ => ⟨r, r0, by omega, r2⟩⟩
            by_cases x : r = q
            · rw [x] at r3; exact absurd r3 e
            · omega
      · rw [show tn_fk s c q = 0 from tn_b0 k, Int.add_zero, iq, tn_bc (P := tn_hm s t c (q + 1)) (Q := tn_hm s t c q)]
        refine ⟨fun ⟨r, r0, r1, r2, r3⟩ => ⟨r, r0, ?_, r2, r3⟩, fun ⟨r, r0, r1, r2⟩ => ⟨r, r0, by omega, r2⟩⟩
        by_cases x : r = q
        · rw [x] at r2; exact absurd r2 k
        · omega
theorem tx3_marksOf (H : tn_Rp h a s 6 0 0) (ok : tn_ok s) (hL : ∀ d p : Int, 0 ≤ d → d < 6 → 0 ≤ p → tn_L s d p = -99 ∨ 0 ≤ tn_L s d p ∧ tn_L s d p < tn_nT s) (t : Int) : fX3_marksOf a t h = some (tn_sm (fun d => tn_b (tn_hm s t d (tn_sz s d))) 6) := by
  have hm := H.mc78 ok hL
  obtain ⟨A, B, Fi, T, mC, mP, mT, H1, H2, H3, H4, H5, H6⟩ := H
  simp only [fX3_marksOf, tn_th H1.1]
  rw [show fX3_marksOf_L4 a t h 0 0 = _ from tx3_marksOf_l H1 hm.2 t _ 0 (by omega) hm.1 rfl]
  have e := tn_marksOf (s := s) (mT := mT) t ok (fun d q d0 d1 q0 q1 hk => (H5 d q d0 d1 q0 q1 (Or.inl d1) hk).2.2) _ 5 (tn_sz s 5) (by omega) (by omega) (ok.c (c := 5) (by omega)).1 (Int.le_refl _) rfl
  rw [← tn_s2_c (by omega)] at e
  rw [show (6 : Int) = 5 + 1 by omega, e, ← tn_sm_su (f := fun d => tn_b (tn_hm s t d (tn_sz s d))) (by omega)]
  rfl
theorem tx3_markPart (H : tn_Rp h a s 6 0 0) (ok : tn_ok s) (hL : ∀ d p : Int, 0 ≤ d → d < 6 → 0 ≤ p → tn_L s d p = -99 ∨ 0 ≤ tn_L s d p ∧ tn_L s d p < tn_nT s) {m w : Int} (m0 : 0 ≤ m) (hw : 0 ≤ w ∧ w ≤ 2) : (tn_s2 (tn_fk s) (tn_sz s) 6 0 ≤ m ∧ fX3_markPart a m w h = some (-99)) ∨ ∃ d q : Int, 0 ≤ d ∧ d < 6 ∧ 0 ≤ q ∧ q < tn_sz s d ∧ tn_mk (tn_L s d) (tn_w s) (tn_tq s) q ∧ tn_s2 (tn_fk s) (tn_sz s) d q = m ∧ fX3_markPart a m w h = some (if w = 0 then d else if w = 1 then q else tn_L s d q) := by
  have hm := H.mc78 ok hL
  obtain ⟨A, B, Fi, T, mC, mP, mT, H1, H2, H3, H4, H5, H6⟩ := H
  obtain ⟨g0, g1, g2, g3, g4, g5, g6, g7, g8⟩ := H1.g
  simp only [fX3_markPart, tn_th H1.1]
  rw [if_neg (by omega), g7, Option.bind_some]
  by_cases c : m < tn_s2 (tn_fk s) (tn_sz s) 6 0
  · obtain ⟨d, q, d0, d1, q0, q1, hb, hk, em⟩ := H6 m m0 c
    obtain ⟨x1, x2, x3⟩ := H5 d q d0 d1 q0 q1 hb hk
    rw [em] at x1 x2 x3
    obtain ⟨l1, l2, l3⟩ := H1.lM (m := m) (by omega)
    refine Or.inr ⟨d, q, d0, d1, q0, q1, hk, em, ?_⟩
    rw [if_pos c, g4, Option.bind_some, l1, Option.bind_some, g5, Option.bind_some, l2, Option.bind_some, g6, Option.bind_some, l3, Option.bind_some, x1, x2, x3]
    by_cases w0 : w = 0
    · rw [if_pos w0, if_pos w0]
    · by_cases w1 : w = 1
      · rw [if_neg w0, if_pos w1, if_neg w0, if_pos w1]
      · rw [if_neg w0, if_neg w1, if_pos (by omega), if_neg w0, if_neg w1]
  · refine Or.inl ⟨by omega, ?_⟩
    rw [if_neg c]
theorem tx3_init {v0 v1 v2 v3 v4 v5 v6 v7 v8 : tm_Fv} (e : h a = some (.inl (3, [v0, v1, v2, v3, v4, v5, v6, v7, v8]))) : ∃ h', fX3_init a h (a + 1) = some (h', a + 33) ∧ tn_Rr h' a (fun _ _ => 0) (fun _ _ => 0) (fun _ _ => 0) (fun _ => 0) (fun _ => 0) (fun _ => 0) (fun _ => 0) 0 0 ∧ tn_fr a (a + 33) h h' := by
  obtain ⟨h1, e1, p1, r1, o1⟩ := tn_NM h (a + 1) 6 40
  obtain ⟨h2, e2, p2, o2⟩ := tn_SF (k := 0) ((o1 a (by omega)).trans e) (.inr (some (a + 1))) (by simp)
  obtain ⟨h3, e3, p3, r3, o3⟩ := tn_NM h2 (a + 8) 6 40
  obtain ⟨h4, e4, p4, o4⟩ := tn_SF (k := 1) ((o3 a (by omega)).trans p2) (.inr (some (a + 8))) (by simp)
  obtain ⟨h5, e5, p5, r5, o5⟩ := tn_NM h4 (a + 15) 13 6
  obtain ⟨h6, e6, p6, o6⟩ := tn_SF (k := 2) ((o5 a (by omega)).trans p4) (.inr (some (a + 15))) (by simp)
  obtain ⟨h7, e7, p7, o7⟩ := tn_NW h6 (a + 29) (.inr (0, 13, .inl (fun _ => 0)))
  obtain ⟨h8, e8, p8, o8⟩ := tn_SF (k := 3) ((o7 a (by omega)).trans p6) (.inr (some (a + 29))) (by simp)
  obtain ⟨h9, e9, p9, o9⟩ := tn_NW h8 (a + 30) (.inr (0, 78, .inl (fun _ => 0)))
  obtain ⟨h10, e10, p10, o10⟩ := tn_SF (k := 4) ((o9 a (by omega)).trans p8) (.inr (some (a + 30))) (by simp)
  obtain ⟨h11, e11, p11, o11⟩ := tn_NW h10 (a + 31) (.inr (0, 78, .inl (fun _ => 0)))
  obtain ⟨h12, e12, p12, o12⟩ := tn_SF (k := 5) ((o11 a (by omega)).trans p10) (.inr (some (a + 31))) (by simp)
  obtain ⟨h13, e13, p13, o13⟩ := tn_NW h12 (a + 32) (.inr (0, 78, .inl (fun _ => 0)))
  obtain ⟨h14, e14, p14, o14⟩ := tn_SF (k := 6) ((o13 a (by omega)).trans p12) (.inr (some (a + 32))) (by simp)
  obtain ⟨h15, e15, p15, o15⟩ := tn_SF (k := 7) p14 (.inl 0) (by simp)
  obtain ⟨h16, e16, p16, o16⟩ := tn_SF (k := 8) p15 (.inl 0) (by simp)
  have up : ∀ q, q ≠ a → q ≠ a + 29 → q ≠ a + 30 → q ≠ a + 31 → q ≠ a + 32 → h16 q = h5 q := fun q q0 q1 q2 q3 q4 => by
    rw [o16 q q0, o15 q q0, o14 q q0, o13 q q4, o12 q q0, o11 q q3, o10 q q0, o9 q q2, o8 q q0, o7 q q1, o6 q q0]
  refine ⟨h16, ?_, ⟨p16, ⟨_, (up _ (by omega) (by omega) (by omega) (by omega) (by omega)).trans ((o5 _ (by omega)).trans ((o4 _ (by omega)).trans ((o3 _ (by omega)).trans ((o2 _ (by omega)).trans p1)))), fun c c0 c1 => ?_⟩, ⟨_, (up _ (by omega) (by omega) (by omega) (by omega) (by omega)).trans ((o5 _ (by omega)).trans ((o4 _ (by omega)).trans p3)), fun c c0 c1 => ?_⟩, ⟨_, (up _ (by omega) (by omega) (by omega) (by omega) (by omega)).trans p5, fun c c0 c1 => ?_⟩, ?_, ?_, ?_, ?_, fun c c0 c1 => ⟨?_, ?_⟩, fun c c0 c1 => ?_⟩, fun q hq => ?_⟩
  · simp only [fX3_init, tn_th e, e1, Option.bind_some, e2, e3, e4, e5, e6, e7, e8, e9, e10, e11, e12, e13, e14, e15, e16]
  · rw [if_pos (by omega)]
  · rw [if_pos (by omega)]
  · rw [if_pos (by omega)]
  · rw [o16 _ (by omega), o15 _ (by omega), o14 _ (by omega), o13 _ (by omega), o12 _ (by omega), o11 _ (by omega), o10 _ (by omega), o9 _ (by omega), o8 _ (by omega)]; exact p7
  · rw [o16 _ (by omega), o15 _ (by omega), o14 _ (by omega), o13 _ (by omega), o12 _ (by omega), o11 _ (by omega), o10 _ (by omega)]; exact p9
  · rw [o16 _ (by omega), o15 _ (by omega), o14 _ (by omega), o13 _ (by omega), o12 _ (by omega)]; exact p11
  · rw [o16 _ (by omega), o15 _ (by omega), o14 _ (by omega)]; exact p13
  · rw [up _ (by omega) (by omega) (by omega) (by omega) (by omega), o5 _ (by omega), o4 _ (by omega), o3 _ (by omega), o2 _ (by omega)]; exact r1 _ (by omega) (by omega)
  · rw [up _ (by omega) (by omega) (by omega) (by omega) (by omega), o5 _ (by omega), o4 _ (by omega)]; exact r3 _ (by omega) (by omega)
  · rw [up _ (by omega) (by omega) (by omega) (by omega) (by omega)]; exact r5 _ (by omega) (by omega)
  · rw [up _ (by omega) (by omega) (by omega) (by omega) (by omega), o5 _ (by omega), o4 _ (by omega), o3 _ (by omega), o2 _ (by omega), o1 _ (by omega)]
end RDQ
