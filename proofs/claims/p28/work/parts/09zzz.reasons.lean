/-! areReasons -/
theorem tl_nb_ov {g w : Int → Int} (hw : w (-99) = 0) {k : Int} (k0 : 0 ≤ k) (nb : ¬ tn_be g w k) : tn_ov g w k ≠ -99 ∧ tn_fm g w k < k := by
  have lt := tn_fm_nb k0 nb
  refine ⟨fun e => ?_, lt⟩
  unfold tn_be at nb
  have nb : k < (tn_rd g w k.toNat).2 := Classical.not_not.mp nb
  have e1 : tn_fm g w k = (tn_rd g w k.toNat).1 := by
    unfold tn_fm
    rw [tn_rd_su k0, if_pos nb]
  by_cases z : k.toNat = 0
  · rw [z] at nb
    have : k < 0 := nb
    omega
  · obtain ⟨_, a2, a3, _⟩ := tn_rd_fm (g := g) (w := w) k.toNat (by omega)
    unfold tn_ov at e
    rw [← e1] at a2 a3
    rw [e, hw] at a3
    omega
section ARS
variable {a : Nat} {s : tn_St} {z : Int} {st : Int → tn_St} {c : Int}
/-- a reading begins, or is inside -/
theorem tl_ov_at {k : Int} (k0 : 0 ≤ k) : (tn_be (tn_L s c) (tn_w s) k ∧ tn_ov (tn_L s c) (tn_w s) k = tn_L s c k ∧ tn_wh (tn_L s c) (tn_w s) k = (if tn_L s c k = -99 then -99 else 0)) ∨ (¬ tn_be (tn_L s c) (tn_w s) k ∧ tn_ov (tn_L s c) (tn_w s) k ≠ -99 ∧ 0 < tn_wh (tn_L s c) (tn_w s) k) := by
  by_cases be : tn_be (tn_L s c) (tn_w s) k
  · have fm : tn_fm (tn_L s c) (tn_w s) k = k := tn_fm_be k0 be
    refine Or.inl ⟨be, by unfold tn_ov; rw [fm], ?_⟩
    unfold tn_wh tn_ov
    rw [fm]
    by_cases e : tn_L s c k = -99
    · rw [if_pos e, if_pos e]
    · rw [if_neg e, if_neg e]; omega
  · obtain ⟨n1, n2⟩ := tl_nb_ov (tl_w99 s) k0 be
    refine Or.inr ⟨be, n1, ?_⟩
    unfold tn_wh
    rw [if_neg n1]
    omega
theorem tl_why0 {k t : Int} {h : tm_H} (V : tl_V a s z st h) (hc : 0 ≤ c ∧ c < 6) (hk : 0 ≤ k ∧ k < tn_sz s c) (ht : 0 ≤ t ∧ t < tn_nT s) : sp_why s c k t = 0 ↔ (tn_mk (tn_L s c) (tn_w s) (tn_tq s) k ∧ tn_L s c k = t) := by
  unfold sp_why
  rw [if_pos (by omega)]
  rcases tl_ov_at (s := s) (c := c) hk.1 with ⟨be, ov, wh⟩ | ⟨nb, _, wh⟩
  · constructor
    · intro e
      by_cases oc : tn_oc s t c k
      · rw [if_pos oc] at e
        by_cases w0 : 0 < tn_wh (tn_L s c) (tn_w s) k
        · rw [if_pos w0] at e; omega
        · rw [if_neg w0] at e
          by_cases o : tn_ov (tn_L s c) (tn_w s) k = t
          · rw [if_pos o] at e
            by_cases q : tn_tq s t ≠ 0
            · rw [if_pos q] at e; omega
            · rw [if_neg q] at e
              by_cases mk : tn_mk (tn_L s c) (tn_w s) (tn_tq s) k
              · exact ⟨mk, by rw [← ov]; exact o⟩
              · rw [if_neg mk] at e; omega
          · rw [if_neg o] at e; omega
      · rw [if_neg oc] at e; omega
    · rintro ⟨mk, e⟩
      have oc : tn_oc s t c k := by
        rcases V.L hc hk.1 with ⟨y, _⟩ | ⟨_, _, y, _⟩
        · omega
        · rw [e] at y; exact y
      have q := mk.2.2.1
      rw [e] at q
      rw [if_pos oc, if_neg (by rw [wh]; split <;> omega), if_pos (by rw [ov]; exact e), if_neg (by omega), if_pos mk]
  · constructor
    · intro e
      by_cases oc : tn_oc s t c k
      · rw [if_pos oc, if_pos wh] at e; omega
      · rw [if_neg oc] at e; omega
    · rintro ⟨mk, _⟩
      exact absurd mk.1 nb
/-- a reason at a place fits what is read there -/
theorem tl_rs_at {k t x5 : Int} {h : tm_H} (V : tl_V a s z st h) (hc : 0 ≤ c ∧ c < 6) (hk : 0 ≤ k ∧ k < tn_sz s c) (ht : 0 ≤ t ∧ t < tn_nT s) (s1 : Int) : ∃ h', fL_areReasons_L64 a c (tn_sz s c) t k (sp_why s c k t) x5 s1 h = fL_areReasons_L217 a c (tn_sz s c) t (tm_wr (x5 + s1)) k h' ∧ tl_V a s z st h' := by
  have g := V.g
  obtain ⟨p0, p1, p2, p3⟩ := sp_place_w (s := s) hc hk
  obtain ⟨t0, t5, t6, t7, t8⟩ := sp_term_w (s := s) ht
  obtain ⟨h1, e1, V1⟩ := lk_place V c k 1
  rw [p1] at e1
  rw [fL_areReasons_L64_eq, e1, Option.bind_some]
  dsimp only
  generalize hW : sp_why s c k t = w
  -- where all is told
  have tail : ∀ (w : Int) (h2 : tm_H), tl_V a s z st h2 → (w = 4 ∨ w = 5 ∨ w = 0 ∨ tn_ov (tn_L s c) (tn_w s) k ≠ t ∨ 0 < tn_wh (tn_L s c) (tn_w s) k) → ∃ h', fL_areReasons_L182 a c (tn_sz s c) t (tm_wr (x5 + s1)) k w (tn_ov (tn_L s c) (tn_w s) k) h2 = fL_areReasons_L217 a c (tn_sz s c) t (tm_wr (x5 + s1)) k h' ∧ tl_V a s z st h' := by
    intro w h2 V2 q
    rw [fL_areReasons_L182_eq]
    by_cases c4 : w = 4
    · rw [if_pos c4]; exact ⟨h2, rfl, V2⟩
    · rw [if_neg c4]
      by_cases c5 : w = 5
      · rw [if_pos c5]; exact ⟨h2, rfl, V2⟩
      · rw [if_neg c5]
        by_cases c0 : w = 0
        · rw [if_pos c0]; exact ⟨h2, rfl, V2⟩
        · rw [if_neg c0]
          by_cases o : tn_ov (tn_L s c) (tn_w s) k = t
          · obtain ⟨h3, e3, V3⟩ := lk_place V2 c k 2
            rw [p2] at e3
            rw [if_pos o, e3, Option.bind_some]
            dsimp only
            rw [if_pos (by rcases q with q | q | q | q | q <;> first | exact q | exact absurd q c4 | exact absurd q c5 | exact absurd q c0 | exact absurd o q)]
            exact ⟨h3, rfl, V3⟩
          · rw [if_neg o]; exact ⟨h2, rfl, V2⟩
  by_cases oc : tn_oc s t c k
  · by_cases w0 : 0 < tn_wh (tn_L s c) (tn_w s) k
    · have w3 : w = 3 := by
        rw [← hW]
        unfold sp_why
        rw [if_pos (by omega), if_pos oc, if_pos w0]
      subst w3
      obtain ⟨h2, e2, V2⟩ := lk_place V1 c k 2
      rw [p2] at e2
      rw [if_neg (by omega), if_pos (by omega), if_neg (by omega), fL_areReasons_L130_eq, if_pos rfl, e2, Option.bind_some]
      dsimp only
      rw [if_pos w0, fL_areReasons_L147_eq, if_neg (by omega), fL_areReasons_L164_eq, if_neg (by omega)]
      exact tail 3 h2 V2 (by omega)
    · -- the reading begins here
      have at0 : tn_be (tn_L s c) (tn_w s) k ∧ tn_ov (tn_L s c) (tn_w s) k = tn_L s c k ∧ tn_L s c k ≠ -99 := by
        rcases tl_ov_at (s := s) (c := c) hk.1 with ⟨be, ov, _⟩ | ⟨_, _, wh⟩
        · refine ⟨be, ov, fun e => ?_⟩
          rcases V.L hc hk.1 with ⟨_, no⟩ | ⟨y, _⟩
          · exact no t ht.1 ht.2 oc
          · omega
        · exact absurd wh w0
      obtain ⟨be, ov, n99⟩ := at0
      have wh0 : tn_wh (tn_L s c) (tn_w s) k = 0 := by
        rcases tl_ov_at (s := s) (c := c) hk.1 with ⟨_, _, wh⟩ | ⟨nb, _⟩
        · rw [wh, if_neg n99]
        · exact absurd be nb
      have Ls : 0 ≤ tn_L s c k ∧ tn_L s c k < tn_nT s ∧ tn_oc s (tn_L s c k) c k ∧ ∀ u : Int, 0 ≤ u → u < tn_nT s → tn_oc s u c k → tn_tl s u < tn_tl s (tn_L s c k) ∨ tn_tl s u = tn_tl s (tn_L s c k) ∧ tn_L s c k ≤ u := by
        rcases V.L hc hk.1 with ⟨y, _⟩ | y
        · exact absurd y n99
        · exact y
      by_cases o : tn_ov (tn_L s c) (tn_w s) k = t
      · have Lt : tn_L s c k = t := ov.symm.trans o
        by_cases q : tn_tq s t ≠ 0
        · have w4 : w = 4 := by
            rw [← hW]
            unfold sp_why
            rw [if_pos (by omega), if_pos oc, if_neg w0, if_pos o, if_pos q]
          subst w4
          obtain ⟨h2, e2, V2⟩ := lk_term V1 t 5
          rw [t5, tn_b1 q] at e2
          rw [if_neg (by omega), if_pos (by omega), if_neg (by omega), fL_areReasons_L130_eq, if_neg (by omega), fL_areReasons_L147_eq, if_pos rfl, e2, Option.bind_some]
          dsimp only
          rw [if_pos rfl, fL_areReasons_L164_eq, if_neg (by omega)]
          exact tail 4 h2 V2 (by omega)
        · by_cases mk : tn_mk (tn_L s c) (tn_w s) (tn_tq s) k
          · have w00 : w = 0 := by
              rw [← hW]
              unfold sp_why
              rw [if_pos (by omega), if_pos oc, if_neg w0, if_pos o, if_neg q, if_pos mk]
            subst w00
            rw [if_neg (by omega), if_pos (by omega), if_neg (by omega), fL_areReasons_L130_eq, if_neg (by omega), fL_areReasons_L147_eq, if_neg (by omega), fL_areReasons_L164_eq, if_neg (by omega)]
            exact tail 0 h1 V1 (by omega)
          · have w5 : w = 5 := by
              rw [← hW]
              unfold sp_why
              rw [if_pos (by omega), if_pos oc, if_neg w0, if_pos o, if_neg q, if_neg mk]
            subst w5
            obtain ⟨r, h2, e2, k2, _, V2⟩ := lk_first V1 t c
            have rk : r < k := by
              have ex : ∃ u : Int, 0 ≤ u ∧ u < k ∧ tn_us (tn_L s c) (tn_w s) t u := Classical.byContradiction fun ne => mk ⟨be, n99, by rw [Lt]; omega, fun u u0 u1 uu => ne ⟨u, u0, u1, by rw [Lt] at uu; exact uu⟩⟩
              obtain ⟨u, u0, u1, uu⟩ := ex
              rcases k2 (by omega) with ⟨e, _⟩ | ⟨_, _, _, f3⟩
              · omega
              · by_cases lt : u < r
                · exact absurd uu (f3 u u0 lt)
                · omega
            rw [if_neg (by omega), if_pos (by omega), if_neg (by omega), fL_areReasons_L130_eq, if_neg (by omega), fL_areReasons_L147_eq, if_neg (by omega), fL_areReasons_L164_eq, if_pos rfl, e2, Option.bind_some]
            dsimp only
            rw [if_pos rk]
            exact tail 5 h2 V2 (by omega)
      · have w2 : w = 2 := by
          rw [← hW]
          unfold sp_why
          rw [if_pos (by omega), if_pos oc, if_neg w0, if_neg o]
        subst w2
        have Lne : tn_L s c k ≠ t := fun e => o (ov.trans e)
        have longer : tn_tl s t < tn_tl s (tn_L s c k) := by
          rcases Ls.2.2.2 t ht.1 ht.2 oc with y | ⟨y1, y2⟩
          · exact y
          · refine absurd ⟨tn_L s c k, t, Ls.1, by omega, ht.2, y1.symm, fun j j0 j1 => ?_⟩ g.2.2.2.2.2
            exact (Ls.2.2.1.2 j j0 j1).symm.trans (oc.2 j j0 (by omega))
        obtain ⟨u0, _, _, _, _⟩ := sp_term_w (s := s) ⟨Ls.1, Ls.2.1⟩
        obtain ⟨h2, e2, V2⟩ := lk_place V1 c k 2
        obtain ⟨h3, e3, V3⟩ := lk_term V2 (tn_L s c k) 0
        obtain ⟨h4, e4, V4⟩ := lk_term V3 t 0
        rw [p2, wh0] at e2
        rw [u0] at e3
        rw [t0] at e4
        rw [if_neg (by omega), if_pos (by omega), if_pos rfl, if_neg o, e2, Option.bind_some]
        dsimp only
        rw [if_pos rfl, ov, e3, Option.bind_some]
        dsimp only
        rw [e4, Option.bind_some]
        dsimp only
        rw [if_pos longer, fL_areReasons_L130_eq, if_neg (by omega), fL_areReasons_L147_eq, if_neg (by omega), fL_areReasons_L164_eq, if_neg (by omega), ← ov]
        exact tail 2 h4 V4 (Or.inr (Or.inr (Or.inr (Or.inl o))))
  · have w1 : w = 1 := by
      rw [← hW]
      unfold sp_why
      rw [if_pos (by omega), if_neg oc]
    subst w1
    rw [if_neg (by omega), if_pos (by omega), if_neg (by omega), fL_areReasons_L130_eq, if_neg (by omega), fL_areReasons_L147_eq, if_neg (by omega), fL_areReasons_L164_eq, if_neg (by omega)]
    refine tail 1 h1 V1 ?_
    by_cases o : tn_ov (tn_L s c) (tn_w s) k = t
    · rcases tl_ov_at (s := s) (c := c) hk.1 with ⟨_, ov, _⟩ | ⟨_, _, wh⟩
      · rcases V.L hc hk.1 with ⟨y, _⟩ | ⟨_, _, y, _⟩
        · omega
        · rw [← ov, o] at y
          exact absurd y oc
      · exact Or.inr (Or.inr (Or.inr (Or.inr wh)))
    · exact Or.inr (Or.inr (Or.inr (Or.inl o)))
/-- the places, one by one -/
theorem tl_rs_k {t : Int} (hc : 0 ≤ c ∧ c < 6) (ht : 0 ≤ t ∧ t < tn_nT s) : ∀ (m : Nat) (k : Int) (h : tm_H), tl_V a s z st h → 0 ≤ k → k ≤ tn_sz s c → (tn_sz s c - k).toNat = m → ∃ h', fL_areReasons_L31 a c 1 (tn_sz s c) t (tn_b (tn_hm s t c k)) k h = fL_areReasons_L229 a c 1 (tn_sz s c) t (tn_b (tn_hm s t c (tn_sz s c))) h' ∧ tl_V a s z st h'
  | 0, k, h, V, k0, k1, hm => by
    refine ⟨h, ?_, V⟩
    rw [fL_areReasons_L31_eq, if_neg (by omega), show k = tn_sz s c by omega]
  | m + 1, k, h, V, k0, k1, hm => by
    have sz := V.g.ok.c hc
    have hk : 0 ≤ k ∧ k < tn_sz s c := ⟨k0, by omega⟩
    have su := tl_hm_su s t c k0
    have w0 := tl_why0 V hc hk ht
    have b1 := tn_b_rg (tn_hm s t c k)
    have b2 := tn_b_rg (tn_mk (tn_L s c) (tn_w s) (tn_tq s) k ∧ tn_L s c k = t)
    obtain ⟨h1, e1, V1⟩ := lk_why V c k t
    have go : ∀ s1 : Int, s1 = tn_b (tn_mk (tn_L s c) (tn_w s) (tn_tq s) k ∧ tn_L s c k = t) → ∃ h', fL_areReasons_L64 a c (tn_sz s c) t k (sp_why s c k t) (tn_b (tn_hm s t c k)) s1 h1 = fL_areReasons_L229 a c 1 (tn_sz s c) t (tn_b (tn_hm s t c (tn_sz s c))) h' ∧ tl_V a s z st h' := by
      intro s1 es
      obtain ⟨h2, e2, V2⟩ := tl_rs_at (x5 := tn_b (tn_hm s t c k)) V1 hc hk ht s1
      obtain ⟨h', e', V'⟩ := tl_rs_k hc ht m (k + 1) h2 V2 (by omega) (by omega) (by omega)
      refine ⟨h', ?_, V'⟩
      rw [e2, fL_areReasons_L217_eq, fL_areReasons_L222_eq, tm_wr_id (z := k + 1) (by omega) (by omega), tm_wr_id (z := tn_b (tn_hm s t c k) + s1) (by omega) (by omega), es, ← su]
      exact e'
    rw [fL_areReasons_L31_eq, if_pos hk.2, if_neg (by omega), e1, Option.bind_some]
    dsimp only
    by_cases y : sp_why s c k t = 0
    · rw [if_pos y]
      exact go 1 (tn_b1 (w0.mp y)).symm
    · rw [if_neg y]
      exact go 0 (tn_b0 (fun q => y (w0.mpr q))).symm
/-- the terms, one by one -/
theorem tl_rs_t (hc : 0 ≤ c ∧ c < 6) : ∀ (m : Nat) (t : Int) (h : tm_H), tl_V a s z st h → 0 ≤ t → t ≤ tn_nT s → (tn_nT s - t).toNat = m → ∃ h', fL_areReasons_L11 a c 1 (tn_sz s c) t h = some (1, h') ∧ tl_V a s z st h'
  | 0, t, h, V, t0, t1, hm => by
    obtain ⟨h1, e1, V1⟩ := lk_count V (w := 2) (by omega)
    rw [sp_count_2] at e1
    refine ⟨h1, ?_, V1⟩
    rw [fL_areReasons_L11_eq, e1, Option.bind_some]
    dsimp only
    rw [if_neg (by omega)]
    rfl
  | m + 1, t, h, V, t0, t1, hm => by
    have nT := V.g.nT
    have sz := V.g.ok.c hc
    have ht : 0 ≤ t ∧ t < tn_nT s := ⟨t0, by omega⟩
    obtain ⟨q0, q5, q6, q7, q8⟩ := sp_term_w (s := s) ht
    obtain ⟨h1, e1, V1⟩ := lk_count V (w := 2) (by omega)
    rw [sp_count_2] at e1
    obtain ⟨h2, e2, V2⟩ := tl_rs_k hc ht _ 0 h1 V1 (by omega) (by omega) rfl
    have b0 : tn_b (tn_hm s t c 0) = 0 := tn_b0 (by rintro ⟨q, q0, q1, _⟩; omega)
    rw [b0] at e2
    have go : ∀ h3 : tm_H, tl_V a s z st h3 → ∃ h', fL_areReasons_L270 a c (tn_sz s c) t 1 h3 = some (1, h') ∧ tl_V a s z st h' := by
      intro h3 V3
      rw [fL_areReasons_L270_eq, tm_wr_id (z := t + 1) (by omega) (by omega)]
      exact tl_rs_t hc m (t + 1) h3 V3 (by omega) (by omega) (by omega)
    obtain ⟨h3, e3, V3⟩ := lk_term V2 t 5
    rw [q5] at e3
    rw [fL_areReasons_L11_eq, e1, Option.bind_some]
    dsimp only
    rw [if_pos ht.2, if_neg (by omega), e2, fL_areReasons_L229_eq, if_neg (by omega), e3, Option.bind_some]
    dsimp only
    by_cases Q : tn_tq s t ≠ 0
    · rw [tn_b1 Q, if_neg (by omega), fL_areReasons_L261_eq, fL_areReasons_L262_eq, if_pos]
      · exact go h3 V3
      · refine tn_b0 ?_
        rintro ⟨r, r0, r1, k, e⟩
        have := k.2.2.1
        rw [e] at this
        exact Q this
    · obtain ⟨r, h4, e4, k4, _, V4⟩ := lk_first V3 t c
      rw [tn_b0 Q, if_pos rfl, e4, Option.bind_some]
      dsimp only
      rcases k4 (by omega) with ⟨er, f⟩ | ⟨f0, f1, f2, f3⟩
      · rw [if_pos er, fL_areReasons_L261_eq, fL_areReasons_L262_eq, if_pos]
        · exact go h4 V4
        · refine tn_b0 ?_
          rintro ⟨q, q0, q1, k, e⟩
          exact f q q0 q1 ⟨k.1, e⟩
      · rw [if_neg (by omega), fL_areReasons_L262_eq, if_pos]
        · exact go h4 V4
        · refine tn_b1 ⟨r, f0, f1, ⟨f2.1, by rw [f2.2]; omega, by rw [f2.2]; omega, fun q q0 q1 => ?_⟩, f2.2⟩
          rw [f2.2]
          exact f3 q q0 q1
theorem lk_reasons {h : tm_H} (V : tl_V a s z st h) (hc : 0 ≤ c ∧ c < 6) : ∃ h', fL_areReasons a c h = some (1, h') ∧ tl_V a s z st h' := by
  obtain ⟨h1, e1, V1⟩ := lk_size V hc
  have nT := V.g.nT
  obtain ⟨h', e', V'⟩ := tl_rs_t hc _ 0 h1 V1 (by omega) (by omega) rfl
  refine ⟨h', ?_, V'⟩
  simp only [fL_areReasons, e1, Option.bind_some]
  exact e'
end ARS
