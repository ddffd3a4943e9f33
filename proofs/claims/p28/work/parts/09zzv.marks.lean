/-! a chapter's readings, as the law walks over them -/
section RUN
variable {g w : Int → Int} {k : Int}
theorem tl_rd_run (h : 0 ≤ k) (b : tn_be g w k) : ∀ i : Nat, (i = 0 ∨ (i : Int) < w (g k)) → tn_rd g w (k + (i : Int) + 1).toNat = (k, k + w (g k))
  | 0, _ => by
    have e : k + ((0 : Nat) : Int) + 1 = k + 1 := by omega
    rw [e, tn_rd_su h]
    unfold tn_be at b
    rw [if_neg b]
  | i + 1, hi => by
    have ih := tl_rd_run h b i (by omega)
    have e : k + ((i + 1 : Nat) : Int) = k + (i : Int) + 1 := by omega
    rw [e, tn_rd_su (p := k + (i : Int) + 1) (by omega), ih]
    rw [if_pos (by dsimp only; omega)]
theorem tl_fm_run (h : 0 ≤ k) (b : tn_be g w k) {i : Int} (i0 : 0 ≤ i) (i1 : i = 0 ∨ i < w (g k)) : tn_fm g w (k + i) = k := by
  have q := tl_rd_run h b i.toNat (by omega)
  rw [Int.toNat_of_nonneg i0] at q
  unfold tn_fm
  rw [q]
theorem tl_nb_run (h : 0 ≤ k) (b : tn_be g w k) {i : Int} (i0 : 0 < i) (i1 : i < w (g k)) : ¬ tn_be g w (k + i) := by
  have q := tl_rd_run h b (i - 1).toNat (by omega)
  rw [show k + ((i - 1).toNat : Int) + 1 = k + i by omega] at q
  unfold tn_be
  rw [q]
  dsimp only
  omega
theorem tl_be_next (h : 0 ≤ k) (b : tn_be g w k) {v : Int} (hv : 1 ≤ v) (hw : v = w (g k) ∨ v = 1 ∧ w (g k) ≤ 1) : tn_be g w (k + v) := by
  have q := tl_rd_run h b (v - 1).toNat (by omega)
  rw [show k + ((v - 1).toNat : Int) + 1 = k + v by omega] at q
  unfold tn_be
  rw [q]
  dsimp only
  omega
end RUN
/-- a term was read before a place -/
def tl_E (s : tn_St) (c k t : Int) : Prop := ∃ r : Int, 0 ≤ r ∧ r < k ∧ tn_us (tn_L s c) (tn_w s) t r
theorem tl_V.L {a : Nat} {s : tn_St} {z : Int} {st : Int → tn_St} {h : tm_H} (V : tl_V a s z st h) {c p : Int} (hc : 0 ≤ c ∧ c < 6) (hp : 0 ≤ p) : tn_lg (tn_nT s) (fun t => tn_oc s t c p) (tn_tl s) (tn_L s c p) := by
  obtain ⟨l, x, H, g, _⟩ := V
  exact (tx4_L H.2.1 g.1 hc hp).2
theorem tl_w {s : tn_St} {t : Int} (h : 0 ≤ t ∧ t < tn_nT s) : tn_w s t = tn_tl s t := if_pos h
theorem tl_w99 (s : tn_St) : tn_w s (-99) = 0 := if_neg (by omega)
theorem tl_bit_or0 (x t : Int) : tn_bit (tm_or x 0) t = tn_bit x t := by
  unfold tn_bit tm_and tm_shr tm_or
  rw [Int32.ofInt_toInt, Int32.ofInt_toInt, Int32.ofInt_toInt, show Int32.ofInt 0 = 0 from rfl, Int32.or_zero]
section MKS
variable {a : Nat} {s : tn_St} {z : Int} {st : Int → tn_St} {c : Int}
theorem tl_s2 (g : tl_g s) (hc : 0 ≤ c ∧ c < 6) {k : Int} (h0 : 0 ≤ k) : 0 ≤ tn_s2 (tn_fk s) (tn_sz s) c k ∧ tn_s2 (tn_fk s) (tn_sz s) c k ≤ 40 * c + k :=
  tn_s2_rg (fun d i => tn_fk_rg s d i) (fun d d0 d1 => g.ok.c ⟨d0, d1⟩) hc.1 (by omega) h0
theorem sp_place_w (hc : 0 ≤ c ∧ c < 6) {p : Int} (hp : 0 ≤ p ∧ p < tn_sz s c) : sp_place s c p 0 = tn_wd s c p ∧ sp_place s c p 1 = tn_ov (tn_L s c) (tn_w s) p ∧ sp_place s c p 2 = tn_wh (tn_L s c) (tn_w s) p ∧ sp_place s c p 3 = tn_b (tn_mk (tn_L s c) (tn_w s) (tn_tq s) p) := by
  unfold sp_place
  refine ⟨?_, ?_, ?_, ?_⟩ <;> rw [if_pos (by omega), if_pos (by omega)] <;> rfl
theorem sp_term_w {t : Int} (ht : 0 ≤ t ∧ t < tn_nT s) : sp_term s t 0 = tn_tl s t ∧ sp_term s t 5 = tn_b (tn_tq s t ≠ 0) ∧ sp_term s t 6 = tn_s2 (tn_fu s t) (tn_sz s) 6 0 ∧ sp_term s t 7 = tn_ot s t 6 ∧ sp_term s t 8 = tn_sm (fun d => tn_b (tn_hm s t d (tn_sz s d))) 6 := by
  unfold sp_term
  refine ⟨?_, ?_, ?_, ?_, ?_⟩ <;> rw [if_pos ht] <;> rfl
theorem sp_term_k {t k : Int} (ht : 0 ≤ t ∧ t < tn_nT s) (k0 : 0 ≤ k) (k1 : k < tn_tl s t) (k4 : k < 4) : sp_term s t (1 + k) = tn_tw s t k := by
  unfold sp_term
  rw [if_pos ht, if_neg (by omega), if_pos (by omega), if_pos (by omega), show 1 + k - 1 = k by omega]
/-- the words of a reading, one by one -/
theorem tl_mi_in (hc : 0 ≤ c ∧ c < 6) {k t x5 x6 x9 x10 fr : Int} (k0 : 0 ≤ k) (be : tn_be (tn_L s c) (tn_w s) k) (et : tn_L s c k = t) (ht : 0 ≤ t ∧ t < tn_nT s) (oc : tn_oc s t c k) : ∀ (m : Nat) (i : Int) (h : tm_H), tl_V a s z st h → 0 ≤ i → i ≤ tn_tl s t → (tn_tl s t - i).toNat = m → ∃ h', fL_marksIn_L279 a c fr (tn_sz s c) k x5 x6 t (tn_tl s t) x9 x10 1 i h = fL_marksIn_L431 a c fr (tn_sz s c) k x5 x6 t (tn_tl s t) x9 x10 1 h' ∧ tl_V a s z st h'
  | 0, i, h, V, i0, i1, hm => by
    refine ⟨h, ?_, V⟩
    rw [fL_marksIn_L279_eq, if_neg (by omega)]
  | m + 1, i, h, V, i0, i1, hm => by
    have g := V.g
    have tl := g.ok.t ht
    have sz := g.ok.c hc
    have oc1 := oc.1
    have hw : tn_w s (tn_L s c k) = tn_tl s t := by rw [et]; exact tl_w ht
    have fm : tn_fm (tn_L s c) (tn_w s) (k + i) = k := tl_fm_run k0 be i0 (by omega)
    have ov : tn_ov (tn_L s c) (tn_w s) (k + i) = t := by unfold tn_ov; rw [fm, et]
    have wh : tn_wh (tn_L s c) (tn_w s) (k + i) = i := by
      unfold tn_wh
      rw [ov, if_neg (by omega), fm]
      omega
    obtain ⟨p0, p1, p2, p3⟩ := sp_place_w (s := s) hc (p := k + i) ⟨by omega, by omega⟩
    have wd := g.ok.p hc (p := k + i) ⟨by omega, by omega⟩
    have tw := g.ok.w t i ht.1 ht.2 i0 (by omega)
    obtain ⟨h1, e1, V1⟩ := lk_place V c (k + i) 1
    obtain ⟨h2, e2, V2⟩ := lk_place V1 c (k + i) 2
    rw [p1, ov] at e1
    rw [p2, wh] at e2
    have fin : ∀ h3 : tm_H, tl_V a s z st h3 → ∃ h', fL_marksIn_L349 a c fr (tn_sz s c) k x5 x6 t (tn_tl s t) x9 x10 i h3 = fL_marksIn_L431 a c fr (tn_sz s c) k x5 x6 t (tn_tl s t) x9 x10 1 h' ∧ tl_V a s z st h' := by
      intro h3 V3
      obtain ⟨h4, e4, V4⟩ := lk_place V3 c (k + i) 0
      obtain ⟨h5, e5, V5⟩ := lk_term V4 t (1 + i)
      rw [p0] at e4
      rw [sp_term_k ht i0 (by omega) (by omega)] at e5
      have b1 := lk_base V4 (tn_wd s c (k + i))
      have b2 := lk_base V5 (tn_tw s t i)
      rw [sp_bs_in wd] at b1
      rw [sp_bs_in tw] at b2
      have go : ∀ h6 : tm_H, tl_V a s z st h6 → ∃ h', fL_marksIn_L418 a c fr (tn_sz s c) k x5 x6 t (tn_tl s t) x9 x10 i h6 = fL_marksIn_L431 a c fr (tn_sz s c) k x5 x6 t (tn_tl s t) x9 x10 1 h' ∧ tl_V a s z st h' := by
        intro h6 V6
        obtain ⟨h', e', V'⟩ := tl_mi_in hc (x5 := x5) (x6 := x6) (x9 := x9) (x10 := x10) (fr := fr) k0 be et ht oc m (i + 1) h6 V6 (by omega) (by omega) (by omega)
        refine ⟨h', ?_, V'⟩
        rw [fL_marksIn_L418_eq, fL_marksIn_L423_eq, tm_wr_id (by omega) (by omega)]
        exact e'
      rw [fL_marksIn_L349_eq, tm_wr_id (z := k + i) (by omega) (by omega), e4, Option.bind_some]
      dsimp only
      rw [b1, Option.bind_some, tm_wr_id (z := 1 + i) (by omega) (by omega), e5, Option.bind_some]
      dsimp only
      rw [b2, Option.bind_some, if_pos (oc.2 i i0 (by omega))]
      by_cases c0 : i = 0
      · rw [if_pos c0]
        exact go h5 V5
      · rw [if_neg c0]
        obtain ⟨h6, e6, V6⟩ := lk_why V5 c (k + i) t
        obtain ⟨h7, e7, V7⟩ := lk_why V6 c (k + i) t
        rw [e6, Option.bind_some]
        dsimp only
        by_cases y1 : sp_why s c (k + i) t = 1
        · rw [if_pos y1]
          exact go h6 V6
        · rw [if_neg y1, e7, Option.bind_some]
          dsimp only
          rw [if_pos (by
            unfold sp_why at y1 ⊢
            rw [if_pos (by omega)] at y1 ⊢
            by_cases y2 : tn_oc s t c (k + i)
            · rw [if_pos y2, if_pos (by rw [wh]; omega)]
            · rw [if_neg y2] at y1
              exact absurd rfl y1)]
          exact go h7 V7
    rw [fL_marksIn_L279_eq, if_pos (by omega), if_neg (by omega), if_neg (by omega), tm_wr_id (z := k + i) (by omega) (by omega), e1, Option.bind_some]
    dsimp only
    rw [if_pos rfl, e2, Option.bind_some]
    dsimp only
    rw [if_pos rfl]
    by_cases c0 : i = 0
    · rw [if_pos c0]
      exact fin h2 V2
    · rw [if_neg c0]
      obtain ⟨h3, e3, V3⟩ := lk_place V2 c (k + i) 3
      rw [p3, tn_b0 (fun q => tl_nb_run k0 be (i := i) (by omega) (by omega) q.1)] at e3
      rw [e3, Option.bind_some]
      dsimp only
      rw [if_pos rfl]
      exact fin h3 V3
/-- the reading at a place, its marks and the set of terms seen -/
theorem tl_mi_bk {x4 x5 x6 x8 x9 x10 fr : Int} {t : Int} {h : tm_H} (b9 : x9 = 0 ∨ x9 = 1) (b10 : x10 = 0 ∨ x10 = 1) : fL_marksIn_L431 a c fr (tn_sz s c) x4 x5 x6 t x8 x9 x10 1 h = fL_marksIn_L15 a c fr (tn_sz s c) (tm_wr (x4 + x8)) (tm_wr (x5 + x10)) (tm_or x6 (if x9 = 0 then 0 else tm_shl 1 t)) h := by
  rw [fL_marksIn_L431_eq, if_neg (by omega)]
  rcases b9 with e | e <;> rcases b10 with e' | e' <;> subst e <;> subst e'
  · rw [if_pos rfl, fL_marksIn_L453_eq, if_pos rfl, fL_marksIn_L468_eq, if_pos rfl]
  · rw [if_pos rfl, fL_marksIn_L453_eq, if_neg (by omega), fL_marksIn_L468_eq, if_pos rfl]
  · rw [if_neg (by omega), fL_marksIn_L453_eq, if_pos rfl, fL_marksIn_L468_eq, if_neg (by omega)]
  · rw [if_neg (by omega), fL_marksIn_L453_eq, if_neg (by omega), fL_marksIn_L468_eq, if_neg (by omega)]
/-- where no term is -/
theorem tl_mi_no (hc : 0 ≤ c ∧ c < 6) {k x5 x6 fr : Int} {h : tm_H} (V : tl_V a s z st h) (hk : 0 ≤ k ∧ k < tn_sz s c) (be : tn_be (tn_L s c) (tn_w s) k) (et : tn_L s c k = -99) : ∃ h', fL_marksIn_L15 a c fr (tn_sz s c) k x5 x6 h = fL_marksIn_L15 a c fr (tn_sz s c) (tm_wr (k + 1)) (tm_wr (x5 + 0)) (tm_or x6 0) h' ∧ tl_V a s z st h' := by
  obtain ⟨p0, p1, p2, p3⟩ := sp_place_w (s := s) hc hk
  have fm : tn_fm (tn_L s c) (tn_w s) k = k := tn_fm_be hk.1 be
  have ov : tn_ov (tn_L s c) (tn_w s) k = -99 := by unfold tn_ov; rw [fm, et]
  have wh : tn_wh (tn_L s c) (tn_w s) k = -99 := by unfold tn_wh; rw [if_pos ov]
  obtain ⟨h1, e1, V1⟩ := lk_place V c k 1
  obtain ⟨h2, e2, V2⟩ := lk_place V1 c k 2
  obtain ⟨h3, e3, V3⟩ := lk_place V2 c k 3
  obtain ⟨h4, e4, V4⟩ := lk_place V3 c k 3
  rw [p1, ov] at e1
  rw [p2, wh] at e2
  rw [p3, tn_b0 (fun q => q.2.1 et)] at e3 e4
  refine ⟨h4, ?_, V4⟩
  rw [fL_marksIn_L15_eq, if_pos hk.2, e1, Option.bind_some]
  dsimp only
  rw [if_pos rfl, fL_marksIn_L49_eq, if_pos rfl, fL_marksIn_L72_eq, fL_marksIn_L73_eq, if_pos rfl, fL_marksIn_L94_eq, fL_marksIn_L95_eq, if_pos rfl, e2, Option.bind_some]
  dsimp only
  rw [if_pos rfl, e3, Option.bind_some]
  dsimp only
  rw [if_pos rfl, fL_marksIn_L189_eq, if_neg (by omega), e4, Option.bind_some]
  dsimp only
  rw [if_pos rfl, fL_marksIn_L214_eq, if_pos rfl, if_pos rfl, fL_marksIn_L269_eq, fL_marksIn_L274_eq, fL_marksIn_L279_eq, if_pos (by omega), if_pos rfl, tl_mi_bk (Or.inl rfl) (Or.inl rfl), if_pos rfl]
/-- where a term is read -/
theorem tl_mi_at (hc : 0 ≤ c ∧ c < 6) {k t x6 fr : Int} {h : tm_H} (V : tl_V a s z st h) (hk : 0 ≤ k ∧ k < tn_sz s c) (be : tn_be (tn_L s c) (tn_w s) k) (et : tn_L s c k = t) (ht : 0 ≤ t ∧ t < tn_nT s) (oc : tn_oc s t c k) (bit : tn_bit x6 t = tn_b (tl_E s c k t)) : ∃ h', fL_marksIn_L15 a c fr (tn_sz s c) k (tn_s2 (tn_fk s) (tn_sz s) c k) x6 h = fL_marksIn_L15 a c fr (tn_sz s c) (tm_wr (k + tn_tl s t)) (tm_wr (tn_s2 (tn_fk s) (tn_sz s) c k + tn_b (tn_mk (tn_L s c) (tn_w s) (tn_tq s) k))) (tm_or x6 (if tn_b (¬ tl_E s c k t) = 0 then 0 else tm_shl 1 t)) h' ∧ tl_V a s z st h' := by
  have g := V.g
  have tl := g.ok.t ht
  have sz := g.ok.c hc
  have oc1 := oc.1
  have s2 := tl_s2 g hc hk.1
  obtain ⟨p0, p1, p2, p3⟩ := sp_place_w (s := s) hc hk
  have fm : tn_fm (tn_L s c) (tn_w s) k = k := tn_fm_be hk.1 be
  have ov : tn_ov (tn_L s c) (tn_w s) k = t := by unfold tn_ov; rw [fm, et]
  have wh : tn_wh (tn_L s c) (tn_w s) k = 0 := by unfold tn_wh; rw [ov, if_neg (by omega), fm]; omega
  have us : tn_us (tn_L s c) (tn_w s) t k := ⟨be, et⟩
  obtain ⟨q0, q5, q6, q7, q8⟩ := sp_term_w (s := s) ht
  -- from the mark on
  have fin : ∀ (F M : Prop) (h5 : tm_H), (F ↔ ¬ tl_E s c k t) → (M ↔ tn_mk (tn_L s c) (tn_w s) (tn_tq s) k) → tl_V a s z st h5 → ∃ h', fL_marksIn_L95 a c fr (tn_sz s c) k (tn_s2 (tn_fk s) (tn_sz s) c k) x6 t (tn_tl s t) (tn_b F) (tn_b M) h5 = fL_marksIn_L15 a c fr (tn_sz s c) (tm_wr (k + tn_tl s t)) (tm_wr (tn_s2 (tn_fk s) (tn_sz s) c k + tn_b (tn_mk (tn_L s c) (tn_w s) (tn_tq s) k))) (tm_or x6 (if tn_b (¬ tl_E s c k t) = 0 then 0 else tm_shl 1 t)) h' ∧ tl_V a s z st h' := by
    intro F M h5 hF hM V5
    rw [propext hF, propext hM]
    obtain ⟨r1, h6, e6, k6, _, V6⟩ := lk_first V5 t c
    obtain ⟨r2, h7, e7, k7, _, V7⟩ := lk_first V6 t c
    have f1 := k6 (by omega)
    have r12 : r2 = r1 := (k7 (by omega)).uq f1 (fun _ _ _ => Iff.rfl)
    subst r12
    have fr0 : 0 ≤ r2 ∧ r2 ≤ k ∧ tn_us (tn_L s c) (tn_w s) t r2 ∧ ∀ q : Int, 0 ≤ q → q < r2 → ¬ tn_us (tn_L s c) (tn_w s) t q := by
      rcases f1 with ⟨_, f⟩ | ⟨f0, f1', f2, f3⟩
      · exact absurd us (f k hk.1 hk.2)
      · refine ⟨f0, ?_, f2, f3⟩
        by_cases lt : k < r2
        · exact absurd us (f3 k hk.1 lt)
        · omega
    have iff : r2 = k ↔ ¬ tl_E s c k t := by
      constructor
      · rintro rfl ⟨r, r0, r1, u⟩
        exact fr0.2.2.2 r r0 r1 u
      · intro ne
        by_cases lt : r2 < k
        · exact absurd ⟨r2, fr0.1, lt, fr0.2.2.1⟩ ne
        · omega
    obtain ⟨h8, e8, V8⟩ := lk_place V7 c k 3
    rw [p3] at e8
    have in2 : ∀ h9 : tm_H, tl_V a s z st h9 → ∃ h', fL_marksIn_L269 a c fr (tn_sz s c) k (tn_s2 (tn_fk s) (tn_sz s) c k) x6 t (tn_tl s t) (tn_b (¬ tl_E s c k t)) (tn_b (tn_mk (tn_L s c) (tn_w s) (tn_tq s) k)) h9 = fL_marksIn_L15 a c fr (tn_sz s c) (tm_wr (k + tn_tl s t)) (tm_wr (tn_s2 (tn_fk s) (tn_sz s) c k + tn_b (tn_mk (tn_L s c) (tn_w s) (tn_tq s) k))) (tm_or x6 (if tn_b (¬ tl_E s c k t) = 0 then 0 else tm_shl 1 t)) h' ∧ tl_V a s z st h' := by
      intro h9 V9
      obtain ⟨h', e', V'⟩ := tl_mi_in hc (x5 := tn_s2 (tn_fk s) (tn_sz s) c k) (x6 := x6) (x9 := tn_b (¬ tl_E s c k t)) (x10 := tn_b (tn_mk (tn_L s c) (tn_w s) (tn_tq s) k)) (fr := fr) hk.1 be et ht oc _ 0 h9 V9 (by omega) (by omega) rfl
      refine ⟨h', ?_, V'⟩
      rw [fL_marksIn_L269_eq, fL_marksIn_L274_eq, e', tl_mi_bk (tn_b01 _) (tn_b01 _)]
    have in1 : ∃ h', fL_marksIn_L189 a c fr (tn_sz s c) k (tn_s2 (tn_fk s) (tn_sz s) c k) x6 t (tn_tl s t) (tn_b (¬ tl_E s c k t)) (tn_b (tn_mk (tn_L s c) (tn_w s) (tn_tq s) k)) 1 h7 = fL_marksIn_L15 a c fr (tn_sz s c) (tm_wr (k + tn_tl s t)) (tm_wr (tn_s2 (tn_fk s) (tn_sz s) c k + tn_b (tn_mk (tn_L s c) (tn_w s) (tn_tq s) k))) (tm_or x6 (if tn_b (¬ tl_E s c k t) = 0 then 0 else tm_shl 1 t)) h' ∧ tl_V a s z st h' := by
      rw [fL_marksIn_L189_eq, if_neg (by omega), e8, Option.bind_some]
      dsimp only
      by_cases mk : tn_mk (tn_L s c) (tn_w s) (tn_tq s) k
      · have mk1 := tn_b1 mk
        rw [if_neg (by omega), fL_marksIn_L214_eq, if_pos mk1, if_neg (by omega)]
        have mp : ∀ w r : Int, 0 ≤ w → w ≤ 2 → tn_mp s (tn_s2 (tn_fk s) (tn_sz s) c k) w r → r = if w = 0 then c else if w = 1 then k else t := by
          intro w r w0 w1 q
          rcases q with ⟨q1, _⟩ | ⟨d, q, d0, d1, q0, q1, k1, k2, k3⟩
          · have := tl_s2_lt g.ok hc hk mk
            omega
          · obtain ⟨dc, qk⟩ := tn_M_uq d0 q0 hc.1 hk.1 q1 hk.2 k1 mk k2
            subst dc; subst qk
            rw [k3, et]
        obtain ⟨r9, h9, e9, k9, V9⟩ := lk_mark V8 (tn_s2 (tn_fk s) (tn_sz s) c k) 0
        obtain ⟨r10, h10, e10, k10, V10⟩ := lk_mark V9 (tn_s2 (tn_fk s) (tn_sz s) c k) 1
        obtain ⟨r11, h11, e11, k11, V11⟩ := lk_mark V10 (tn_s2 (tn_fk s) (tn_sz s) c k) 2
        obtain ⟨h12, e12, V12⟩ := lk_why V11 c k t
        have i9 : r9 = c := mp 0 r9 (by omega) (by omega) (k9 (by omega))
        have i10 : r10 = k := mp 1 r10 (by omega) (by omega) (k10 (by omega))
        have i11 : r11 = t := mp 2 r11 (by omega) (by omega) (k11 (by omega))
        have i12 : sp_why s c k t = 0 := by
          have q := mk.2.2.1
          rw [et] at q
          unfold sp_why
          rw [if_pos (by omega), if_pos oc, if_neg (by omega), if_pos ov, if_neg (by omega), if_pos mk]
        rw [e9, Option.bind_some]
        dsimp only
        rw [if_pos i9, e10, Option.bind_some]
        dsimp only
        rw [if_pos i10, e11, Option.bind_some]
        dsimp only
        rw [if_pos i11, e12, Option.bind_some]
        dsimp only
        rw [if_pos i12]
        exact in2 h12 V12
      · have mk0 := tn_b0 mk
        rw [if_pos mk0, fL_marksIn_L214_eq, if_pos mk0, if_pos mk0]
        exact in2 h8 V8
    rw [fL_marksIn_L95_eq, if_neg (by omega), if_neg (by omega), tm_wr_id (z := k + tn_tl s t) (by omega) (by omega), if_neg (by omega), e6, Option.bind_some]
    dsimp only
    rw [if_neg (by omega), e7, Option.bind_some]
    dsimp only
    rw [tm_wr_id (z := k + tn_tl s t) (by omega) (by omega)] at in1
    by_cases r2k : r2 = k
    · rw [if_pos r2k, fL_marksIn_L179_eq, if_pos (tn_b1 (iff.mp r2k)).symm]
      exact in1
    · rw [if_neg r2k, fL_marksIn_L179_eq, if_pos (tn_b0 (fun q => r2k (iff.mpr q))).symm]
      exact in1
  obtain ⟨h1, e1, V1⟩ := lk_place V c k 1
  obtain ⟨h2, e2, V2⟩ := lk_term V1 t 0
  rw [p1, ov] at e1
  rw [q0] at e2
  rw [fL_marksIn_L15_eq, if_pos hk.2, e1, Option.bind_some]
  dsimp only
  rw [if_neg (by omega), e2, Option.bind_some]
  dsimp only
  rw [fL_marksIn_L49_eq, if_neg (by omega)]
  have bit' : tm_and (tm_shr x6 t) 1 = tn_b (tl_E s c k t) := bit
  by_cases E : tl_E s c k t
  · rw [bit', tn_b1 E, if_neg (by omega), fL_marksIn_L72_eq, fL_marksIn_L73_eq, if_pos rfl, fL_marksIn_L94_eq]
    have q := fin False False h2 ⟨fun f => f.elim, fun f => f E⟩ ⟨fun f => f.elim, fun m => by
      obtain ⟨r, r0, r1, u⟩ := E
      have := m.2.2.2 r r0 r1
      rw [et] at this
      exact this u⟩ V2
    rw [tn_b0 (fun f => f : ¬ False)] at q
    exact q
  · obtain ⟨h3, e3, V3⟩ := lk_term V2 t 5
    rw [q5] at e3
    rw [bit', tn_b0 E, if_pos rfl, fL_marksIn_L73_eq, if_neg (by omega), e3, Option.bind_some]
    dsimp only
    by_cases Q : tn_tq s t ≠ 0
    · rw [tn_b1 Q, if_neg (by omega), fL_marksIn_L94_eq]
      have q := fin True False h3 ⟨fun _ => E, fun _ => trivial⟩ ⟨fun f => f.elim, fun m => by
        have := m.2.2.1
        rw [et] at this
        exact Q this⟩ V3
      rw [tn_b1 trivial, tn_b0 (fun f => f : ¬ False)] at q
      exact q
    · rw [tn_b0 Q, if_pos rfl]
      have q := fin True True h3 ⟨fun _ => E, fun _ => trivial⟩ ⟨fun _ => ⟨be, by omega, by rw [et]; omega, fun r r0 r1 u => E ⟨r, r0, r1, by rw [et] at u; exact u⟩⟩, fun _ => trivial⟩ V3
      rw [tn_b1 trivial] at q
      exact q
end MKS
