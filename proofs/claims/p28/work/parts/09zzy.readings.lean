/-! areReadings -/
section ARD
variable {a : Nat} {s : tn_St} {z : Int} {st : Int → tn_St}
theorem tl_sm_b {f : Int → Int} {B : Int} {k : Int} (hf : ∀ t : Int, 0 ≤ f t ∧ f t ≤ B) (B0 : 0 ≤ B) (B1 : B ≤ 240) (h : 0 ≤ k ∧ k ≤ 60) : 0 ≤ tn_sm f k.toNat ∧ tn_sm f k.toNat ≤ 14400 := by
  have q := tn_sm_rg (f := f) (B := B) (m := k.toNat) (fun i _ _ => hf i)
  rw [Int.toNat_of_nonneg h.1] at q
  have : B * k ≤ 240 * 60 := Int.mul_le_mul B1 h.2 h.1 (by omega)
  omega
theorem tl_ard_end {h : tm_H} (V : tl_V a s z st h) : ∃ h', fL_areReadings_L246 a (tn_M s) (tn_sm (tn_sz s) 6) (tn_sm (tl_T8 s) (tn_nT s).toNat) (tn_sm (tl_T6 s) (tn_nT s).toNat) (tn_sm (tl_T5 s) (tn_nT s).toNat) 1 h = some (1, h') ∧ tl_V a s z st h' := by
  have M0 := (tn_M_rg V.g.ok).1
  obtain ⟨h1, e1, V1⟩ := lk_count V (w := 4) (by omega)
  obtain ⟨h2, e2, V2⟩ := lk_count V1 (w := 1) (by omega)
  obtain ⟨h3, e3, V3⟩ := lk_count V2 (w := 5) (by omega)
  obtain ⟨h4, e4, V4⟩ := lk_count V3 (w := 3) (by omega)
  obtain ⟨r5, h5, e5, k5, V5⟩ := lk_mark V4 (tn_M s) 0
  have a5 : r5 = -99 := by
    rcases k5 (by omega) with ⟨_, k⟩ | ⟨d, q, d0, d1, q0, q1, mk, e, _⟩
    · exact k
    · have := tl_s2_lt V.g.ok ⟨d0, d1⟩ ⟨q0, q1⟩ mk
      omega
  rw [show sp_count s 0 z 4 = tn_M s from rfl] at e1
  rw [show sp_count s 0 z 1 = tn_sm (tn_sz s) 6 from rfl] at e2
  rw [show sp_count s 0 z 5 = tn_s2 (tn_fq s) (tn_sz s) 6 0 from rfl] at e3
  rw [show sp_count s 0 z 3 = tn_sm (tl_T5 s) (tn_nT s).toNat from rfl] at e4
  refine ⟨h5, ?_, V5⟩
  rw [fL_areReadings_L246, if_neg (by omega), e1, Option.bind_some]
  dsimp only
  rw [if_pos rfl, e2, Option.bind_some]
  dsimp only
  rw [if_pos rfl, if_pos (tl_its V), e3, Option.bind_some]
  dsimp only
  rw [if_pos (tl_reads V), e4, Option.bind_some]
  dsimp only
  rw [if_pos rfl, e5, Option.bind_some]
  dsimp only
  rw [if_pos a5]
/-- the terms, one by one -/
theorem tl_ard_t {x1 x2 : Int} : ∀ (m : Nat) (t : Int) (h : tm_H), tl_V a s z st h → 0 ≤ t → t ≤ tn_nT s → (tn_nT s - t).toNat = m → ∃ h', fL_areReadings_L74 a x1 x2 (tn_sm (tl_T8 s) t.toNat) (tn_sm (tl_T6 s) t.toNat) (tn_sm (tl_T5 s) t.toNat) 1 t h = fL_areReadings_L246 a x1 x2 (tn_sm (tl_T8 s) (tn_nT s).toNat) (tn_sm (tl_T6 s) (tn_nT s).toNat) (tn_sm (tl_T5 s) (tn_nT s).toNat) 1 h' ∧ tl_V a s z st h'
  | 0, t, h, V, t0, t1, hm => by
    obtain ⟨h1, e1, V1⟩ := lk_count V (w := 2) (by omega)
    rw [sp_count_2] at e1
    refine ⟨h1, ?_, V1⟩
    rw [fL_areReadings_L74_eq, e1, Option.bind_some]
    dsimp only
    rw [if_neg (by omega), show t = tn_nT s by omega]
  | m + 1, t, h, V, t0, t1, hm => by
    have g := V.g
    have nT := g.nT
    have ht : 0 ≤ t ∧ t < tn_nT s := ⟨t0, by omega⟩
    have tl := g.ok.t ht
    have tw := g.ok.w t (tn_tl s t - 1) ht.1 ht.2 (by omega) (by omega)
    obtain ⟨q0, q5, q6, q7, q8⟩ := sp_term_w (s := s) ht
    have q5 : sp_term s t 5 = tl_T5 s t := q5
    have q6 : sp_term s t 6 = tl_T6 s t := q6
    have q8 : sp_term s t 8 = tl_T8 s t := q8
    have qk : sp_term s t (tn_tl s t) = tn_tw s t (tn_tl s t - 1) := by
      have := sp_term_k (s := s) (k := tn_tl s t - 1) ht (by omega) (by omega) (by omega)
      rw [show 1 + (tn_tl s t - 1) = tn_tl s t by omega] at this
      exact this
    have r8 := tl_T8_rg (s := s) t
    have r6 := tl_T6_rg g t
    have r5 : 0 ≤ tl_T5 s t ∧ tl_T5 s t ≤ 1 := tn_b_rg _
    have b8 := tl_sm_b (f := tl_T8 s) (B := 6) (k := t) (fun i => tl_T8_rg i) (by omega) (by omega) (by omega)
    have b6 := tl_sm_b (f := tl_T6 s) (B := 240) (k := t) (fun i => tl_T6_rg g i) (by omega) (by omega) (by omega)
    have b5 := tl_sm_b (f := tl_T5 s) (B := 1) (k := t) (fun i => tn_b_rg _) (by omega) (by omega) (by omega)
    have l86 := tl_86 V t
    have l67 := tl_67 V ht
    obtain ⟨h1, e1, V1⟩ := lk_count V (w := 2) (by omega)
    obtain ⟨h2, e2, V2⟩ := lk_term V1 t 8
    obtain ⟨h3, e3, V3⟩ := lk_term V2 t 6
    obtain ⟨h4, e4, V4⟩ := lk_term V3 t 5
    obtain ⟨h5, e5, V5⟩ := lk_term V4 t 6
    obtain ⟨h6, e6, V6⟩ := lk_term V5 t 7
    obtain ⟨h7, e7, V7⟩ := lk_term V6 t 8
    obtain ⟨h8, e8, V8⟩ := lk_term V7 t 6
    obtain ⟨h9, e9, V9⟩ := lk_term V8 t 0
    obtain ⟨h10, e10, V10⟩ := lk_term V9 t 0
    obtain ⟨h11, e11, V11⟩ := lk_term V10 t 0
    obtain ⟨h12, e12, V12⟩ := lk_term V11 t (tn_tl s t)
    obtain ⟨h13, e13, V13⟩ := lk_term V12 t 5
    obtain ⟨h14, e14, V14⟩ := lk_term V13 t 8
    rw [sp_count_2] at e1
    rw [q8] at e2 e7 e14
    rw [q6] at e3 e5 e8
    rw [q5] at e4 e13
    rw [q7] at e6
    rw [q0] at e9 e10 e11
    rw [qk] at e12
    have go : ∀ hq : tm_H, tl_V a s z st hq → ∃ h', fL_areReadings_L221 a x1 x2 (tm_wr (tn_sm (tl_T8 s) t.toNat + tl_T8 s t)) (tm_wr (tn_sm (tl_T6 s) t.toNat + tl_T6 s t)) (tm_wr (tn_sm (tl_T5 s) t.toNat + tl_T5 s t)) t hq = fL_areReadings_L246 a x1 x2 (tn_sm (tl_T8 s) (tn_nT s).toNat) (tn_sm (tl_T6 s) (tn_nT s).toNat) (tn_sm (tl_T5 s) (tn_nT s).toNat) 1 h' ∧ tl_V a s z st h' := by
      intro hq Vq
      obtain ⟨h', e', V'⟩ := tl_ard_t m (t + 1) hq Vq (by omega) (by omega) (by omega)
      refine ⟨h', ?_, V'⟩
      rw [tn_sm_su t0, tn_sm_su t0, tn_sm_su t0] at e'
      rw [fL_areReadings_L221_eq, lk_nested Vq, Option.bind_some, if_pos (tl_nest1 ht), fL_areReadings_L238_eq, tm_wr_id (z := t + 1) (by omega) (by omega), tm_wr_id (z := tn_sm (tl_T8 s) t.toNat + tl_T8 s t) (by omega) (by omega), tm_wr_id (z := tn_sm (tl_T6 s) t.toNat + tl_T6 s t) (by omega) (by omega), tm_wr_id (z := tn_sm (tl_T5 s) t.toNat + tl_T5 s t) (by omega) (by omega)]
      exact e'
    rw [fL_areReadings_L74_eq, e1, Option.bind_some]
    dsimp only
    rw [if_pos ht.2, if_neg (by omega), e2, Option.bind_some]
    dsimp only
    rw [e3, Option.bind_some]
    dsimp only
    rw [e4, Option.bind_some]
    dsimp only
    rw [e5, Option.bind_some]
    dsimp only
    rw [e6, Option.bind_some]
    dsimp only
    rw [if_neg (by omega), e7, Option.bind_some]
    dsimp only
    rw [e8, Option.bind_some]
    dsimp only
    rw [if_neg (by omega), e9, Option.bind_some]
    dsimp only
    rw [if_pos (by omega), e10, Option.bind_some]
    dsimp only
    rw [if_pos (by omega), e11, Option.bind_some]
    dsimp only
    rw [e12, Option.bind_some]
    dsimp only
    rw [if_neg (by omega), e13, Option.bind_some]
    dsimp only
    by_cases c : tl_T5 s t = 0
    · rw [if_pos c]
      exact go h13 V13
    · rw [if_neg c, e14, Option.bind_some]
      dsimp only
      rw [if_pos (tl_T5_8 (fun q => c (tn_b0 (fun w => w q))))]
      exact go h14 V14
/-- the chapters, one by one -/
theorem tl_ard_c : ∀ (m : Nat) (c : Int) (h : tm_H), tl_V a s z st h → 0 ≤ c → c ≤ 6 → (6 - c).toNat = m → ∃ h', fL_areReadings_L18 a (tn_s2 (tn_fk s) (tn_sz s) c 0) (tn_sm (tn_sz s) c.toNat) 0 0 0 1 c h = some (1, h') ∧ tl_V a s z st h'
  | 0, c, h, V, c0, c1, hm => by
    have nT := V.g.nT
    obtain ⟨h1, e1, V1⟩ := tl_ard_t (x1 := tn_M s) (x2 := tn_sm (tn_sz s) 6) _ 0 h V (by omega) (by omega) rfl
    obtain ⟨h2, e2, V2⟩ := tl_ard_end V1
    refine ⟨h2, ?_, V2⟩
    have c6 : c = 6 := by omega
    subst c6
    rw [fL_areReadings_L18_eq, if_neg (by omega)]
    unfold fL_areReadings_L71
    exact e1.trans e2
  | m + 1, c, h, V, c0, c1, hm => by
    have hc : 0 ≤ c ∧ c < 6 := ⟨c0, by omega⟩
    have sz := V.g.ok.c hc
    have s0 := tl_s2 V.g hc (Int.le_refl 0)
    have s1 := tl_s2 V.g hc sz.1
    have mo := tn_s2_mo (f := tn_fk s) (sz := tn_sz s) (c := c) (p := tn_sz s c) (d := c) (q := 0) (fun d i => (tn_fk_rg s d i).1) c0 (by omega) (by omega) (Or.inr ⟨rfl, by omega⟩)
    have sm := tn_sm_rg (f := tn_sz s) (B := 40) (m := c.toNat) (fun i i0 i1 => V.g.ok.c ⟨i0, by omega⟩)
    obtain ⟨h1, e1, V1⟩ := lk_marksIn V hc
    obtain ⟨h2, e2, V2⟩ := lk_size V1 hc
    obtain ⟨h', e', V'⟩ := tl_ard_c m (c + 1) h2 V2 (by omega) (by omega) (by omega)
    refine ⟨h', ?_, V'⟩
    rw [tn_sm_su c0, tn_s2_c c0] at e'
    rw [fL_areReadings_L18_eq, if_pos hc.2, if_neg (by omega), e1, Option.bind_some]
    dsimp only
    rw [if_neg (by omega), fL_areReadings_L49_eq, e2, Option.bind_some]
    dsimp only
    rw [tm_wr_id (z := tn_s2 (tn_fk s) (tn_sz s) c 0 + (tn_s2 (tn_fk s) (tn_sz s) c (tn_sz s c) - tn_s2 (tn_fk s) (tn_sz s) c 0)) (by omega) (by omega), tm_wr_id (z := tn_sm (tn_sz s) c.toNat + tn_sz s c) (by omega) (by omega), tm_wr_id (z := c + 1) (by omega) (by omega), show tn_s2 (tn_fk s) (tn_sz s) c 0 + (tn_s2 (tn_fk s) (tn_sz s) c (tn_sz s c) - tn_s2 (tn_fk s) (tn_sz s) c 0) = tn_s2 (tn_fk s) (tn_sz s) c (tn_sz s c) by omega]
    exact e'
theorem lk_readings {h : tm_H} (V : tl_V a s z st h) : ∃ h', fL_areReadings a h = some (1, h') ∧ tl_V a s z st h' := tl_ard_c _ 0 h V (by omega) (by omega) rfl
end ARD
