/-! areBases; small numbers; what a new term brings; the greediest -/
theorem tl_sm_nn {f : Int → Int} {m : Nat} (h : ∀ i : Int, 0 ≤ i → i < m → 0 ≤ f i) : 0 ≤ tn_sm f m := by
  have q := tn_sm_le (f := fun _ => 0) (g := f) (m := m) h
  rw [tn_sm_0 (fun _ _ _ => rfl)] at q
  exact q
theorem tl_low {v d : Int} {h : tm_H} (d0 : 0 < d) (d1 : d < 2147483648) : ∃ r : Int, fL_low v d h = some r ∧ 0 ≤ r ∧ r < d := by
  obtain ⟨n, rfl⟩ : ∃ n : Nat, d = (n : Int) := ⟨d.toNat, by omega⟩
  have A : Int32.ofInt (tm_and v 2147483647) = nI ((Int32.ofInt v).toBitVec.toNat % 2 ^ 31) := by
    unfold tm_and
    rw [Int32.ofInt_toInt]
    exact pk_and _ 31 (by decide +kernel)
  have B : Int32.ofInt (n : Int) = nI n := Int32.ofInt_eq_ofNat
  have n0 : 0 < n := by omega
  have n1 : n < 2 ^ 31 := by omega
  have lt := Nat.mod_lt ((Int32.ofInt v).toBitVec.toNat % 2 ^ 31) n0
  refine ⟨(((Int32.ofInt v).toBitVec.toNat % 2 ^ 31 % n : Nat) : Int), ?_, by omega, by omega⟩
  unfold fL_low tm_rem
  rw [if_neg (by omega), A, B, pk_rem (Nat.mod_lt _ (by decide)) n0 n1, nI_toInt (by omega)]
  rfl
theorem tl_rem {x d : Int} (x0 : 0 ≤ x) (x1 : x < 2147483648) (d0 : 0 < d) (d1 : d < 2147483648) : ∃ r : Int, tm_rem x d = some r ∧ 0 ≤ r ∧ r < d := by
  obtain ⟨n, rfl⟩ : ∃ n : Nat, d = (n : Int) := ⟨d.toNat, by omega⟩
  obtain ⟨k, rfl⟩ : ∃ k : Nat, x = (k : Int) := ⟨x.toNat, by omega⟩
  have A : Int32.ofInt (k : Int) = nI k := Int32.ofInt_eq_ofNat
  have B : Int32.ofInt (n : Int) = nI n := Int32.ofInt_eq_ofNat
  have n0 : 0 < n := by omega
  have n1 : n < 2 ^ 31 := by omega
  have lt := Nat.mod_lt k n0
  refine ⟨((k % n : Nat) : Int), ?_, by omega, by omega⟩
  unfold tm_rem
  rw [if_neg (by omega), A, B, pk_rem (by omega) n0 n1, nI_toInt (by omega)]
theorem tl_by0 : ∀ k : Fin 26, tn_by (tm_i2l (97 + (k.val : Int))) 0 = 97 + (k.val : Int) := by decide +kernel
section ABS
variable {a : Nat} {s : tn_St} {z : Int} {st : Int → tn_St}
theorem tl_letter (g : tl_g s) {w : Int} (hw : 0 ≤ w ∧ w < tn_n s) : sp_letter s w 0 = 97 + w ∧ sp_letter s w 8 = -99 := by
  have n := g.n
  have q := tl_by0 ⟨w.toNat, by omega⟩
  have e : ((⟨w.toNat, by omega⟩ : Fin 26).val : Int) = w := by show (w.toNat : Int) = w; omega
  rw [e] at q
  refine ⟨?_, ?_⟩
  · unfold sp_letter
    rw [if_pos (by omega), if_pos (by omega), g.2.2.2.1 w, q, if_neg (by omega)]
  · unfold sp_letter
    rw [if_pos (by omega), if_neg (by omega)]
theorem tl_bs_l : ∀ (m : Nat) (w : Int) (h : tm_H), tl_V a s z st h → 0 ≤ w → w ≤ tn_n s → (tn_n s - w).toNat = m → ∃ h', fL_areBases_L6 a (tn_sm (fun v => tn_b (tn_bs s v ≠ v)) w.toNat) 1 w h = some (1, h') ∧ tl_V a s z st h'
  | 0, w, h, V, w0, w1, hm => by
    obtain ⟨h1, e1, V1⟩ := lk_count V (w := 0) (by omega)
    obtain ⟨h2, e2, V2⟩ := lk_count V1 (w := 6) (by omega)
    rw [sp_count_0] at e1
    rw [show sp_count s 0 z 6 = tn_sm (fun v => tn_b (tn_bs s v ≠ v)) (tn_n s).toNat from rfl] at e2
    refine ⟨h2, ?_, V2⟩
    rw [fL_areBases_L6_eq, e1, Option.bind_some]
    dsimp only
    rw [if_neg (by omega)]
    unfold fL_areBases_L102
    rw [if_neg (by omega), e2, Option.bind_some]
    dsimp only
    rw [if_pos (by rw [show w = tn_n s by omega])]
  | m + 1, w, h, V, w0, w1, hm => by
    have g := V.g
    have n := g.n
    have hw : 0 ≤ w ∧ w < tn_n s := ⟨w0, by omega⟩
    have bs := g.ok.b hw
    obtain ⟨l1, l2⟩ := tl_letter g hw
    have sb := tl_sm_b (f := fun v => tn_b (tn_bs s v ≠ v)) (B := 1) (k := w) (fun i => tn_b_rg _) (by omega) (by omega) (by omega)
    have su := tn_sm_su (f := fun v => tn_b (tn_bs s v ≠ v)) w0
    obtain ⟨h1, e1, V1⟩ := lk_count V (w := 0) (by omega)
    rw [sp_count_0] at e1
    have b1 := lk_base V1 w
    rw [sp_bs_in hw] at b1
    have b2 := lk_base V1 (tn_bs s w)
    rw [sp_bs_in bs, g.2.2.2.2.1 w w0 (by omega)] at b2
    have c1 := lk_letter V1 w 0
    have c2 := lk_letter V1 w 8
    rw [l1] at c1
    rw [l2] at c2
    obtain ⟨h', e', V'⟩ := tl_bs_l m (w + 1) h1 V1 (by omega) (by omega) (by omega)
    refine ⟨h', ?_, V'⟩
    rw [su] at e'
    rw [fL_areBases_L6_eq, e1, Option.bind_some]
    dsimp only
    rw [if_pos hw.2, if_neg (by omega), b1, Option.bind_some, if_neg (by omega), b2, Option.bind_some, if_pos rfl, c1, Option.bind_some, if_neg (by omega), Option.bind_some, if_neg (by omega), c2, Option.bind_some, if_pos rfl, fL_areBases_L81_eq]
    by_cases k : tn_bs s w = w
    · rw [if_pos k, fL_areBases_L94_eq, tm_wr_id (z := w + 1) (by omega) (by omega), tm_wr_id (z := tn_sm (fun v => tn_b (tn_bs s v ≠ v)) w.toNat + 0) (by omega) (by omega)]
      rw [tn_b0 (fun q => q k)] at e'
      exact e'
    · rw [if_neg k, fL_areBases_L94_eq, tm_wr_id (z := w + 1) (by omega) (by omega), tm_wr_id (z := tn_sm (fun v => tn_b (tn_bs s v ≠ v)) w.toNat + 1) (by omega) (by omega)]
      rw [tn_b1 k] at e'
      exact e'
theorem lk_bases {h : tm_H} (V : tl_V a s z st h) : ∃ h', fL_areBases a h = some (1, h') ∧ tl_V a s z st h' := by
  have n := V.g.n
  exact tl_bs_l _ 0 h V (by omega) (by omega) rfl
theorem tl_M72 {h : tm_H} (V : tl_V a s z st h) : 0 ≤ tn_M s ∧ tn_M s ≤ 72 := by
  have q := tl_its V
  have nT := V.g.nT
  have r := tn_sm_rg (f := tl_T8 s) (B := 6) (m := (tn_nT s).toNat) (fun i _ _ => tl_T8_rg i)
  omega
/-- what was, comes back -/
theorem la_back {h : tm_H} {s' : tn_St} (hz : 0 ≤ z ∧ z ≤ 5) (V : tl_V a s' (tn_hz z) (tn_hs z st s) h) : ∃ h' st', fX8_undo a h = some (tn_hz z - 1, h') ∧ tl_V a s (tn_hz z - 1) st' h' := by
  have q := tl_hz hz
  obtain ⟨h', e', V'⟩ := (la_undo V).2 (by omega)
  rw [tl_top hz] at V'
  exact ⟨h', _, e', V'⟩
theorem tl_gain {b c d y : Int} {h : tm_H} (V : tl_V a s z st h) (av : tn_aV (tn_n s) b c d (-1)) : ∃ h' z' st', fL_isGain_L56 a y b c d h = some (1, h') ∧ tl_V a s z' st' h' := by
  have g := V.g
  have nT := g.nT
  have hz := V.hz
  have M := tl_M72 V
  obtain ⟨h1, e1, V1⟩ := lk_gain V b c d (-1)
  obtain ⟨h2, e2, V2⟩ := lk_count V1 (w := 4) (by omega)
  obtain ⟨h3, e3, V3⟩ := lk_print V2
  obtain ⟨h4, e4, V4⟩ := lk_count V3 (w := 8) (by omega)
  obtain ⟨h5, e5, J5⟩ := la_add V4 b c d (-1)
  rw [sp_count_4] at e2
  rw [sp_count_8] at e4
  rw [fL_isGain_L56, e1, Option.bind_some]
  dsimp only
  rw [e2, Option.bind_some]
  dsimp only
  rw [e3, Option.bind_some]
  dsimp only
  rw [e4, Option.bind_some]
  dsimp only
  rw [e5, Option.bind_some]
  dsimp only
  by_cases k : sp_ask s b c d (-1) < 0
  · have a2 : sp_ask s b c d (-1) = -2 := by
      have K := tn_aK_rg c d (-1)
      unfold sp_ask at k ⊢
      rw [if_pos av] at k ⊢
      by_cases lk : tn_lik s (tn_aK c d (-1)) (tn_aW b c d (-1))
      · rw [if_pos lk]
      · rw [if_neg lk] at k; omega
    have ad : sp_add s b c d (-1) = (-2, none) := by
      unfold sp_add
      rw [if_pos k, a2]
    have gn : sp_gain s b c d (-1) = -2 := by
      unfold sp_gain
      rw [if_pos k, a2]
    have V5 := J5.no (by rw [ad])
    obtain ⟨h6, e6, V6⟩ := lk_print V5
    refine ⟨h6, z, st, ?_, V6⟩
    rw [ad, gn]
    dsimp only
    rw [if_pos (by omega), e6, Option.bind_some]
    dsimp only
    rw [if_pos (tn_lcmp.mpr rfl), if_pos rfl]
    unfold fL_isGain_L128
    rw [if_pos rfl]
    unfold fL_isGain_L140
    rw [if_pos rfl]
  · have ok' := g.ok.asked (by omega) k
    have M' := tn_M_rg ok'
    have gn : sp_gain s b c d (-1) = 100 + tn_M (tn_addT s (sp_ask s b c d (-1)) (tn_aW b c d (-1))) - tn_M s := by
      unfold sp_gain
      rw [if_neg k]
    by_cases n12 : tn_nT s < 12
    · have ad : sp_add s b c d (-1) = (tn_nT s, some (tn_addT s (sp_ask s b c d (-1)) (tn_aW b c d (-1)))) := by
        unfold sp_add
        rw [if_neg k, if_pos n12]
      rw [ad] at J5
      have V5 : tl_V a (tn_addT s (sp_ask s b c d (-1)) (tn_aW b c d (-1))) (tn_hz z) (tn_hs z st s) h5 := J5
      have q := tl_hz hz
      have as := sp_ask_ok k
      obtain ⟨h6, e6, V6⟩ := lk_count V5 (w := 4) (by omega)
      obtain ⟨h7, e7, V7⟩ := lk_count V6 (w := 2) (by omega)
      obtain ⟨h8, e8, V8⟩ := lk_gain V7 b c d (-1)
      obtain ⟨h9, st9, e9, V9⟩ := la_back hz V8
      obtain ⟨h10, e10, V10⟩ := lk_print V9
      rw [sp_count_4] at e6
      rw [sp_count_2] at e7
      have n' : tn_nT (tn_addT s (sp_ask s b c d (-1)) (tn_aW b c d (-1))) = tn_nT s + 1 := rfl
      rw [n'] at e7
      have g2 : sp_gain (tn_addT s (sp_ask s b c d (-1)) (tn_aW b c d (-1))) b c d (-1) = -2 := by
        have a2 : sp_ask (tn_addT s (sp_ask s b c d (-1)) (tn_aW b c d (-1))) b c d (-1) = -2 := by
          have lk : tn_lik (tn_addT s (sp_ask s b c d (-1)) (tn_aW b c d (-1))) (tn_aK c d (-1)) (tn_aW b c d (-1)) := by
            rw [as.2.1]
            refine ⟨tn_nT s, nT.1, by show tn_nT s < tn_nT s + 1; omega, ?_, fun j j0 j1 => ?_⟩
            · show (if tn_nT s = tn_nT s then tn_aK c d (-1) else tn_tl s (tn_nT s)) = tn_aK c d (-1)
              rw [if_pos rfl]
            · show tn_bs s (if tn_nT s = tn_nT s then tn_aW b c d (-1) j else tn_tw s (tn_nT s) j) = tn_bs s (tn_aW b c d (-1) j)
              rw [if_pos rfl]
          rw [sp_ask, if_pos (show tn_aV (tn_n (tn_addT s (sp_ask s b c d (-1)) (tn_aW b c d (-1)))) b c d (-1) from av), if_pos lk]
        unfold sp_gain
        rw [if_pos (by omega), a2]
      rw [g2] at e8
      refine ⟨h10, _, _, ?_, V10⟩
      rw [ad, gn]
      dsimp only
      rw [if_neg (by omega), if_pos (by omega), e6, Option.bind_some]
      dsimp only
      rw [tm_wr_id (z := tn_M (tn_addT s (sp_ask s b c d (-1)) (tn_aW b c d (-1))) - tn_M s) (by omega) (by omega), tm_wr_id (z := tn_M (tn_addT s (sp_ask s b c d (-1)) (tn_aW b c d (-1))) - tn_M s + 100) (by omega) (by omega), if_pos (by omega), e7, Option.bind_some]
      dsimp only
      rw [tm_wr_id (z := tn_nT s + 1 - 1) (by omega) (by omega), if_pos (by omega), e8, Option.bind_some]
      dsimp only
      rw [if_pos rfl]
      unfold fL_isGain_L201
      rw [if_neg (by omega), e9, Option.bind_some]
      dsimp only
      unfold fL_isGain_L224
      by_cases z5 : z < 5
      · rw [if_pos z5, if_pos (by rw [q.2.2.2, if_pos z5]), e10, Option.bind_some]
        dsimp only
        rw [if_pos (tn_lcmp.mpr rfl)]
      · rw [if_neg z5, if_pos (by rw [q.2.2.2, if_neg z5]), e10, Option.bind_some]
        dsimp only
        rw [if_pos (tn_lcmp.mpr rfl)]
    · have ad : sp_add s b c d (-1) = (-3, none) := by
        unfold sp_add
        rw [if_neg k, if_neg n12]
      have V5 := J5.no (by rw [ad])
      obtain ⟨h6, e6, V6⟩ := lk_print V5
      refine ⟨h6, z, st, ?_, V6⟩
      rw [ad, gn]
      dsimp only
      rw [if_pos (by omega), e6, Option.bind_some]
      dsimp only
      rw [if_pos (tn_lcmp.mpr rfl), if_neg (by omega)]
      unfold fL_isGain_L128
      rw [if_neg (by omega)]
      unfold fL_isGain_L140
      rw [if_pos rfl]
theorem lk_isGain {h : tm_H} (V : tl_V a s z st h) (y : Int) : ∃ h' z' st', fL_isGain a y h = some (1, h') ∧ tl_V a s z' st' h' := by
  have n := V.g.n
  obtain ⟨v1, e1, p1, q1⟩ := tl_low (v := y) (d := 5) (h := h) (by omega) (by omega)
  obtain ⟨v2, e2, p2, q2⟩ := tl_low (v := tm_shr y 4) (d := 3) (h := h) (by omega) (by omega)
  obtain ⟨v3, e3, p3, q3⟩ := tl_low (v := tm_shr y 6) (d := 5) (h := h) (by omega) (by omega)
  obtain ⟨v4, e4, p4, q4⟩ := tl_low (v := tm_shr y 9) (d := 2) (h := h) (by omega) (by omega)
  obtain ⟨v5, e5, p5, q5⟩ := tl_low (v := tm_shr y 10) (d := 5) (h := h) (by omega) (by omega)
  rw [fL_isGain, e1, Option.bind_some, e2, Option.bind_some]
  by_cases c2 : v2 = 0
  · rw [if_pos c2, fL_isGain_L28, if_pos (by omega), fL_isGain_L44]
    exact tl_gain V (by unfold tn_aV; omega)
  · rw [if_neg c2, e3, Option.bind_some, fL_isGain_L28, if_neg (by omega), e4, Option.bind_some]
    by_cases c4 : v4 = 0
    · rw [if_pos c4, fL_isGain_L44]
      exact tl_gain V (by unfold tn_aV; omega)
    · rw [if_neg c4, e5, Option.bind_some]
      exact tl_gain V (by unfold tn_aV; omega)
theorem tl_gre_l : ∀ (m : Nat) (t : Int) (h : tm_H) (z : Int) (st : Int → tn_St), tl_V a s z st h → 0 ≤ t → t ≤ tn_nT s → (tn_nT s - t).toNat = m → ∃ h' z' st', fL_isGreediest_L43 a (tn_gr s (tn_nT s).toNat).1 (tl_pr a s) (tn_gr s t.toNat).2 (tn_gr s t.toNat).1 1 t h = some (1, h') ∧ tl_V a s z' st' h'
  | 0, t, h, z, st, V, t0, t1, hm => by
    obtain ⟨h1, e1, V1⟩ := lk_count V (w := 2) (by omega)
    obtain ⟨h2, e2, V2⟩ := lk_print V1
    rw [sp_count_2] at e1
    refine ⟨h2, z, st, ?_, V2⟩
    rw [fL_isGreediest_L43_eq, e1, Option.bind_some]
    dsimp only
    rw [if_neg (by omega)]
    unfold fL_isGreediest_L143
    rw [if_neg (by omega), if_pos (by rw [show t = tn_nT s by omega]), e2, Option.bind_some]
    dsimp only
    rw [if_pos (tn_lcmp.mpr rfl)]
  | m + 1, t, h, z, st, V, t0, t1, hm => by
    have g := V.g
    have nT := g.nT
    have hz := V.hz
    have q := tl_hz hz
    have ht : 0 ≤ t ∧ t < tn_nT s := ⟨t0, by omega⟩
    obtain ⟨h1, e1, V1⟩ := lk_count V (w := 2) (by omega)
    obtain ⟨h2, e2, J2⟩ := la_remove V1 t
    have rm : sp_remove s t = (tn_nT s - 1, some (tn_drp s t)) := if_pos ht
    rw [rm] at e2 J2
    have V2 : tl_V a (tn_drp s t) (tn_hz z) (tn_hs z st s) h2 := J2
    obtain ⟨h3, e3, V3⟩ := lk_count V2 (w := 2) (by omega)
    obtain ⟨h4, e4, V4⟩ := lk_count V3 (w := 4) (by omega)
    obtain ⟨h5, st5, e5, V5⟩ := la_back hz V4
    rw [sp_count_2] at e1 e3
    rw [sp_count_4] at e4
    have n' : tn_nT (tn_drp s t) = tn_nT s - 1 := rfl
    rw [n'] at e3
    obtain ⟨h', z', st', e', V'⟩ := tl_gre_l m (t + 1) h5 _ st5 V5 (by omega) (by omega) (by omega)
    refine ⟨h', z', st', ?_, V'⟩
    have gr : tn_gr s (t + 1).toNat = if (tn_gr s t.toNat).2 < tn_M (tn_drp s t) then (t, tn_M (tn_drp s t)) else tn_gr s t.toNat := by
      rw [show (t + 1).toNat = t.toNat + 1 by omega]
      simp only [tn_gr]
      rw [Int.toNat_of_nonneg t0]
    rw [gr] at e'
    rw [fL_isGreediest_L43_eq, e1, Option.bind_some]
    dsimp only
    rw [if_pos ht.2, if_neg (by omega), e2, Option.bind_some]
    dsimp only
    rw [e3, Option.bind_some]
    dsimp only
    rw [if_pos rfl, fL_isGreediest_L77_eq, e4, Option.bind_some]
    dsimp only
    by_cases lt : (tn_gr s t.toNat).2 < tn_M (tn_drp s t)
    · rw [if_pos lt] at e'
      rw [if_pos lt, fL_isGreediest_L100_eq, if_pos lt, fL_isGreediest_L116_eq, if_neg (by omega), e5, Option.bind_some]
      dsimp only
      rw [if_neg (by omega), fL_isGreediest_L135_eq, tm_wr_id (z := t + 1) (by omega) (by omega)]
      exact e'
    · rw [if_neg lt] at e'
      rw [if_neg lt, fL_isGreediest_L100_eq, if_neg lt, fL_isGreediest_L116_eq, if_neg (by omega), e5, Option.bind_some]
      dsimp only
      rw [if_neg (by omega), fL_isGreediest_L135_eq, tm_wr_id (z := t + 1) (by omega) (by omega)]
      exact e'
theorem lk_isGreediest {h : tm_H} (V : tl_V a s z st h) : ∃ h' z' st', fL_isGreediest a h = some (1, h') ∧ tl_V a s z' st' h' := by
  have nT := V.g.nT
  obtain ⟨h1, e1, V1⟩ := lk_greed V
  obtain ⟨h2, e2, V2⟩ := lk_count V1 (w := 2) (by omega)
  rw [sp_count_2] at e2
  rw [fL_isGreediest, e1, Option.bind_some]
  dsimp only
  rw [e2, Option.bind_some]
  dsimp only
  by_cases c : tn_nT s = 0
  · refine ⟨h2, z, st, ?_, V2⟩
    rw [if_pos c, if_pos (by rw [c]; rfl)]
  · obtain ⟨h3, e3, V3⟩ := lk_print V2
    rw [if_neg c, e3, Option.bind_some]
    dsimp only
    exact tl_gre_l _ 0 h3 z st V3 (by omega) (by omega) rfl
end ABS
