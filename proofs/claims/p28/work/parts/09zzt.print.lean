/-! what is printed of an object depends on its state alone -/
theorem tl_pr5 (a : Nat) (s : tn_St) : ∀ (m : Nat) (k : Int) (v : Int64), 0 ≤ k → k ≤ 60 → (60 - k).toNat = m → ∃ r : Int64, ∀ (z : Int) (st : Int → tn_St) (h : tm_H), tl_V a s z st h → ∃ h', fL_print_L138 a v k h = some (r, h') ∧ tl_V a s z st h'
  | 0, k, v, h0, h1, hm => ⟨v, fun z st h V => ⟨h, by rw [fL_print_L138_eq, if_neg (by omega)], V⟩⟩
  | m + 1, k, v, h0, h1, hm => by
    obtain ⟨r, hr⟩ := tl_pr5 a s m (k + 1) (31 * v + tm_i2l (sp_bs s k)) (by omega) (by omega) (by omega)
    refine ⟨r, fun z st h V => ?_⟩
    obtain ⟨h', e, V'⟩ := hr z st h V
    refine ⟨h', ?_, V'⟩
    rw [fL_print_L138_eq, if_pos (by omega), lk_base V, Option.bind_some, tm_wr_id (by omega) (by omega)]
    exact e
theorem tl_pr4 (a : Nat) (s : tn_St) : ∀ (m : Nat) (k j : Int) (v : Int64), 0 ≤ k → k < 12 → 0 ≤ j → j ≤ 6 → (100 - 7 * k - j).toNat = m → ∃ r : Int64, ∀ (z : Int) (st : Int → tn_St) (h : tm_H), tl_V a s z st h → ∃ h', fL_print_L102 a v k j h = some (r, h') ∧ tl_V a s z st h'
  | 0, k, j, v, h0, h1, h2, h3, hm => by omega
  | m + 1, k, j, v, h0, h1, h2, h3, hm => by
    by_cases c : j < 6
    · obtain ⟨r, hr⟩ := tl_pr4 a s m k (j + 1) (31 * v + tm_i2l (sp_term s k j)) h0 h1 (by omega) (by omega) (by omega)
      refine ⟨r, fun z st h V => ?_⟩
      obtain ⟨h1, e1, V1⟩ := lk_term V k j
      obtain ⟨h', e, V'⟩ := hr z st h1 V1
      refine ⟨h', ?_, V'⟩
      rw [fL_print_L102_eq, if_pos c, e1, Option.bind_some, tm_wr_id (by omega) (by omega)]
      exact e
    · by_cases d : k + 1 < 12
      · obtain ⟨r, hr⟩ := tl_pr4 a s m (k + 1) 0 v (by omega) d (by omega) (by omega) (by omega)
        refine ⟨r, fun z st h V => ?_⟩
        obtain ⟨h', e, V'⟩ := hr z st h V
        refine ⟨h', ?_, V'⟩
        rw [fL_print_L102_eq, if_neg c, tm_wr_id (by omega) (by omega), fL_print_L93_eq, if_pos d]
        exact e
      · obtain ⟨r, hr⟩ := tl_pr5 a s _ 0 v (by omega) (by omega) rfl
        refine ⟨r, fun z st h V => ?_⟩
        obtain ⟨h', e, V'⟩ := hr z st h V
        refine ⟨h', ?_, V'⟩
        rw [fL_print_L102_eq, if_neg c, tm_wr_id (by omega) (by omega), fL_print_L93_eq, if_neg d]
        exact e
theorem tl_pr3 (a : Nat) (s : tn_St) (v : Int64) : ∃ r : Int64, ∀ (z : Int) (st : Int → tn_St) (h : tm_H), tl_V a s z st h → ∃ h', fL_print_L93 a v 0 h = some (r, h') ∧ tl_V a s z st h' := by
  obtain ⟨r, hr⟩ := tl_pr4 a s _ 0 0 v (by omega) (by omega) (by omega) (by omega) rfl
  refine ⟨r, fun z st h V => ?_⟩
  rw [fL_print_L93_eq, if_pos (by omega)]
  exact hr z st h V
theorem tl_pr2 (a : Nat) (s : tn_St) : ∀ (m : Nat) (k j : Int) (v : Int64), 0 ≤ k → k < 6 → 0 ≤ j → j ≤ 40 → (300 - 41 * k - j).toNat = m → ∃ r : Int64, ∀ (z : Int) (st : Int → tn_St) (h : tm_H), tl_V a s z st h → ∃ h', fL_print_L42 a v k j h = some (r, h') ∧ tl_V a s z st h'
  | 0, k, j, v, h0, h1, h2, h3, hm => by omega
  | m + 1, k, j, v, h0, h1, h2, h3, hm => by
    by_cases c : j < 40
    · obtain ⟨r, hr⟩ := tl_pr2 a s m k (j + 1) (31 * (31 * v + tm_i2l (sp_place s k j 0)) + tm_i2l (sp_place s k j 2)) h0 h1 (by omega) (by omega) (by omega)
      refine ⟨r, fun z st h V => ?_⟩
      obtain ⟨h1, e1, V1⟩ := lk_place V k j 0
      obtain ⟨h2, e2, V2⟩ := lk_place V1 k j 2
      obtain ⟨h', e, V'⟩ := hr z st h2 V2
      refine ⟨h', ?_, V'⟩
      rw [fL_print_L42_eq, if_pos c, e1, Option.bind_some]
      dsimp only
      rw [e2, Option.bind_some, tm_wr_id (by omega) (by omega)]
      exact e
    · by_cases d : k + 1 < 6
      · obtain ⟨r, hr⟩ := tl_pr2 a s m (k + 1) 0 v (by omega) d (by omega) (by omega) (by omega)
        refine ⟨r, fun z st h V => ?_⟩
        obtain ⟨h', e, V'⟩ := hr z st h V
        refine ⟨h', ?_, V'⟩
        rw [fL_print_L42_eq, if_neg c, tm_wr_id (by omega) (by omega), fL_print_L33_eq, if_pos d]
        exact e
      · obtain ⟨r, hr⟩ := tl_pr3 a s v
        refine ⟨r, fun z st h V => ?_⟩
        obtain ⟨h', e, V'⟩ := hr z st h V
        refine ⟨h', ?_, V'⟩
        rw [fL_print_L42_eq, if_neg c, tm_wr_id (by omega) (by omega), fL_print_L33_eq, if_neg d]
        exact e
theorem tl_pr1 (a : Nat) (s : tn_St) : ∀ (m : Nat) (k : Int) (v : Int64), 0 ≤ k → k ≤ 8 → (8 - k).toNat = m → ∃ r : Int64, ∀ (z : Int) (st : Int → tn_St) (h : tm_H), tl_V a s z st h → ∃ h', fL_print_L6 a v k h = some (r, h') ∧ tl_V a s z st h'
  | 0, k, v, h0, h1, hm => by
    obtain ⟨r, hr⟩ := tl_pr2 a s _ 0 0 v (by omega) (by omega) (by omega) (by omega) rfl
    refine ⟨r, fun z st h V => ?_⟩
    rw [fL_print_L6_eq, if_neg (by omega), fL_print_L33_eq, if_pos (by omega)]
    exact hr z st h V
  | m + 1, k, v, h0, h1, hm => by
    obtain ⟨r, hr⟩ := tl_pr1 a s m (k + 1) (31 * v + tm_i2l (sp_count s 0 0 k)) (by omega) (by omega) (by omega)
    refine ⟨r, fun z st h V => ?_⟩
    obtain ⟨h1, e1, V1⟩ := lk_count V (w := k) (by omega)
    obtain ⟨h', e, V'⟩ := hr z st h1 V1
    refine ⟨h', ?_, V'⟩
    have ez : sp_count s 0 z k = sp_count s 0 0 k := by
      unfold sp_count
      rw [if_neg (show ¬ k = 8 by omega), if_neg (show ¬ k = 8 by omega)]
    rw [fL_print_L6_eq, if_pos (by omega), e1, Option.bind_some, tm_wr_id (by omega) (by omega), ez]
    exact e
theorem tl_pr_ex (a : Nat) (s : tn_St) : ∃ r : Int64, ∀ (z : Int) (st : Int → tn_St) (h : tm_H), tl_V a s z st h → ∃ h', fL_print a h = some (r, h') ∧ tl_V a s z st h' := by
  obtain ⟨r, hr⟩ := tl_pr1 a s _ 0 233 (by omega) (by omega) rfl
  exact ⟨r, fun z st h V => hr z st h V⟩
noncomputable def tl_pr (a : Nat) (s : tn_St) : Int64 := Classical.choose (tl_pr_ex a s)
theorem lk_print {a : Nat} {s : tn_St} {z : Int} {st : Int → tn_St} {h : tm_H} (V : tl_V a s z st h) : ∃ h', fL_print a h = some (tl_pr a s, h') ∧ tl_V a s z st h' := Classical.choose_spec (tl_pr_ex a s) z st h V
/-- how many words a chapter has -/
theorem tl_size_l {a : Nat} {s : tn_St} {z : Int} {st : Int → tn_St} {c : Int} (hc : 0 ≤ c ∧ c < 6) : ∀ (m : Nat) (k : Int) (h : tm_H), tl_V a s z st h → 0 ≤ k → k ≤ tn_sz s c → (tn_sz s c - k).toNat = m → ∃ h', fL_size_L2 a c k h = some (tn_sz s c, h') ∧ tl_V a s z st h'
  | 0, k, h, V, h0, h1, hm => by
    have sz := V.g.ok.c hc
    obtain ⟨h1, e1, V1⟩ := lk_place V c k 0
    have e : sp_place s c k 0 = -99 := by
      unfold sp_place
      rw [if_pos (by omega), if_neg (by omega)]
    refine ⟨h1, ?_, V1⟩
    rw [fL_size_L2_eq, if_pos (by omega), e1, Option.bind_some, e]
    dsimp only
    rw [if_pos (by omega), show k = tn_sz s c by omega]
  | m + 1, k, h, V, h0, h1, hm => by
    have sz := V.g.ok.c hc
    obtain ⟨h1, e1, V1⟩ := lk_place V c k 0
    have wd := V.g.ok.p hc (p := k) ⟨h0, by omega⟩
    have e : sp_place s c k 0 = tn_wd s c k := by
      unfold sp_place
      rw [if_pos (by omega), if_pos (by omega), if_pos rfl]
    obtain ⟨h', e2, V2⟩ := tl_size_l hc m (k + 1) h1 V1 (by omega) (by omega) (by omega)
    refine ⟨h', ?_, V2⟩
    rw [fL_size_L2_eq, if_pos (by omega), e1, Option.bind_some, e, if_neg (by dsimp only; omega), tm_wr_id (by omega) (by omega)]
    exact e2
theorem lk_size {a : Nat} {s : tn_St} {z : Int} {st : Int → tn_St} {h : tm_H} {c : Int} (V : tl_V a s z st h) (hc : 0 ≤ c ∧ c < 6) : ∃ h', fL_size a c h = some (tn_sz s c, h') ∧ tl_V a s z st h' := by
  have sz := V.g.ok.c hc
  exact tl_size_l hc _ 0 h V (by omega) (by omega) rfl
