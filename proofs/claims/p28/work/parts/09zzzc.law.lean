/-! THE LAW -/
section LAW
variable {scr : tm_Xs} {a : Nat}
def tl_W (a : Nat) (h : tm_H) : Prop := ∃ s z st, tl_V a s z st h
theorem tl_cell {k : Int} {h : tm_H} (k0 : 0 ≤ k) : ∃ v, fL_cell scr k h = some v := by
  unfold fL_cell fL_cell_L18 tm_sx
  by_cases c : k < (scr.2 : Int)
  · rw [if_pos c, if_pos ⟨k0, c⟩, Option.bind_some]
    exact ⟨_, rfl⟩
  · rw [if_neg c]
    exact ⟨_, rfl⟩
theorem tl_law_end {h : tm_H} (V : tl_W a h) : fL_law_L331 scr a 1 h = some 1 := by
  obtain ⟨s, z, st, V⟩ := V
  obtain ⟨h1, e1, V1⟩ := lk_refused V
  obtain ⟨h2, e2, V2⟩ := lk_readings V1
  obtain ⟨h3, e3, V3⟩ := lk_bases V2
  rw [fL_law_L331, if_neg (by omega), e1, Option.bind_some]
  dsimp only
  rw [if_neg (by omega), e2, Option.bind_some]
  dsimp only
  rw [if_neg (by omega), e3, Option.bind_some]
  dsimp only
  rw [if_neg (by omega)]
/-- what is looked at behind each action -/
theorem tl_law_look {t y : Int} (t0 : 0 ≤ t) (t1 : t < 50) {h : tm_H} (V : tl_W a h) : ∃ h', fL_law_L232 scr a 1 t y h = fL_law_L46 scr a 1 (t + 1) h' ∧ tl_W a h' := by
  obtain ⟨s, z, st, V⟩ := V
  obtain ⟨h1, e1, V1⟩ := lk_readings V
  obtain ⟨r2, d2, p2, q2⟩ := tl_rem (x := t) (d := 2) t0 (by omega) (by omega) (by omega)
  obtain ⟨r5, d5, _⟩ := tl_rem (x := t) (d := 5) t0 (by omega) (by omega) (by omega)
  obtain ⟨r4, d4, _⟩ := tl_rem (x := t) (d := 4) t0 (by omega) (by omega) (by omega)
  obtain ⟨r9, d9, _⟩ := tl_rem (x := t) (d := 9) t0 (by omega) (by omega) (by omega)
  obtain ⟨r8, d8, _⟩ := tl_rem (x := t) (d := 8) t0 (by omega) (by omega) (by omega)
  obtain ⟨h2, e2, V2⟩ := lk_reasons V1 (c := 3 * r2) (by omega)
  have l319 : ∀ h9 : tm_H, tl_W a h9 → ∃ h', fL_law_L319 scr a t h9 = fL_law_L46 scr a 1 (t + 1) h' ∧ tl_W a h' := fun h9 V9 => by
    refine ⟨h9, ?_, V9⟩
    rw [fL_law_L319_eq, fL_law_L324_eq, tm_wr_id (z := t + 1) (by omega) (by omega)]
  have l303 : ∀ h9 : tm_H, tl_W a h9 → ∃ h', fL_law_L303 scr a t h9 = fL_law_L46 scr a 1 (t + 1) h' ∧ tl_W a h' := fun h9 V9 => by
    rw [fL_law_L303_eq, d8, Option.bind_some]
    by_cases c : r8 = 6
    · obtain ⟨s, z, st, V9⟩ := V9
      obtain ⟨h10, e10, V10⟩ := lk_refused V9
      rw [if_pos c, e10, Option.bind_some]
      dsimp only
      rw [if_neg (by omega)]
      exact l319 h10 ⟨_, _, _, V10⟩
    · rw [if_neg c]
      exact l319 h9 V9
  have l287 : ∀ h9 : tm_H, tl_W a h9 → ∃ h', fL_law_L287 scr a t h9 = fL_law_L46 scr a 1 (t + 1) h' ∧ tl_W a h' := fun h9 V9 => by
    rw [fL_law_L287_eq, d9, Option.bind_some]
    by_cases c : r9 = 7
    · obtain ⟨s, z, st, V9⟩ := V9
      obtain ⟨h10, z10, st10, e10, V10⟩ := lk_isGreediest V9
      rw [if_pos c, e10, Option.bind_some]
      dsimp only
      rw [if_neg (by omega)]
      exact l303 h10 ⟨_, _, _, V10⟩
    · rw [if_neg c]
      exact l303 h9 V9
  have l269 : ∀ h9 : tm_H, tl_W a h9 → ∃ h', fL_law_L269 scr a t y h9 = fL_law_L46 scr a 1 (t + 1) h' ∧ tl_W a h' := fun h9 V9 => by
    rw [fL_law_L269_eq, d4, Option.bind_some]
    by_cases c : r4 = 1
    · obtain ⟨s, z, st, V9⟩ := V9
      obtain ⟨h10, z10, st10, e10, V10⟩ := lk_isGain V9 (tm_shr y 1)
      rw [if_pos c, e10, Option.bind_some]
      dsimp only
      rw [if_neg (by omega)]
      exact l287 h10 ⟨_, _, _, V10⟩
    · rw [if_neg c]
      exact l287 h9 V9
  rw [fL_law_L232_eq, if_neg (by omega), e1, Option.bind_some]
  dsimp only
  rw [if_neg (by omega), d2, Option.bind_some, tm_wr_id (z := 3 * r2) (by omega) (by omega), e2, Option.bind_some]
  dsimp only
  rw [if_neg (by omega), d5, Option.bind_some]
  by_cases c : r5 = 2
  · obtain ⟨h3, e3, V3⟩ := lk_bases V2
    rw [if_pos c, e3, Option.bind_some]
    dsimp only
    rw [if_neg (by omega)]
    exact l269 h3 ⟨_, _, _, V3⟩
  · rw [if_neg c]
    exact l269 h2 ⟨_, _, _, V2⟩
/-- an action, and what it leaves -/
theorem tl_law_act {s : tn_St} {z : Int} {st : Int → tn_St} {t y kind : Int} (t0 : 0 ≤ t) (t1 : t < 50) {h : tm_H} (V : tl_V a s z st h) : ∃ h', fL_law_L128 scr a t y (tl_pr a s) z kind h = fL_law_L46 scr a 1 (t + 1) h' ∧ tl_W a h' := by
  have hz := V.hz
  obtain ⟨r, h1, e1, R⟩ := tl_acts V kind y
  obtain ⟨r6, d6, _⟩ := tl_rem (x := t) (d := 6) t0 (by omega) (by omega) (by omega)
  rw [fL_law_L128_eq, e1, Option.bind_some]
  dsimp only
  rcases R with ⟨r0, r1, V1⟩ | ⟨r0, s', V1⟩ | ⟨r0, z0, V1⟩
  · obtain ⟨h2, e2, V2⟩ := lk_count V1 (w := 8) (by omega)
    obtain ⟨h3, e3, V3⟩ := lk_print V2
    rw [sp_count_8] at e2
    rw [e2, Option.bind_some]
    dsimp only
    rw [if_pos r1, if_neg (by omega), e3, Option.bind_some]
    dsimp only
    rw [if_pos (tn_lcmp.mpr rfl), if_pos rfl, fL_law_L177_eq, fL_law_L182_eq, if_neg (by omega), if_pos r1]
    exact tl_law_look t0 t1 ⟨_, _, _, V3⟩
  · obtain ⟨h2, e2, V2⟩ := lk_count V1 (w := 8) (by omega)
    rw [sp_count_8] at e2
    rw [e2, Option.bind_some]
    dsimp only
    rw [if_neg (by omega), fL_law_L177_eq, fL_law_L182_eq, if_neg (by omega), if_neg (by omega), d6, Option.bind_some]
    by_cases c : r6 = 5
    · rw [if_pos c]
      by_cases lt : z < tn_hz z
      · have q := tl_hz hz
        have z5 : z < 5 := by
          unfold tn_hz at lt
          by_cases y : z < 5
          · exact y
          · rw [if_neg y] at lt; omega
        obtain ⟨h3, st3, e3, V3⟩ := la_back hz V2
        obtain ⟨h4, e4, V4⟩ := lk_print V3
        rw [if_pos lt, e3, Option.bind_some]
        dsimp only
        rw [if_pos (by rw [q.2.2.2, if_pos z5]), e4, Option.bind_some]
        dsimp only
        rw [if_pos (tn_lcmp.mpr rfl), fL_law_L231_eq]
        exact tl_law_look t0 t1 ⟨_, _, _, V4⟩
      · rw [if_neg lt]
        exact tl_law_look t0 t1 ⟨_, _, _, V2⟩
    · rw [if_neg c]
      exact tl_law_look t0 t1 ⟨_, _, _, V2⟩
  · obtain ⟨h2, e2, V2⟩ := lk_count V1 (w := 8) (by omega)
    rw [sp_count_8] at e2
    rw [e2, Option.bind_some]
    dsimp only
    rw [if_neg (by omega), fL_law_L177_eq, fL_law_L182_eq, if_neg (by omega), if_neg (by omega), d6, Option.bind_some]
    by_cases c : r6 = 5
    · rw [if_pos c, if_neg (by omega)]
      exact tl_law_look t0 t1 ⟨_, _, _, V2⟩
    · rw [if_neg c]
      exact tl_law_look t0 t1 ⟨_, _, _, V2⟩
theorem tl_law_l : ∀ (m : Nat) (t : Int) (h : tm_H), tl_W a h → 0 ≤ t → t ≤ 50 → (50 - t).toNat = m → fL_law_L46 scr a 1 t h = some 1
  | 0, t, h, V, t0, t1, hm => by
    rw [fL_law_L46_eq, if_neg (by omega)]
    exact tl_law_end V
  | m + 1, t, h, V, t0, t1, hm => by
    obtain ⟨s, z, st, V⟩ := V
    obtain ⟨v1, c1⟩ := tl_cell (scr := scr) (k := 2 * t) (h := h) (by omega)
    obtain ⟨v2, c2⟩ := tl_cell (scr := scr) (k := 2 * t + 1) (h := h) (by omega)
    obtain ⟨h1, e1, V1⟩ := lk_print V
    obtain ⟨h2, e2, V2⟩ := lk_count V1 (w := 8) (by omega)
    rw [sp_count_8] at e2
    have go : ∀ kind : Int, fL_law_L128 scr a t v2 (tl_pr a s) z kind h2 = some 1 := fun kind => by
      obtain ⟨h3, e3, V3⟩ := tl_law_act (scr := scr) (t := t) (y := v2) (kind := kind) t0 (by omega) V2
      rw [e3]
      exact tl_law_l m (t + 1) h3 V3 (by omega) (by omega) (by omega)
    have l108 : fL_law_L108 scr a t v1 v2 (tl_pr a s) z h2 = some 1 := by
      obtain ⟨w, f, _⟩ := tl_low (v := tm_shr v1 5) (d := 999999) (h := h2) (by omega) (by omega)
      rw [fL_law_L108_eq, f, Option.bind_some]
      exact go _
    have l126 : fL_law_L126 scr a t v1 v2 (tl_pr a s) z h2 = some 1 := by
      rw [fL_law_L126_eq]
      exact go _
    rw [fL_law_L46_eq, if_pos (by omega), if_neg (by omega), tm_wr_id (z := 2 * t) (by omega) (by omega), c1, Option.bind_some, tm_wr_id (z := 2 * t + 1) (by omega) (by omega), c2, Option.bind_some, e1, Option.bind_some]
    dsimp only
    rw [e2, Option.bind_some]
    dsimp only
    by_cases k1 : t < 10
    · rw [if_pos k1]; exact l108
    · rw [if_neg k1]
      by_cases k2 : t < 18
      · rw [if_pos k2]; exact l126
      · rw [if_neg k2]
        by_cases k3 : t < 23
        · rw [if_pos k3]; exact l108
        · rw [if_neg k3]; exact l126
theorem tm_law_ok (scr : tm_Xs) (n : Nat) : fL_law scr (fun _ => none) n = some 1 := by
  obtain ⟨h1, e1, p1, _⟩ := tn_NW (fun _ => none) n (.inl (8, [.inr none, .inr none, .inr none, .inr none, .inr none, .inr none]))
  obtain ⟨h2, e2, I2, _⟩ := tx8_init p1
  have V2 : tl_V n tn_s0 0 (fun _ => tn_s0) h2 := ⟨0, _, I2, tl_g_0, by omega, fun i i0 i1 => by omega⟩
  have e3 := (la_undo V2).1 rfl
  obtain ⟨h4, e4, V4⟩ := lk_refused V2
  obtain ⟨h5, e5, V5⟩ := lk_readings V4
  obtain ⟨h6, e6, V6⟩ := lk_bases V5
  rw [fL_law, e1, Option.bind_some, e2, Option.bind_some]
  dsimp only
  rw [e3, Option.bind_some]
  dsimp only
  rw [if_pos rfl, e4, Option.bind_some]
  dsimp only
  rw [if_neg (by omega), e5, Option.bind_some]
  dsimp only
  rw [if_neg (by omega), e6, Option.bind_some]
  dsimp only
  rw [if_neg (by omega), fL_law_L43]
  exact tl_law_l _ 0 h6 ⟨_, _, _, V6⟩ (by omega) (by omega) rfl
end LAW
