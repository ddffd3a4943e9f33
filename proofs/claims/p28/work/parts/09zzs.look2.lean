/-! THE LAW'S WORLD: an object, what it keeps, and that it is well made -/
def tl_g (s : tn_St) : Prop := tn_ok s ∧ tn_nT s ≤ 12 ∧ tn_n s = 26 ∧ (∀ w : Int, tn_sp s w = tm_i2l (97 + w)) ∧ (∀ w : Int, 0 ≤ w → w < 26 → tn_bs s (tn_bs s w) = tn_bs s w) ∧ ¬ tn_two (tn_bs s) s
def tl_V (a : Nat) (s : tn_St) (z : Int) (st : Int → tn_St) (h : tm_H) : Prop := ∃ (l : Int) (x : Int → Int), tn_I h a s l x z st ∧ tl_g s ∧ (0 ≤ z ∧ z ≤ 5) ∧ ∀ i : Int, 0 ≤ i → i < z → tl_g (st i)
def tl_J (a : Nat) (s : tn_St) (z : Int) (st : Int → tn_St) : Option tn_St → tm_H → Prop
  | none, h => tl_V a s z st h
  | some s', h => tl_V a s' (tn_hz z) (tn_hs z st s) h
theorem tl_g.ok {s : tn_St} (g : tl_g s) : tn_ok s := g.1
theorem tl_g.nT {s : tn_St} (g : tl_g s) : 0 ≤ tn_nT s ∧ tn_nT s ≤ 12 := ⟨g.1.2.2.2.2.1, g.2.1⟩
theorem tl_g.n {s : tn_St} (g : tl_g s) : tn_n s = 26 := g.2.2.1
theorem tl_g_0 : tl_g tn_s0 := by
  refine ⟨⟨by decide, by decide, fun w w0 w1 => ⟨w0, w1⟩, fun c _ _ => ⟨(Int.le_refl 0 : (0 : Int) ≤ 0), (by decide : (0 : Int) ≤ 40), fun p p0 p1 => absurd (show p < 0 from p1) (by omega)⟩, by decide, by decide, fun t t0 t1 => absurd (show t < 0 from t1) (by omega), fun z _ _ => ⟨Or.inl rfl, fun e => absurd (show (0 : Int) = 1 from e) (by decide)⟩⟩, by decide, rfl, fun _ => rfl, fun _ _ _ => rfl, ?_⟩
  rintro ⟨x, y, x0, xy, y1, _⟩
  have : y < 0 := y1
  omega
/-- words and terms as they were -/
theorem tl_g.ch {s s' : tn_St} (g : tl_g s) (k : tn_ok s' ∧ tn_nT s' ≤ 12 ∧ tn_n s' = tn_n s) (e1 : s'.1 = s.1) (e2 : s'.2.2.1 = s.2.2.1) : tl_g s' := by
  obtain ⟨g1, g2, g3, g4, g5, g6⟩ := g
  refine ⟨k.1, k.2.1, k.2.2.trans g3, fun w => ?_, ?_, ?_⟩
  · show s'.1.2.2 w = _
    rw [e1]; exact g4 w
  · show ∀ w : Int, 0 ≤ w → w < 26 → s'.1.2.1 (s'.1.2.1 w) = s'.1.2.1 w
    rw [e1]; exact g5
  · intro ⟨x, y, x0, xy, y1, e, q⟩
    refine g6 ⟨x, y, x0, xy, ?_, ?_, ?_⟩
    · have : y < s'.2.2.1.1 := y1
      rw [e2] at this; exact this
    · have : s'.2.2.1.2.1 x = s'.2.2.1.2.1 y := e
      rw [e2] at this; exact this
    · have : ∀ k : Int, 0 ≤ k → k < s'.2.2.1.2.1 x → s'.1.2.1 (s'.2.2.1.2.2.1 x k) = s'.1.2.1 (s'.2.2.1.2.2.1 y k) := q
      rw [e1, e2] at this; exact this
theorem tl_g.drp {s : tn_St} (g : tl_g s) {d : Int} (hd : 0 ≤ d ∧ d < tn_nT s) : tl_g (tn_drp s d) := by
  obtain ⟨g1, g2, g3, g4, g5, g6⟩ := g
  refine ⟨g1.drp hd, by show tn_nT s - 1 ≤ 12; omega, g3, g4, g5, ?_⟩
  rintro ⟨x, y, x0, xy, y1, e, q⟩
  have y1 : y < tn_nT s - 1 := y1
  refine g6 ⟨if x < d then x else x + 1, if y < d then y else y + 1, by split <;> omega, by split <;> split <;> omega, by split <;> omega, e, q⟩
theorem tl_g.addT {s : tn_St} (g : tl_g s) {k : Int} {W : Int → Int} (ok' : tn_ok (tn_addT s k W)) (hn : tn_nT s < 12) (nl : ¬ tn_lik s k W) : tl_g (tn_addT s k W) := by
  obtain ⟨g1, g2, g3, g4, g5, g6⟩ := g
  refine ⟨ok', by show tn_nT s + 1 ≤ 12; omega, g3, g4, g5, ?_⟩
  rintro ⟨x, y, x0, xy, y1, e, q⟩
  have y1 : y < tn_nT s + 1 := y1
  have e : (if x = tn_nT s then k else tn_tl s x) = (if y = tn_nT s then k else tn_tl s y) := e
  have q : ∀ j : Int, 0 ≤ j → j < (if x = tn_nT s then k else tn_tl s x) → tn_bs s (if x = tn_nT s then W j else tn_tw s x j) = tn_bs s (if y = tn_nT s then W j else tn_tw s y j) := q
  simp only [if_neg (show ¬ x = tn_nT s by omega)] at e q
  by_cases c : y = tn_nT s
  · simp only [if_pos c] at e q
    exact nl ⟨x, x0, by omega, e, fun j j0 j1 => q j j0 (by omega)⟩
  · simp only [if_neg c] at e q
    exact g6 ⟨x, y, x0, xy, by omega, e, q⟩
theorem tl_g.setB {s : tn_St} (g : tl_g s) {w b : Int} (hw : 0 ≤ w ∧ w < tn_n s) (hb : 0 ≤ b ∧ b < tn_n s) (m : tn_may s w b) : tl_g (tn_setB s w b) := by
  obtain ⟨g1, g2, g3, g4, g5, g6⟩ := g
  refine ⟨g1.setB hb, g2, g3, g4, ?_, m.2⟩
  show ∀ v : Int, 0 ≤ v → v < 26 → (if (if v = w then b else tn_bs s v) = w then b else tn_bs s (if v = w then b else tn_bs s v)) = (if v = w then b else tn_bs s v)
  intro v v0 v1
  have m1 := m.1
  by_cases bw : b = w
  · subst bw
    by_cases c : v = b
    · simp only [if_pos c, if_true]
    · simp only [if_neg c]
      by_cases d : tn_bs s v = b
      · rw [if_pos d, d]
      · rw [if_neg d]; exact g5 v v0 v1
  · have h1 : tn_bs s b = b := Classical.byContradiction fun k => m1 ⟨bw, Or.inl k⟩
    have h2 : ∀ v : Int, 0 ≤ v → v < tn_n s → v ≠ w → tn_bs s v ≠ w := fun u u0 u1 uw e => m1 ⟨bw, Or.inr ⟨u, u0, u1, uw, e⟩⟩
    by_cases c : v = w
    · simp only [if_pos c, if_neg bw, h1]
    · simp only [if_neg c, if_neg (h2 v v0 (by omega) c)]
      exact g5 v v0 v1
theorem tl_hz {z : Int} (h : 0 ≤ z ∧ z ≤ 5) : 0 ≤ tn_hz z ∧ tn_hz z ≤ 5 ∧ 1 ≤ tn_hz z ∧ tn_hz z - 1 = (if z < 5 then z else 4) := by
  unfold tn_hz
  by_cases c : z < 5
  · rw [if_pos c, if_pos c]; omega
  · rw [if_neg c, if_neg c]; omega
theorem tl_top {z : Int} {st : Int → tn_St} {s : tn_St} (h : 0 ≤ z ∧ z ≤ 5) : tn_hs z st s (tn_hz z - 1) = s := by
  unfold tn_hs tn_hz
  by_cases c : z < 5
  · simp only [if_pos c]
    rw [if_pos (by omega)]
  · simp only [if_neg c]
    rw [if_pos (by omega)]
theorem tl_s2_lt {s : tn_St} (ok : tn_ok s) {d q : Int} (hd : 0 ≤ d ∧ d < 6) (hq : 0 ≤ q ∧ q < tn_sz s d) (mk : tn_mk (tn_L s d) (tn_w s) (tn_tq s) q) : tn_s2 (tn_fk s) (tn_sz s) d q < tn_M s :=
  tn_s2_lt (fun d i => (tn_fk_rg s d i).1) hd.1 hq (Int.le_refl 0) (Or.inl hd.2) (tn_b1 mk)
section TLV
variable {a : Nat} {s : tn_St} {z : Int} {st : Int → tn_St} {h : tm_H}
theorem tl_V.g (V : tl_V a s z st h) : tl_g s := by obtain ⟨l, x, _, g, _⟩ := V; exact g
theorem tl_V.hz (V : tl_V a s z st h) : 0 ≤ z ∧ z ≤ 5 := by obtain ⟨l, x, _, _, hz, _⟩ := V; exact hz
theorem tl_V.ofJ {l : Int} {x : Int → Int} {h' : tm_H} {o : Option tn_St} (V : tl_V a s z st h) (J : tn_J h' a l x z st s o) (gd : ∀ s', o = some s' → tl_g s') : tl_J a s z st o h' := by
  obtain ⟨_, _, _, g, hz, hh⟩ := V
  cases o with
  | none => exact ⟨l, x, J, g, hz, hh⟩
  | some s' =>
    refine ⟨l, x, J, gd s' rfl, ⟨(tl_hz hz).1, (tl_hz hz).2.1⟩, fun i i0 i1 => ?_⟩
    unfold tn_hs
    unfold tn_hz at i1
    by_cases c : z < 5
    · rw [if_pos c] at i1 ⊢
      by_cases d : i = z
      · rw [if_pos d]; exact g
      · rw [if_neg d]; exact hh i i0 (by omega)
    · rw [if_neg c] at i1 ⊢
      by_cases d : i = 4
      · rw [if_pos d]; exact g
      · rw [if_neg d]; exact hh (i + 1) (by omega) (by omega)
theorem lk_count (V : tl_V a s z st h) {w : Int} (hw : w ≠ 9) : ∃ h', fX8_count a w h = some (sp_count s 0 z w, h') ∧ tl_V a s z st h' := by
  obtain ⟨l, x, H, g, hz, hh⟩ := V
  obtain ⟨h1, e1, H1, _⟩ := tx8_count H g.1 w
  refine ⟨h1, ?_, l, x, H1, g, hz, hh⟩
  rw [e1]
  unfold sp_count
  rw [if_neg hw, if_neg hw]
theorem lk_letter (V : tl_V a s z st h) (w i : Int) : fX8_letter a w i h = some (sp_letter s w i) := by
  obtain ⟨l, x, H, _⟩ := V
  exact tx8_letter H w i
theorem lk_base (V : tl_V a s z st h) (w : Int) : fX8_base a w h = some (sp_bs s w) := by
  obtain ⟨l, x, H, _⟩ := V
  exact tx8_base H w
theorem lk_place (V : tl_V a s z st h) (c p w : Int) : ∃ h', fX8_place a c p w h = some (sp_place s c p w, h') ∧ tl_V a s z st h' := by
  obtain ⟨l, x, H, g, hz, hh⟩ := V
  obtain ⟨h1, e1, H1, _⟩ := tx8_place H g.1 c p w
  exact ⟨h1, e1, l, x, H1, g, hz, hh⟩
theorem lk_term (V : tl_V a s z st h) (t w : Int) : ∃ h', fX8_term a t w h = some (sp_term s t w, h') ∧ tl_V a s z st h' := by
  obtain ⟨l, x, H, g, hz, hh⟩ := V
  obtain ⟨h1, e1, H1, _⟩ := tx8_term H g.1 t w
  exact ⟨h1, e1, l, x, H1, g, hz, hh⟩
theorem lk_first (V : tl_V a s z st h) (t c : Int) : ∃ r h', fX8_firstUse a t c h = some (r, h') ∧ (0 ≤ t ∧ t < tn_nT s ∧ 0 ≤ c ∧ c < 6 → tn_ff (tn_sz s c) (tn_us (tn_L s c) (tn_w s) t) r) ∧ (¬ (0 ≤ t ∧ t < tn_nT s ∧ 0 ≤ c ∧ c < 6) → r = -1) ∧ tl_V a s z st h' := by
  obtain ⟨l, x, H, g, hz, hh⟩ := V
  obtain ⟨r, h1, e1, k1, k2, H1, _⟩ := tx8_firstUse H g.1 t c
  exact ⟨r, h1, e1, k1, k2, l, x, H1, g, hz, hh⟩
theorem lk_mark (V : tl_V a s z st h) (m w : Int) : ∃ r h', fX8_mark a m w h = some (r, h') ∧ (0 ≤ m ∧ 0 ≤ w ∧ w ≤ 2 → tn_mp s m w r) ∧ tl_V a s z st h' := by
  obtain ⟨l, x, H, g, hz, hh⟩ := V
  obtain ⟨r, h1, e1, k1, _, H1, _⟩ := tx8_mark H g.1 m w
  exact ⟨r, h1, e1, k1, l, x, H1, g, hz, hh⟩
theorem lk_why (V : tl_V a s z st h) (c p t : Int) : ∃ h', fX8_why a c p t h = some (sp_why s c p t, h') ∧ tl_V a s z st h' := by
  obtain ⟨l, x, H, g, hz, hh⟩ := V
  obtain ⟨h1, e1, H1, _⟩ := tx8_why H g.1 c p t
  exact ⟨h1, e1, l, x, H1, g, hz, hh⟩
theorem lk_nested (V : tl_V a s z st h) (i o : Int) : fX8_nested a i o h = some (sp_nested s i o) := by
  obtain ⟨l, x, H, g, _⟩ := V
  exact tx8_nested H g.1 i o
theorem lk_gain (V : tl_V a s z st h) (b c d e : Int) : ∃ h', fX8_gain a b c d e h = some (sp_gain s b c d e, h') ∧ tl_V a s z st h' := by
  obtain ⟨l, x, H, g, hz, hh⟩ := V
  obtain ⟨h1, e1, H1, _⟩ := tx8_gain H g.1 g.2.1 b c d e
  exact ⟨h1, e1, l, x, H1, g, hz, hh⟩
theorem lk_greed (V : tl_V a s z st h) : ∃ h', fX8_greediest a h = some ((tn_gr s (tn_nT s).toNat).1, h') ∧ tl_V a s z st h' := by
  obtain ⟨l, x, H, g, hz, hh⟩ := V
  obtain ⟨h1, e1, H1, _⟩ := tx8_greediest H g.1
  exact ⟨h1, e1, l, x, H1, g, hz, hh⟩
theorem la_undo (V : tl_V a s z st h) : (z = 0 → fX8_undo a h = some (-2, h)) ∧ (z ≠ 0 → ∃ h', fX8_undo a h = some (z - 1, h') ∧ tl_V a (st (z - 1)) (z - 1) st h') := by
  obtain ⟨l, x, H, g, hz, hh⟩ := V
  refine ⟨(tx8_undo H).1, fun c => ?_⟩
  obtain ⟨h1, e1, H1, _⟩ := (tx8_undo H).2 c
  exact ⟨h1, e1, l, x, H1, hh _ (by omega) (by omega), by omega, fun i i0 i1 => hh i i0 (by omega)⟩
theorem la_append (V : tl_V a s z st h) : fX8_append a 0 h = some (-1, h) := by
  obtain ⟨l, x, H, _⟩ := V
  exact (tx8_append H 0).1 (by omega)
theorem la_insert (V : tl_V a s z st h) (c p w : Int) : ∃ h', fX8_insert a c p w h = some ((sp_insert s c p w).1, h') ∧ tl_J a s z st (sp_insert s c p w).2 h' := by
  obtain ⟨l, x, H, g, hz, hh⟩ := id V
  obtain ⟨h1, e1, J1, _⟩ := tx8_insert H g.1 c p w
  refine ⟨h1, e1, V.ofJ J1 fun s' e => ?_⟩
  have gd := tn_gd_insert g.1 g.2.1 c p w s' e
  have k : s'.1 = s.1 ∧ s'.2.2.1 = s.2.2.1 := by
    unfold sp_insert at e
    split at e
    · split at e
      · cases e; exact ⟨rfl, rfl⟩
      · cases e
    · cases e
  exact g.ch gd k.1 k.2
theorem la_delete (V : tl_V a s z st h) (c p w : Int) : ∃ h', fX8_delete a c p w h = some ((sp_delete s c p w).1, h') ∧ tl_J a s z st (sp_delete s c p w).2 h' := by
  obtain ⟨l, x, H, g, hz, hh⟩ := id V
  obtain ⟨h1, e1, J1, _⟩ := tx8_delete H g.1 c p w
  refine ⟨h1, e1, V.ofJ J1 fun s' e => ?_⟩
  have gd := tn_gd_delete g.1 g.2.1 c p w s' e
  have k : s'.1 = s.1 ∧ s'.2.2.1 = s.2.2.1 := by
    unfold sp_delete at e
    split at e
    · cases e; exact ⟨rfl, rfl⟩
    · cases e
  exact g.ch gd k.1 k.2
theorem la_replace (V : tl_V a s z st h) (w o : Int) : ∃ h', fX8_replace a w o h = some ((sp_replace s w o).1, h') ∧ tl_J a s z st (sp_replace s w o).2 h' := by
  obtain ⟨l, x, H, g, hz, hh⟩ := id V
  obtain ⟨h1, e1, J1, _⟩ := tx8_replace H g.1 w o
  refine ⟨h1, e1, V.ofJ J1 fun s' e => ?_⟩
  have gd := tn_gd_replace g.1 g.2.1 w o s' e
  have k : s'.1 = s.1 ∧ s'.2.2.1 = s.2.2.1 := by
    unfold sp_replace at e
    split at e
    · cases e; exact ⟨rfl, rfl⟩
    · cases e
  exact g.ch gd k.1 k.2
theorem la_swap (V : tl_V a s z st h) (w o : Int) : ∃ h', fX8_swap a w o h = some ((sp_swap s w o).1, h') ∧ tl_J a s z st (sp_swap s w o).2 h' := by
  obtain ⟨l, x, H, g, hz, hh⟩ := id V
  obtain ⟨h1, e1, J1, _⟩ := tx8_swap H g.1 w o
  refine ⟨h1, e1, V.ofJ J1 fun s' e => ?_⟩
  have gd := tn_gd_swap g.1 g.2.1 w o s' e
  have k : s'.1 = s.1 ∧ s'.2.2.1 = s.2.2.1 := by
    unfold sp_swap at e
    split at e
    · cases e; exact ⟨rfl, rfl⟩
    · cases e
  exact g.ch gd k.1 k.2
theorem la_take (V : tl_V a s z st h) (y : Int) : ∃ h', fX8_take a y h = some ((sp_take s y).1, h') ∧ tl_J a s z st (sp_take s y).2 h' := by
  obtain ⟨l, x, H, g, hz, hh⟩ := id V
  obtain ⟨h1, e1, J1, _⟩ := tx8_take H g.1 y
  refine ⟨h1, e1, V.ofJ J1 fun s' e => ?_⟩
  have gd := tn_gd_take g.1 g.2.1 y s' e
  have k : s'.1 = s.1 ∧ s'.2.2.1 = s.2.2.1 := by
    unfold sp_take at e
    split at e
    · cases e; exact ⟨rfl, rfl⟩
    · cases e
  exact g.ch gd k.1 k.2
theorem la_restore (V : tl_V a s z st h) (y : Int) : ∃ h', fX8_restore a y h = some ((sp_restore s y).1, h') ∧ tl_J a s z st (sp_restore s y).2 h' := by
  obtain ⟨l, x, H, g, hz, hh⟩ := id V
  obtain ⟨h1, e1, J1, _⟩ := tx8_restore H g.1 y
  refine ⟨h1, e1, V.ofJ J1 fun s' e => ?_⟩
  have gd := tn_gd_restore g.1 g.2.1 y s' e
  have k : s'.1 = s.1 ∧ s'.2.2.1 = s.2.2.1 := by
    unfold sp_restore at e
    split at e
    · split at e
      · cases e
      · cases e; exact ⟨rfl, rfl⟩
    · cases e
  exact g.ch gd k.1 k.2
theorem la_remove (V : tl_V a s z st h) (d : Int) : ∃ h', fX8_removeTerm a d h = some ((sp_remove s d).1, h') ∧ tl_J a s z st (sp_remove s d).2 h' := by
  obtain ⟨l, x, H, g, hz, hh⟩ := id V
  obtain ⟨h1, e1, J1, _⟩ := tx8_remove H g.1 d
  refine ⟨h1, e1, V.ofJ J1 fun s' e => ?_⟩
  unfold sp_remove at e
  by_cases c : 0 ≤ d ∧ d < tn_nT s
  · rw [if_pos c] at e
    cases e
    exact g.drp c
  · rw [if_neg c] at e; cases e
theorem la_quiet (V : tl_V a s z st h) (t v : Int) : ∃ h', fX8_setQuiet a t v h = some ((sp_quiet s t v).1, h') ∧ tl_J a s z st (sp_quiet s t v).2 h' := by
  obtain ⟨l, x, H, g, hz, hh⟩ := id V
  obtain ⟨h1, e1, J1, _⟩ := tx8_quiet H g.1 t v
  refine ⟨h1, e1, V.ofJ J1 fun s' e => ?_⟩
  have k := tn_gd_quiet g.1 g.2.1 t v s' e
  unfold sp_quiet at e
  by_cases c : 0 ≤ t ∧ t < tn_nT s ∧ 0 ≤ v ∧ v ≤ 1
  · rw [if_pos c] at e
    cases e
    exact ⟨k.1, k.2.1, g.2.2.1, g.2.2.2.1, g.2.2.2.2.1, g.2.2.2.2.2⟩
  · rw [if_neg c] at e; cases e
theorem la_base (V : tl_V a s z st h) (w b : Int) : ∃ h', fX8_setBase a w b h = some ((sp_base s w b).1, h') ∧ tl_J a s z st (sp_base s w b).2 h' := by
  obtain ⟨l, x, H, g, hz, hh⟩ := id V
  obtain ⟨h1, e1, J1, _⟩ := tx8_setBase H g.1 w b
  refine ⟨h1, e1, V.ofJ J1 fun s' e => ?_⟩
  unfold sp_base at e
  by_cases c : 0 ≤ w ∧ w < tn_n s ∧ 0 ≤ b ∧ b < tn_n s
  · rw [if_pos c] at e
    by_cases d : tn_may s w b
    · rw [if_pos d] at e
      cases e
      exact g.setB ⟨c.1, c.2.1⟩ c.2.2 d
    · rw [if_neg d] at e; cases e
  · rw [if_neg c] at e; cases e
theorem la_add (V : tl_V a s z st h) (b c d e : Int) : ∃ h', fX8_addTerm a b c d e h = some ((sp_add s b c d e).1, h') ∧ tl_J a s z st (sp_add s b c d e).2 h' := by
  obtain ⟨l, x, H, g, hz, hh⟩ := id V
  obtain ⟨h1, e1, J1, _⟩ := tx8_addTerm H g.1 b c d e
  refine ⟨h1, e1, V.ofJ J1 fun s' e' => ?_⟩
  unfold sp_add at e'
  by_cases k : sp_ask s b c d e < 0
  · rw [if_pos k] at e'; cases e'
  · rw [if_neg k] at e'
    by_cases j : tn_nT s < 12
    · rw [if_pos j] at e'
      cases e'
      have q := sp_ask_ok k
      refine g.addT (g.1.asked (by omega) k) j ?_
      rw [q.2.1]
      exact q.2.2
    · rw [if_neg j] at e'; cases e'
end TLV
