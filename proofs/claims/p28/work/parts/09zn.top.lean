/-! the class itself: what it keeps, what it answers -/
def tn_I (h : tm_H) (a : Nat) (s : tn_St) (l : Int) (x : Int → Int) (z : Int) (st : Int → tn_St) : Prop :=
  h a = some (.inl (8, [.inr (some (a + 1)), .inr (some (a + 51)), .inr (some (a + 101)), .inr (some (a + 353)), .inr (some (a + 407)), .inr (some (a + 440))])) ∧ tn_Q h (a + 1) s ∧ (∃ s', tn_Q h (a + 51) s') ∧ tn_Y h (a + 101) z st ∧ (∃ s' g st' en', tn_D h (a + 353) l x s' g st' en') ∧ (∃ A B Fi T mC mP mT mc rc, tn_Rr h (a + 407) A B Fi T mC mP mT mc rc) ∧ ∃ g : Nat → Int, h (a + 440) = some (.inr (0, 4, .inl g))
abbrev tn_An : Type := Int × Option tn_St
/-- what is kept after an answer: the state, or a new one and the old one in the history -/
def tn_J (h : tm_H) (a : Nat) (l : Int) (x : Int → Int) (z : Int) (st : Int → tn_St) (s : tn_St) : Option tn_St → Prop
  | none => tn_I h a s l x z st
  | some s' => tn_I h a s' l x (tn_hz z) (tn_hs z st s)
section TOP
variable {h : tm_H} {a : Nat} {s : tn_St} {l : Int} {x : Int → Int} {z : Int} {st : Int → tn_St}
theorem tn_I.cg {h' : tm_H} (H : tn_I h a s l x z st) (e : tn_eq a (a + 441) h h') : tn_I h' a s l x z st := by
  obtain ⟨h1, h2, ⟨s2, h3⟩, h4, ⟨s5, g5, t5, n5, h5⟩, ⟨A, B, Fi, T, mC, mP, mT, mc, rc, h6⟩, ⟨g, h7⟩⟩ := H
  exact ⟨by rw [e _ (by omega) (by omega)]; exact h1, h2.cg (e.sub (by omega) (by omega)), ⟨s2, h3.cg (e.sub (by omega) (by omega))⟩, h4.cg (e.sub (by omega) (by omega)), ⟨s5, g5, t5, n5, h5.cg (e.sub (by omega) (by omega))⟩, ⟨A, B, Fi, T, mC, mP, mT, mc, rc, h6.cg (e.sub (by omega) (by omega))⟩, ⟨g, by rw [e _ (by omega) (by omega)]; exact h7⟩⟩
theorem tn_I.gr (H : tn_I h a s l x z st) : tm_gR h 8 0 a = some (a + 1) ∧ tm_gR h 8 1 a = some (a + 51) ∧ tm_gR h 8 2 a = some (a + 101) ∧ tm_gR h 8 3 a = some (a + 353) ∧ tm_gR h 8 4 a = some (a + 407) ∧ tm_gR h 8 5 a = some (a + 440) :=
  ⟨tn_gR (k := 0) H.1 rfl, tn_gR (k := 1) H.1 rfl, tn_gR (k := 2) H.1 rfl, tn_gR (k := 3) H.1 rfl, tn_gR (k := 4) H.1 rfl, tn_gR (k := 5) H.1 rfl⟩
theorem tn_I.g4 (H : tn_I h a s l x z st) : tm_gR h 4 0 (a + 1) = some (a + 1 + 1) ∧ tm_gR h 4 1 (a + 1) = some (a + 1 + 4) ∧ tm_gR h 4 2 (a + 1) = some (a + 1 + 13) := ⟨(tx4_g H.2.1).1, (tx4_g H.2.1).2.1, (tx4_g H.2.1).2.2.1⟩
/-- the state is another -/
theorem tn_I.setS {h' : tm_H} {s' : tn_St} (H : tn_I h a s l x z st) (Q : tn_Q h' (a + 1) s') (f : tn_fr (a + 1) (a + 1 + 50) h h') : tn_I h' a s' l x z st := by
  obtain ⟨h1, h2, ⟨s2, h3⟩, h4, ⟨s5, g5, t5, n5, h5⟩, ⟨A, B, Fi, T, mC, mP, mT, mc, rc, h6⟩, ⟨g, h7⟩⟩ := H
  exact ⟨by rw [f _ (by omega)]; exact h1, Q, ⟨s2, h3.cg (f.off (by omega))⟩, h4.cg (f.off (by omega)), ⟨s5, g5, t5, n5, h5.cg (f.off (by omega))⟩, ⟨A, B, Fi, T, mC, mP, mT, mc, rc, h6.cg (f.off (by omega))⟩, ⟨g, by rw [f _ (by omega)]; exact h7⟩⟩
theorem tn_I.setT {h' : tm_H} {s' : tn_St} (H : tn_I h a s l x z st) (Q : tn_Q h' (a + 51) s') (f : tn_fr (a + 51) (a + 51 + 50) h h') : tn_I h' a s l x z st := by
  obtain ⟨h1, h2, ⟨s2, h3⟩, h4, ⟨s5, g5, t5, n5, h5⟩, ⟨A, B, Fi, T, mC, mP, mT, mc, rc, h6⟩, ⟨g, h7⟩⟩ := H
  exact ⟨by rw [f _ (by omega)]; exact h1, h2.cg (f.off (by omega)), ⟨s', Q⟩, h4.cg (f.off (by omega)), ⟨s5, g5, t5, n5, h5.cg (f.off (by omega))⟩, ⟨A, B, Fi, T, mC, mP, mT, mc, rc, h6.cg (f.off (by omega))⟩, ⟨g, by rw [f _ (by omega)]; exact h7⟩⟩
theorem tn_I.setY {h' : tm_H} {z' : Int} {st' : Int → tn_St} (H : tn_I h a s l x z st) (Y : tn_Y h' (a + 101) z' st') (f : tn_fr (a + 101) (a + 101 + 252) h h') : tn_I h' a s l x z' st' := by
  obtain ⟨h1, h2, ⟨s2, h3⟩, h4, ⟨s5, g5, t5, n5, h5⟩, ⟨A, B, Fi, T, mC, mP, mT, mc, rc, h6⟩, ⟨g, h7⟩⟩ := H
  exact ⟨by rw [f _ (by omega)]; exact h1, h2.cg (f.off (by omega)), ⟨s2, h3.cg (f.off (by omega))⟩, Y, ⟨s5, g5, t5, n5, h5.cg (f.off (by omega))⟩, ⟨A, B, Fi, T, mC, mP, mT, mc, rc, h6.cg (f.off (by omega))⟩, ⟨g, by rw [f _ (by omega)]; exact h7⟩⟩
theorem tn_I.setD {h' : tm_H} {l' : Int} {x' : Int → Int} (H : tn_I h a s l x z st) (D : ∃ s' g st' en', tn_D h' (a + 353) l' x' s' g st' en') (f : tn_fr (a + 353) (a + 353 + 54) h h') : tn_I h' a s l' x' z st := by
  obtain ⟨h1, h2, ⟨s2, h3⟩, h4, ⟨s5, g5, t5, n5, h5⟩, ⟨A, B, Fi, T, mC, mP, mT, mc, rc, h6⟩, ⟨g, h7⟩⟩ := H
  exact ⟨by rw [f _ (by omega)]; exact h1, h2.cg (f.off (by omega)), ⟨s2, h3.cg (f.off (by omega))⟩, h4.cg (f.off (by omega)), D, ⟨A, B, Fi, T, mC, mP, mT, mc, rc, h6.cg (f.off (by omega))⟩, ⟨g, by rw [f _ (by omega)]; exact h7⟩⟩
theorem tn_I.setR {h' : tm_H} {s' : tn_St} {c p p' : Int} (H : tn_I h a s l x z st) (R : tn_Rp h' (a + 407) s' c p p') (f : tn_fr (a + 407) (a + 407 + 33) h h') : tn_I h' a s l x z st := by
  obtain ⟨h1, h2, ⟨s2, h3⟩, h4, ⟨s5, g5, t5, n5, h5⟩, ⟨A, B, Fi, T, mC, mP, mT, mc, rc, h6⟩, ⟨g, h7⟩⟩ := H
  obtain ⟨A', B', Fi', T', mC', mP', mT', h6', _⟩ := R
  exact ⟨by rw [f _ (by omega)]; exact h1, h2.cg (f.off (by omega)), ⟨s2, h3.cg (f.off (by omega))⟩, h4.cg (f.off (by omega)), ⟨s5, g5, t5, n5, h5.cg (f.off (by omega))⟩, ⟨A', B', Fi', T', mC', mP', mT', _, _, h6'⟩, ⟨g, by rw [f _ (by omega)]; exact h7⟩⟩
theorem tn_I.ext {s' : tn_St} (H : tn_I h a s l x z st) (Q : tn_Q h (a + 1) s') : tn_I h a s' l x z st := ⟨H.1, Q, H.2.2⟩
theorem tx8_keep (H : tn_I h a s l x z st) : ∃ h', fX1_keep (a + 101) (a + 1) h = some h' ∧ tn_I h' a s l x (tn_hz z) (tn_hs z st s) ∧ tn_fr a (a + 441) h h' := by
  obtain ⟨h', e, Y, f⟩ := tx1_keep H.2.2.2.1 H.2.1 (by omega)
  exact ⟨h', e, H.setY Y f, f.wide (by omega) (by omega)⟩
theorem tx8_readNow (H : tn_I h a s l x z st) (ok : tn_ok s) : ∃ h', fX8_readNow a h = some (a + 407, h') ∧ tn_I h' a s l x z st ∧ tn_Rp h' (a + 407) s 6 0 0 ∧ tn_fr a (a + 441) h h' := by
  obtain ⟨A, B, Fi, T, mC, mP, mT, mc, rc, h6⟩ := H.2.2.2.2.2.1
  obtain ⟨h', e, R, f⟩ := tx3_read h6 H.2.1 ok (by omega)
  have H' := H.setR R f
  refine ⟨h', ?_, H', R, f.wide (by omega) (by omega)⟩
  simp only [fX8_readNow, tn_th H.1, H.gr.1, H.gr.2.2.2.2.1, Option.bind_some, e, H'.gr.2.2.2.2.1]
/-- the number of marks -/
noncomputable def tn_M (s : tn_St) : Int := tn_s2 (tn_fk s) (tn_sz s) 6 0
def tn_ins (s : tn_St) (c p w : Int) : tn_St := (s.1, (((fun d => if d = c then tn_sz s c + 1 else tn_sz s d), (fun d i => if d = c then (if i < p then tn_wd s c i else if i = p then w else tn_wd s c (i - 1)) else tn_wd s d i)), s.2.2))
def sp_insert (s : tn_St) (c p w : Int) : tn_An := if 0 ≤ c ∧ c < 6 ∧ 0 ≤ p ∧ p ≤ tn_sz s c ∧ 0 ≤ w ∧ w < tn_n s then (if tn_sz s c < 40 then (tn_sz s c + 1, some (tn_ins s c p w)) else (-3, none)) else (-1, none)
theorem tx8_insert (H : tn_I h a s l x z st) (ok : tn_ok s) (c p w : Int) : ∃ h', fX8_insert a c p w h = some ((sp_insert s c p w).1, h') ∧ tn_J h' a l x z st s (sp_insert s c p w).2 ∧ tn_fr a (a + 441) h h' := by
  simp only [fX8_insert, tn_th H.1, H.gr.1, H.g4.2.1, H.g4.1, Option.bind_some, tx0_has H.2.1.2.1, H.gr.2.2.1]
  unfold sp_insert
  by_cases c1 : 0 ≤ c ∧ c < 6
  · rw [tn_b1 c1, if_neg (by omega), tx0_lengthOf H.2.1.2.1 c1, Option.bind_some]
    by_cases c2 : p < 0
    · rw [if_pos c2, if_neg (by omega)]
      exact ⟨h, rfl, H, tn_fr.rf⟩
    · rw [if_neg c2]
      by_cases c3 : tn_sz s c < p
      · rw [if_pos c3, if_neg (by omega)]
        exact ⟨h, rfl, H, tn_fr.rf⟩
      · rw [if_neg c3, tx7_has H.2.1.1, Option.bind_some]
        by_cases c4 : 0 ≤ w ∧ w < tn_n s
        · rw [tn_b1 c4, if_neg (by omega), Option.bind_some, if_pos (show 0 ≤ c ∧ c < 6 ∧ 0 ≤ p ∧ p ≤ tn_sz s c ∧ 0 ≤ w ∧ w < tn_n s by omega)]
          by_cases c5 : tn_sz s c < 40
          · obtain ⟨h1, e1, H1, f1⟩ := tx8_keep H
            obtain ⟨h2, e2, C2, f2⟩ := tx0_put H1.2.1.2.1 (w := w) c1 (p := p) (by omega) c5
            have H2 := H1.setS (H1.2.1.setC C2 f2) (f2.wide (by omega) (by omega))
            rw [if_pos c5, if_pos c5, e1, Option.bind_some, e2, Option.bind_some, tx0_lengthOf H2.2.1.2.1 c1, Option.bind_some]
            refine ⟨h2, ?_, H2, f1.tr (f2.wide (by omega) (by omega))⟩
            show some ((if c = c then tn_sz s c + 1 else tn_sz s c), h2) = _
            rw [if_pos rfl]
          · rw [if_neg c5, if_neg c5]
            exact ⟨h, rfl, H, tn_fr.rf⟩
        · rw [tn_b0 c4, if_pos rfl, if_neg (by omega)]
          exact ⟨h, rfl, H, tn_fr.rf⟩
  · rw [tn_b0 c1, if_pos rfl, if_neg (by omega)]
    exact ⟨h, rfl, H, tn_fr.rf⟩
def tn_del (s : tn_St) (c p q : Int) : tn_St := (s.1, (((fun d => if d = c then tn_sz s c - (q - p + 1) else tn_sz s d), (fun d i => if d = c then (if i < p then tn_wd s c i else tn_wd s c (i + (q - p + 1))) else tn_wd s d i)), s.2.2))
def sp_delete (s : tn_St) (c p q : Int) : tn_An := if 0 ≤ c ∧ c < 6 ∧ 0 ≤ p ∧ p ≤ q ∧ q < tn_sz s c then (tn_sz s c - (q - p + 1), some (tn_del s c p q)) else (-1, none)
theorem tx8_delete (H : tn_I h a s l x z st) (ok : tn_ok s) (c p q : Int) : ∃ h', fX8_delete a c p q h = some ((sp_delete s c p q).1, h') ∧ tn_J h' a l x z st s (sp_delete s c p q).2 ∧ tn_fr a (a + 441) h h' := by
  simp only [fX8_delete, tn_th H.1, H.gr.1, H.g4.2.1, Option.bind_some, tx0_hasPlace H.2.1.2.1, H.gr.2.2.1]
  unfold sp_delete
  by_cases c1 : 0 ≤ c ∧ c < 6 ∧ 0 ≤ p ∧ p < tn_sz s c
  · rw [tn_b1 c1, if_neg (by omega)]
    by_cases c2 : 0 ≤ c ∧ c < 6 ∧ 0 ≤ q ∧ q < tn_sz s c
    · rw [tn_b1 c2, if_neg (by omega)]
      by_cases c3 : q < p
      · rw [if_pos c3, if_neg (by omega)]
        exact ⟨h, rfl, H, tn_fr.rf⟩
      · obtain ⟨h1, e1, H1, f1⟩ := tx8_keep H
        obtain ⟨h2, e2, C2, f2⟩ := tx0_cut H1.2.1.2.1 (c := c) (by omega) (p := p) (q := q) (by omega)
        have H2 := H1.setS (H1.2.1.setC C2 f2) (f2.wide (by omega) (by omega))
        rw [if_neg c3, if_pos (show 0 ≤ c ∧ c < 6 ∧ 0 ≤ p ∧ p ≤ q ∧ q < tn_sz s c by omega), e1, Option.bind_some, e2, Option.bind_some, tx0_lengthOf H2.2.1.2.1 (c := c) (by omega), Option.bind_some]
        refine ⟨h2, ?_, H2, f1.tr (f2.wide (by omega) (by omega))⟩
        show some ((if c = c then tn_sz s c - (q - p + 1) else tn_sz s c), h2) = _
        rw [if_pos rfl]
    · rw [tn_b0 c2, if_pos rfl, if_neg (by omega)]
      exact ⟨h, rfl, H, tn_fr.rf⟩
  · rw [tn_b0 c1, if_pos rfl, if_neg (by omega)]
    exact ⟨h, rfl, H, tn_fr.rf⟩
def tn_rep (s : tn_St) (w o : Int) : tn_St := (s.1, ((tn_sz s, (fun d i => if tn_wd s d i = w then o else tn_wd s d i)), s.2.2))
noncomputable def sp_replace (s : tn_St) (w o : Int) : tn_An := if 0 ≤ w ∧ w < tn_n s ∧ 0 ≤ o ∧ o < tn_n s ∧ w ≠ o then (tn_nt (tn_sz s) (tn_wd s) w 6, some (tn_rep s w o)) else (-1, none)
theorem tx8_replace (H : tn_I h a s l x z st) (ok : tn_ok s) (w o : Int) : ∃ h', fX8_replace a w o h = some ((sp_replace s w o).1, h') ∧ tn_J h' a l x z st s (sp_replace s w o).2 ∧ tn_fr a (a + 441) h h' := by
  simp only [fX8_replace, tn_th H.1, H.gr.1, H.g4.1, Option.bind_some, tx7_has H.2.1.1, H.gr.2.2.1]
  unfold sp_replace
  by_cases c1 : 0 ≤ w ∧ w < tn_n s
  · rw [tn_b1 c1, if_neg (by omega)]
    by_cases c2 : 0 ≤ o ∧ o < tn_n s
    · rw [tn_b1 c2, if_neg (by omega)]
      by_cases c3 : w = o
      · rw [if_pos c3, if_neg (by omega)]
        exact ⟨h, rfl, H, tn_fr.rf⟩
      · obtain ⟨h1, e1, H1, f1⟩ := tx8_keep H
        obtain ⟨h2, e2, C2, f2⟩ := tx0_exchange H1.2.1.2.1 w o
        have H2 := H1.setS (H1.2.1.setC C2 f2) (f2.wide (by omega) (by omega))
        rw [if_neg c3, if_pos (show 0 ≤ w ∧ w < tn_n s ∧ 0 ≤ o ∧ o < tn_n s ∧ w ≠ o by omega), e1, Option.bind_some, H1.gr.1, Option.bind_some, H1.g4.2.1, Option.bind_some, e2, Option.bind_some]
        exact ⟨h2, rfl, H2, f1.tr (f2.wide (by omega) (by omega))⟩
    · rw [tn_b0 c2, if_pos rfl, if_neg (by omega)]
      exact ⟨h, rfl, H, tn_fr.rf⟩
  · rw [tn_b0 c1, if_pos rfl, if_neg (by omega)]
    exact ⟨h, rfl, H, tn_fr.rf⟩
def tn_swp (s : tn_St) (c d : Int) : tn_St := (s.1, (((fun e => tn_sz s (tn_pi c d e)), (fun e => tn_wd s (tn_pi c d e))), s.2.2))
theorem tn_ok.swp (ok : tn_ok s) {c d : Int} (hc : 0 ≤ c ∧ c < 6) (hd : 0 ≤ d ∧ d < 6) : tn_ok (tn_swp s c d) := by
  obtain ⟨h1, h2, h3, h4, h5⟩ := ok
  refine ⟨h1, h2, h3, fun e e0 e1 => ?_, h5⟩
  obtain ⟨q0, q1⟩ := tn_pi_rg hc hd ⟨e0, e1⟩
  exact h4 _ q0 q1
noncomputable def sp_swap (s : tn_St) (c d : Int) : tn_An := if 0 ≤ c ∧ c < 6 ∧ 0 ≤ d ∧ d < 6 then (tn_M (tn_swp s c d), some (tn_swp s c d)) else (-1, none)
theorem tx8_swap (H : tn_I h a s l x z st) (ok : tn_ok s) (c d : Int) : ∃ h', fX8_swap a c d h = some ((sp_swap s c d).1, h') ∧ tn_J h' a l x z st s (sp_swap s c d).2 ∧ tn_fr a (a + 441) h h' := by
  simp only [fX8_swap, tn_th H.1, H.gr.1, H.g4.2.1, Option.bind_some, tx0_has H.2.1.2.1, H.gr.2.2.1]
  unfold sp_swap
  by_cases c1 : 0 ≤ c ∧ c < 6
  · rw [tn_b1 c1, if_neg (by omega)]
    by_cases c2 : 0 ≤ d ∧ d < 6
    · obtain ⟨h1, e1, H1, f1⟩ := tx8_keep H
      obtain ⟨h2, e2, C2, f2⟩ := tx0_trade H1.2.1.2.1 c1 c2
      have H2 : tn_I h2 a (tn_swp s c d) l x (tn_hz z) (tn_hs z st s) := H1.setS (H1.2.1.setC C2 f2) (f2.wide (by omega) (by omega))
      obtain ⟨h3, e3, H3, R3, f3⟩ := tx8_readNow H2 (ok.swp c1 c2)
      rw [tn_b1 c2, if_neg (by omega), if_pos (show 0 ≤ c ∧ c < 6 ∧ 0 ≤ d ∧ d < 6 by omega), e1, Option.bind_some, H1.gr.1, Option.bind_some, H1.g4.2.1, Option.bind_some, e2, Option.bind_some, e3, Option.bind_some]
      dsimp only
      rw [tx3_markCount R3, Option.bind_some]
      exact ⟨h3, rfl, H3, (f1.tr (f2.wide (by omega) (by omega))).tr f3⟩
    · rw [tn_b0 c2, if_pos rfl, if_neg (by omega)]
      exact ⟨h, rfl, H, tn_fr.rf⟩
  · rw [tn_b0 c1, if_pos rfl, if_neg (by omega)]
    exact ⟨h, rfl, H, tn_fr.rf⟩
def tn_drp (s : tn_St) (d : Int) : tn_St := (s.1, (s.2.1, ((tn_nT s - 1, ((fun t => tn_tl s (if t < d then t else t + 1)), ((fun t => tn_tw s (if t < d then t else t + 1)), (fun t => tn_tq s (if t < d then t else t + 1))))), s.2.2.2)))
theorem tn_ok.drp (ok : tn_ok s) {d : Int} (hd : 0 ≤ d ∧ d < tn_nT s) : tn_ok (tn_drp s d) := by
  obtain ⟨h1, h2, h3, h4, h5, h6, h7, h8⟩ := ok
  refine ⟨h1, h2, h3, h4, by show 0 ≤ tn_nT s - 1; omega, by show tn_nT s - 1 ≤ 13; omega, fun t t0 t1 => ?_, h8⟩
  have t1' : t < tn_nT s - 1 := t1
  exact h7 (if t < d then t else t + 1) (by split <;> omega) (by split <;> omega)
def sp_remove (s : tn_St) (d : Int) : tn_An := if 0 ≤ d ∧ d < tn_nT s then (tn_nT s - 1, some (tn_drp s d)) else (-1, none)
theorem tx8_remove (H : tn_I h a s l x z st) (ok : tn_ok s) (d : Int) : ∃ h', fX8_removeTerm a d h = some ((sp_remove s d).1, h') ∧ tn_J h' a l x z st s (sp_remove s d).2 ∧ tn_fr a (a + 441) h h' := by
  simp only [fX8_removeTerm, tn_th H.1, H.gr.1, H.g4.2.2, Option.bind_some, tx5_has H.2.1.2.2.1, H.gr.2.2.1]
  unfold sp_remove
  by_cases c1 : 0 ≤ d ∧ d < tn_nT s
  · obtain ⟨h1, e1, H1, f1⟩ := tx8_keep H
    obtain ⟨h2, e2, T2, f2⟩ := tx5_drop H1.2.1.2.2.1 c1
    have H2 := H1.setS (H1.2.1.setT T2 f2) (f2.wide (by omega) (by omega))
    rw [tn_b1 c1, if_neg (by omega), if_pos c1, e1, Option.bind_some, H1.gr.1, Option.bind_some, H1.g4.2.2, Option.bind_some, e2, Option.bind_some, H2.gr.1, Option.bind_some, H2.g4.2.2, Option.bind_some, tx5_size H2.2.1.2.2.1, Option.bind_some]
    exact ⟨h2, rfl, H2, f1.tr (f2.wide (by omega) (by omega))⟩
  · rw [tn_b0 c1, if_pos rfl, if_neg c1]
    exact ⟨h, rfl, H, tn_fr.rf⟩
def tn_hsh (s : tn_St) (t v : Int) : tn_St := (s.1, (s.2.1, ((tn_nT s, (tn_tl s, (tn_tw s, (fun u => if u = t then v else tn_tq s u)))), s.2.2.2)))
theorem tn_ok.hsh (ok : tn_ok s) {t v : Int} (hv : v = 0 ∨ v = 1) : tn_ok (tn_hsh s t v) := by
  obtain ⟨h1, h2, h3, h4, h5, h6, h7, h8⟩ := ok
  refine ⟨h1, h2, h3, h4, h5, h6, fun u u0 u1 => ?_, h8⟩
  obtain ⟨q1, q2, q3, q4⟩ := h7 u u0 u1
  refine ⟨q1, q2, ?_, q4⟩
  show (if u = t then v else tn_tq s u) = 0 ∨ (if u = t then v else tn_tq s u) = 1
  split
  · exact hv
  · exact q3
noncomputable def sp_quiet (s : tn_St) (t v : Int) : tn_An := if 0 ≤ t ∧ t < tn_nT s ∧ 0 ≤ v ∧ v ≤ 1 then (tn_M (tn_hsh s t v), some (tn_hsh s t v)) else (-1, none)
theorem tx8_quiet (H : tn_I h a s l x z st) (ok : tn_ok s) (t v : Int) : ∃ h', fX8_setQuiet a t v h = some ((sp_quiet s t v).1, h') ∧ tn_J h' a l x z st s (sp_quiet s t v).2 ∧ tn_fr a (a + 441) h h' := by
  simp only [fX8_setQuiet, tn_th H.1, H.gr.1, H.g4.2.2, Option.bind_some, tx5_has H.2.1.2.2.1, H.gr.2.2.1]
  unfold sp_quiet
  by_cases c1 : 0 ≤ t ∧ t < tn_nT s
  · rw [tn_b1 c1, if_neg (by omega)]
    by_cases c2 : v < 0
    · rw [if_pos c2, if_neg (by omega)]
      exact ⟨h, rfl, H, tn_fr.rf⟩
    · by_cases c3 : 1 < v
      · rw [if_neg c2, if_pos c3, if_neg (by omega)]
        exact ⟨h, rfl, H, tn_fr.rf⟩
      · have hv : v = 0 ∨ v = 1 := by omega
        obtain ⟨h1, e1, H1, f1⟩ := tx8_keep H
        obtain ⟨h2, e2, T2, f2⟩ := tx5_hush H1.2.1.2.2.1 c1 hv
        have H2 : tn_I h2 a (tn_hsh s t v) l x (tn_hz z) (tn_hs z st s) := H1.setS (H1.2.1.setT T2 f2) (f2.wide (by omega) (by omega))
        obtain ⟨h3, e3, H3, R3, f3⟩ := tx8_readNow H2 (ok.hsh hv)
        rw [if_neg c2, if_neg c3, if_pos (show 0 ≤ t ∧ t < tn_nT s ∧ 0 ≤ v ∧ v ≤ 1 by omega), e1, Option.bind_some, H1.gr.1, Option.bind_some, H1.g4.2.2, Option.bind_some]
        refine ⟨h3, ?_, H3, (f1.tr (f2.wide (by omega) (by omega))).tr f3⟩
        rcases hv with c | c
        · subst c
          rw [if_neg (by omega)]
          simp only [fX8_setQuiet_L54, e2, Option.bind_some, e3, tx3_markCount R3]
          rfl
        · subst c
          rw [if_pos rfl]
          simp only [fX8_setQuiet_L54, e2, Option.bind_some, e3, tx3_markCount R3]
          rfl
  · rw [tn_b0 c1, if_pos rfl, if_neg (by omega)]
    exact ⟨h, rfl, H, tn_fr.rf⟩
noncomputable def sp_base (s : tn_St) (w b : Int) : tn_An := if 0 ≤ w ∧ w < tn_n s ∧ 0 ≤ b ∧ b < tn_n s then @ite _ (tn_may s w b) (Classical.propDecidable _) (tn_bs s w, some (tn_setB s w b)) (-2, none) else (-1, none)
theorem tx8_setBase (H : tn_I h a s l x z st) (ok : tn_ok s) (w b : Int) : ∃ h', fX8_setBase a w b h = some ((sp_base s w b).1, h') ∧ tn_J h' a l x z st s (sp_base s w b).2 ∧ tn_fr a (a + 441) h h' := by
  simp only [fX8_setBase, tn_th H.1, H.gr.1, H.g4.1, Option.bind_some, tx7_has H.2.1.1, H.gr.2.2.1]
  unfold sp_base
  by_cases c1 : 0 ≤ w ∧ w < tn_n s
  · rw [tn_b1 c1, if_neg (by omega)]
    by_cases c2 : 0 ≤ b ∧ b < tn_n s
    · obtain ⟨h0, e0, Q0, f0⟩ := tx4_may H.2.1 ok c1 c2
      have H0 := H.setS Q0 f0
      rw [tn_b1 c2, if_neg (by omega), if_pos (show 0 ≤ w ∧ w < tn_n s ∧ 0 ≤ b ∧ b < tn_n s by omega), e0, Option.bind_some]
      by_cases c3 : tn_may s w b
      · obtain ⟨h1, e1, H1, f1⟩ := tx8_keep H0
        obtain ⟨h2, e2, W2, f2⟩ := tx7_putBase H1.2.1.1 c1 c2
        have H2 := H1.setS (H1.2.1.setW W2 f2) (f2.wide (by omega) (by omega))
        rw [tn_b1 c3, if_neg (by omega), if_pos c3, H0.gr.2.2.1, Option.bind_some, H0.gr.1, Option.bind_some, e1, Option.bind_some, H1.gr.1, Option.bind_some, H1.g4.1, Option.bind_some, tx7_base H1.2.1.1 c1, Option.bind_some, Option.bind_some, H1.g4.1, Option.bind_some, e2, Option.bind_some]
        exact ⟨h2, rfl, H2, ((f0.wide (by omega) (by omega)).tr f1).tr (f2.wide (by omega) (by omega))⟩
      · rw [tn_b0 c3, if_pos rfl, if_neg c3]
        exact ⟨h0, rfl, H0, f0.wide (by omega) (by omega)⟩
    · rw [tn_b0 c2, if_pos rfl, if_neg (by omega)]
      exact ⟨h, rfl, H, tn_fr.rf⟩
  · rw [tn_b0 c1, if_pos rfl, if_neg (by omega)]
    exact ⟨h, rfl, H, tn_fr.rf⟩
def tn_tak (s : tn_St) (y : Int) : tn_St := (s.1, (s.2.1, (s.2.2.1, ((fun i => if i = y then 1 else tn_tk s i), ((fun i => if i = y then tn_sz s else tn_zs s i), (fun i => if i = y then tn_wd s else tn_zw s i))))))
def sp_take (s : tn_St) (y : Int) : tn_An := if 0 ≤ y ∧ y < 2 then (tn_sm (tn_sz s) 6, some (tn_tak s y)) else (-1, none)
theorem tx8_take (H : tn_I h a s l x z st) (ok : tn_ok s) (y : Int) : ∃ h', fX8_take a y h = some ((sp_take s y).1, h') ∧ tn_J h' a l x z st s (sp_take s y).2 ∧ tn_fr a (a + 441) h h' := by
  simp only [fX8_take, tn_th H.1, H.gr.1, Option.bind_some, tx4_hasSlot H.2.1, H.gr.2.2.1]
  unfold sp_take
  by_cases c1 : 0 ≤ y ∧ y < 2
  · obtain ⟨h1, e1, H1, f1⟩ := tx8_keep H
    obtain ⟨h2, e2, Q2, f2⟩ := tx4_keep H1.2.1 c1
    have H2 := H1.setS Q2 f2
    rw [tn_b1 c1, if_neg (by omega), if_pos c1, e1, Option.bind_some, H1.gr.1, Option.bind_some, e2, Option.bind_some, H2.gr.1, Option.bind_some, H2.g4.2.1, Option.bind_some, tx0_total H2.2.1.2.1, Option.bind_some]
    exact ⟨h2, rfl, H2, f1.tr (f2.wide (by omega) (by omega))⟩
  · rw [tn_b0 c1, if_pos rfl, if_neg c1]
    exact ⟨h, rfl, H, tn_fr.rf⟩
def tn_bri (s : tn_St) (y : Int) : tn_St := (s.1, ((tn_zs s y, tn_zw s y), s.2.2))
def sp_restore (s : tn_St) (y : Int) : tn_An := if 0 ≤ y ∧ y < 2 then (if tn_tk s y = 0 then (-2, none) else (tn_sm (tn_zs s y) 6, some (tn_bri s y))) else (-1, none)
theorem tx8_restore (H : tn_I h a s l x z st) (ok : tn_ok s) (y : Int) : ∃ h', fX8_restore a y h = some ((sp_restore s y).1, h') ∧ tn_J h' a l x z st s (sp_restore s y).2 ∧ tn_fr a (a + 441) h h' := by
  simp only [fX8_restore, tn_th H.1, H.gr.1, Option.bind_some, tx4_hasSlot H.2.1, H.gr.2.2.1]
  unfold sp_restore
  by_cases c1 : 0 ≤ y ∧ y < 2
  · rw [tn_b1 c1, if_neg (by omega), if_pos c1, tx4_isTaken H.2.1 c1, Option.bind_some]
    have k := (tx4_tk H.2.1 c1).2
    by_cases c2 : tn_tk s y = 0
    · rw [if_pos c2, if_pos c2]
      exact ⟨h, rfl, H, tn_fr.rf⟩
    · obtain ⟨h1, e1, H1, f1⟩ := tx8_keep H
      obtain ⟨h2, e2, Q2, f2⟩ := tx4_bring H1.2.1 c1 (by omega)
      have H2 := H1.setS Q2 f2
      rw [if_neg c2, if_neg c2, e1, Option.bind_some, H1.gr.1, Option.bind_some, e2, Option.bind_some, H2.gr.1, Option.bind_some, H2.g4.2.1, Option.bind_some, tx0_total H2.2.1.2.1, Option.bind_some]
      exact ⟨h2, rfl, H2, f1.tr (f2.wide (by omega) (by omega))⟩
  · rw [tn_b0 c1, if_pos rfl, if_neg c1]
    exact ⟨h, rfl, H, tn_fr.rf⟩
end TOP
