/-! the class itself, the rest -/
section TOQ
variable {h : tm_H} {a : Nat} {s : tn_St} {l : Int} {x : Int → Int} {z : Int} {st : Int → tn_St}
theorem tx8_undo (H : tn_I h a s l x z st) : (z = 0 → fX8_undo a h = some (-2, h)) ∧ (z ≠ 0 → ∃ h', fX8_undo a h = some (z - 1, h') ∧ tn_I h' a (st (z - 1)) l x (z - 1) st ∧ tn_fr a (a + 441) h h') := by
  have hz := H.2.2.2.1.rg
  simp only [fX8_undo, tn_th H.1, H.gr.1, H.gr.2.2.1, Option.bind_some, tx1_size H.2.2.2.1]
  refine ⟨fun c => by rw [if_pos c], fun c => ?_⟩
  obtain ⟨h1, e1, Y1, Q1, f1⟩ := tx1_give H.2.2.2.1 H.2.1 (by omega) (by omega)
  have H1 : tn_I h1 a (st (z - 1)) l x (z - 1) st := by
    obtain ⟨h1', h2, ⟨s2, h3⟩, h4, ⟨s5, g5, t5, n5, h5⟩, ⟨A, B, Fi, T, mC, mP, mT, mc, rc, h6⟩, ⟨g, h7⟩⟩ := H
    exact ⟨by rw [f1 _ (by omega) (by omega)]; exact h1', Q1, ⟨s2, h3.cg (fun q _ _ => f1 q (by omega) (by omega))⟩, Y1, ⟨s5, g5, t5, n5, h5.cg (fun q _ _ => f1 q (by omega) (by omega))⟩, ⟨A, B, Fi, T, mC, mP, mT, mc, rc, h6.cg (fun q _ _ => f1 q (by omega) (by omega))⟩, ⟨g, by rw [f1 _ (by omega) (by omega)]; exact h7⟩⟩
  rw [if_neg c, e1, Option.bind_some, H1.gr.2.2.1, Option.bind_some, tx1_size Y1, Option.bind_some]
  exact ⟨h1, rfl, H1, fun q hq => f1 q (by omega) (by omega)⟩
theorem tn_I.tx (H : tn_I h a s l x z st) : tm_gR h 2 0 (a + 353) = some (a + 353 + 1) ∧ tn_X h (a + 353 + 1) l x := by
  obtain ⟨s5, g5, t5, n5, h5⟩ := H.2.2.2.2.1
  exact ⟨h5.gg.1, h5.2.1⟩
theorem tn_I.setX {h' : tm_H} {l' : Int} {x' : Int → Int} (H : tn_I h a s l x z st) (X : tn_X h' (a + 353 + 1) l' x') (f : tn_fr (a + 353 + 1) (a + 353 + 1 + 2) h h') : tn_I h' a s l' x' z st := by
  obtain ⟨s5, g5, t5, n5, h5⟩ := H.2.2.2.2.1
  exact H.setD ⟨s5, g5, t5, n5, by rw [f _ (by omega)]; exact h5.1, X, h5.2.2.1.cg (f.off (by omega)), by rw [f _ (by omega)]; exact h5.2.2.2⟩ (f.wide (by omega) (by omega))
theorem tx8_append (H : tn_I h a s l x z st) (v : Int) : (¬ (1 ≤ v ∧ v ≤ 255) → fX8_append a v h = some (-1, h)) ∧ (1 ≤ v ∧ v ≤ 255 → l = 140 → fX8_append a v h = some (-3, h)) ∧ (1 ≤ v ∧ v ≤ 255 → l ≠ 140 → ∃ h', fX8_append a v h = some (l + 1, h') ∧ tn_I h' a s (l + 1) (fun i => if i = l then v else x i) z st ∧ tn_fr a (a + 441) h h') := by
  have hl := H.tx.2.rg
  simp only [fX8_append, tn_th H.1, H.gr.2.2.2.1, H.tx.1, Option.bind_some, tx6_length H.tx.2]
  refine ⟨fun c => ?_, fun c d => ?_, fun c d => ?_⟩
  · by_cases c1 : v < 1
    · rw [if_pos c1]
    · rw [if_neg c1, if_pos (by omega)]
  · rw [if_neg (by omega), if_neg (by omega), if_neg (by omega)]
  · obtain ⟨h1, e1, X1, f1⟩ := tx6_add H.tx.2 (v := v) (by omega) c
    have H1 := H.setX X1 f1
    rw [if_neg (by omega), if_neg (by omega), if_pos (by omega), e1, Option.bind_some, H1.gr.2.2.2.1, Option.bind_some, H1.tx.1, Option.bind_some, tx6_length X1, Option.bind_some]
    exact ⟨h1, rfl, H1, f1.wide (by omega) (by omega)⟩
theorem tn_I.L (H : tn_I h a s l x z st) (ok : tn_ok s) : ∀ d p : Int, 0 ≤ d → d < 6 → 0 ≤ p → tn_L s d p = -99 ∨ 0 ≤ tn_L s d p ∧ tn_L s d p < tn_nT s := tn_L_rg H.2.1 ok
noncomputable def sp_count (s : tn_St) (l z w : Int) : Int := if w = 0 then tn_n s else if w = 1 then tn_sm (tn_sz s) 6 else if w = 2 then tn_nT s else if w = 3 then tn_sm (fun t => tn_b (tn_tq s t ≠ 0)) (tn_nT s).toNat else if w = 4 then tn_M s else if w = 5 then tn_s2 (tn_fq s) (tn_sz s) 6 0 else if w = 6 then tn_sm (fun v => tn_b (tn_bs s v ≠ v)) (tn_n s).toNat else if w = 7 then tn_tk s 0 + tn_tk s 1 else if w = 8 then z else if w = 9 then l else -1
theorem tx8_count (H : tn_I h a s l x z st) (ok : tn_ok s) (w : Int) : ∃ h', fX8_count a w h = some (sp_count s l z w, h') ∧ tn_I h' a s l x z st ∧ tn_fr a (a + 441) h h' := by
  obtain ⟨h1, e1, H1, R1, f1⟩ := tx8_readNow H ok
  simp only [fX8_count, tn_th H.1, H.gr.1, H.gr.2.2.1, H.gr.2.2.2.1, H.g4.1, H.g4.2.1, H.g4.2.2, H.tx.1, Option.bind_some, tx7_size H.2.1.1, tx0_total H.2.1.2.1, tx5_size H.2.1.2.2.1, tx5_quietCount H.2.1.2.2.1, e1, tx3_markCount R1, tx3_readingCount R1, tx7_formCount H.2.1.1, tx4_takenCount H.2.1, tx1_size H.2.2.2.1, tx6_length H.tx.2]
  unfold sp_count
  have no : ∀ v : Int, ∃ h', some (v, h) = some (v, h') ∧ tn_I h' a s l x z st ∧ tn_fr a (a + 441) h h' := fun v => ⟨h, rfl, H, tn_fr.rf⟩
  have ye : ∀ v : Int, ∃ h', some (v, h1) = some (v, h') ∧ tn_I h' a s l x z st ∧ tn_fr a (a + 441) h h' := fun v => ⟨h1, rfl, H1, f1⟩
  by_cases c0 : w = 0
  · simp only [if_pos c0]; exact no _
  · simp only [if_neg c0]
    by_cases c1 : w = 1
    · simp only [if_pos c1]; exact no _
    · simp only [if_neg c1]
      by_cases c2 : w = 2
      · simp only [if_pos c2]; exact no _
      · simp only [if_neg c2]
        by_cases c3 : w = 3
        · simp only [if_pos c3]; exact no _
        · simp only [if_neg c3]
          by_cases c4 : w = 4
          · simp only [if_pos c4]; exact ye _
          · simp only [if_neg c4]
            by_cases c5 : w = 5
            · simp only [if_pos c5]; exact ye _
            · simp only [if_neg c5]
              by_cases c6 : w = 6
              · simp only [if_pos c6]; exact no _
              · simp only [if_neg c6]
                by_cases c7 : w = 7
                · simp only [if_pos c7]; exact no _
                · simp only [if_neg c7]
                  by_cases c8 : w = 8
                  · simp only [if_pos c8]; exact no _
                  · simp only [if_neg c8]
                    by_cases c9 : w = 9
                    · simp only [if_pos c9]; exact no _
                    · simp only [if_neg c9]; exact no _
def sp_letter (s : tn_St) (w i : Int) : Int := if 0 ≤ w ∧ w < tn_n s ∧ 0 ≤ i then (if i < 8 then (if tn_by (tn_sp s w) i = 0 then -99 else tn_by (tn_sp s w) i) else -99) else -1
theorem tx8_letter (H : tn_I h a s l x z st) (w i : Int) : fX8_letter a w i h = some (sp_letter s w i) := by
  simp only [fX8_letter, tn_th H.1, H.gr.1, H.g4.1, Option.bind_some, tx7_has H.2.1.1]
  unfold sp_letter
  by_cases c : 0 ≤ w ∧ w < tn_n s
  · rw [tn_b1 c, if_neg (by omega)]
    by_cases d : i < 0
    · rw [if_pos d, if_neg (by omega)]
    · rw [if_neg d, if_pos (show 0 ≤ w ∧ w < tn_n s ∧ 0 ≤ i by omega), tx7_letterAt H.2.1.1 c (by omega), Option.bind_some]
  · rw [tn_b0 c, if_pos rfl, if_neg (by omega)]
def sp_bs (s : tn_St) (w : Int) : Int := if 0 ≤ w ∧ w < tn_n s then tn_bs s w else -1
theorem tx8_base (H : tn_I h a s l x z st) (w : Int) : fX8_base a w h = some (sp_bs s w) := by
  simp only [fX8_base, tn_th H.1, H.gr.1, H.g4.1, Option.bind_some, tx7_has H.2.1.1]
  unfold sp_bs
  by_cases c : 0 ≤ w ∧ w < tn_n s
  · rw [tn_b1 c, if_neg (by omega), if_pos c, tx7_base H.2.1.1 c, Option.bind_some]
  · rw [tn_b0 c, if_pos rfl, if_neg c]
noncomputable def sp_place (s : tn_St) (c p w : Int) : Int := if 0 ≤ c ∧ c < 6 ∧ 0 ≤ p ∧ 0 ≤ w ∧ w ≤ 3 then (if p < tn_sz s c then (if w = 0 then tn_wd s c p else if w = 1 then tn_ov (tn_L s c) (tn_w s) p else if w = 2 then tn_wh (tn_L s c) (tn_w s) p else tn_b (tn_mk (tn_L s c) (tn_w s) (tn_tq s) p)) else -99) else -1
theorem tx8_place (H : tn_I h a s l x z st) (ok : tn_ok s) (c p w : Int) : ∃ h', fX8_place a c p w h = some (sp_place s c p w, h') ∧ tn_I h' a s l x z st ∧ tn_fr a (a + 441) h h' := by
  obtain ⟨h1, e1, H1, R1, f1⟩ := tx8_readNow H ok
  simp only [fX8_place, tn_th H.1, H.gr.1, H.g4.2.1, Option.bind_some, tx0_has H.2.1.2.1, tx0_hasPlace H.2.1.2.1, e1]
  unfold sp_place
  by_cases c1 : 0 ≤ c ∧ c < 6
  · rw [tn_b1 c1, if_neg (by omega)]
    by_cases c2 : p < 0
    · rw [if_pos c2, if_neg (by omega)]; exact ⟨h, rfl, H, tn_fr.rf⟩
    · rw [if_neg c2]
      by_cases c3 : w < 0
      · rw [if_pos c3, if_neg (by omega)]; exact ⟨h, rfl, H, tn_fr.rf⟩
      · rw [if_neg c3]
        by_cases c4 : 3 < w
        · rw [if_pos c4, if_neg (by omega)]; exact ⟨h, rfl, H, tn_fr.rf⟩
        · rw [if_neg c4]
          rw [if_pos (show 0 ≤ c ∧ c < 6 ∧ 0 ≤ p ∧ 0 ≤ w ∧ w ≤ 3 by omega)]
          by_cases c5 : p < tn_sz s c
          · have hp : 0 ≤ p ∧ p < tn_sz s c := by omega
            rw [tn_b1 (show 0 ≤ c ∧ c < 6 ∧ 0 ≤ p ∧ p < tn_sz s c by omega), if_neg (by omega), if_pos c5, tx0_wordAt H.2.1.2.1 c1 hp, tx3_termOver R1 ok c1 hp, tx3_stepOver R1 ok c1 hp, tx3_hasMark R1 ok (H.L ok) c1 hp]
            simp only [Option.bind_some]
            by_cases w0 : w = 0
            · simp only [if_pos w0]; exact ⟨h, rfl, H, tn_fr.rf⟩
            · simp only [if_neg w0]
              by_cases w1 : w = 1
              · simp only [if_pos w1]; exact ⟨h1, rfl, H1, f1⟩
              · simp only [if_neg w1]
                by_cases w2 : w = 2
                · simp only [if_pos w2]; exact ⟨h1, rfl, H1, f1⟩
                · simp only [if_neg w2]
                  by_cases m : tn_mk (tn_L s c) (tn_w s) (tn_tq s) p
                  · rw [tn_b1 m, if_neg (by omega)]; exact ⟨h1, rfl, H1, f1⟩
                  · rw [tn_b0 m, if_pos rfl]; exact ⟨h1, rfl, H1, f1⟩
          · rw [tn_b0 (by omega), if_pos rfl, if_neg c5]; exact ⟨h, rfl, H, tn_fr.rf⟩
  · rw [tn_b0 c1, if_pos rfl, if_neg (by omega)]; exact ⟨h, rfl, H, tn_fr.rf⟩
noncomputable def sp_term (s : tn_St) (t w : Int) : Int := if 0 ≤ t ∧ t < tn_nT s then (if w = 0 then tn_tl s t else if w = 1 ∨ w = 2 ∨ w = 3 ∨ w = 4 then (if w - 1 < tn_tl s t then tn_tw s t (w - 1) else -99) else if w = 5 then tn_b (tn_tq s t ≠ 0) else if w = 6 then tn_s2 (tn_fu s t) (tn_sz s) 6 0 else if w = 7 then tn_ot s t 6 else if w = 8 then tn_sm (fun d => tn_b (tn_hm s t d (tn_sz s d))) 6 else -1) else -1
theorem tx8_term (H : tn_I h a s l x z st) (ok : tn_ok s) (t w : Int) : ∃ h', fX8_term a t w h = some (sp_term s t w, h') ∧ tn_I h' a s l x z st ∧ tn_fr a (a + 441) h h' := by
  obtain ⟨h1, e1, H1, R1, f1⟩ := tx8_readNow H ok
  have hn := H.2.1.2.2.1.rg
  simp only [fX8_term, tn_th H.1, H.gr.1, H.g4.2.2, Option.bind_some, tx5_has H.2.1.2.2.1, e1]
  unfold sp_term
  by_cases c1 : 0 ≤ t ∧ t < tn_nT s
  · rw [tn_b1 c1, if_neg (by omega), if_pos c1, tx5_lengthOf H.2.1.2.2.1, if_pos c1, tx5_isQuiet H.2.1.2.2.1 c1, tx3_timesRead R1 (by omega), tx4_occurrences H.2.1 ok c1, tx3_marksOf R1 ok (H.L ok)]
    simp only [Option.bind_some]
    by_cases w0 : w = 0
    · simp only [if_pos w0]; exact ⟨h, rfl, H, tn_fr.rf⟩
    · simp only [if_neg w0]
      have wa : ∀ k : Int, w = k → 1 ≤ k → k ≤ 4 → fX5_wordAt (a + 1 + 13) t (tm_wr (w - 1)) h = some (if w - 1 < tn_tl s t then tn_tw s t (w - 1) else -99) := fun k e k0 k1 => by rw [tm_wr_id (by omega) (by omega), tx5_wordAt H.2.1.2.2.1 c1 (by omega)]
      by_cases w1 : w = 1
      · rw [if_pos w1, wa 1 w1 (by omega) (by omega), Option.bind_some, if_pos (Or.inl w1)]; exact ⟨h, rfl, H, tn_fr.rf⟩
      · rw [if_neg w1]
        by_cases w2 : w = 2
        · rw [if_pos w2, wa 2 w2 (by omega) (by omega), Option.bind_some, if_pos (Or.inr (Or.inl w2))]; exact ⟨h, rfl, H, tn_fr.rf⟩
        · rw [if_neg w2]
          by_cases w3 : w = 3
          · rw [if_pos w3, wa 3 w3 (by omega) (by omega), Option.bind_some, if_pos (Or.inr (Or.inr (Or.inl w3)))]; exact ⟨h, rfl, H, tn_fr.rf⟩
          · rw [if_neg w3]
            by_cases w4 : w = 4
            · rw [if_pos w4, wa 4 w4 (by omega) (by omega), Option.bind_some, if_pos (Or.inr (Or.inr (Or.inr w4)))]; exact ⟨h, rfl, H, tn_fr.rf⟩
            · rw [if_neg w4, if_neg (show ¬ (w = 1 ∨ w = 2 ∨ w = 3 ∨ w = 4) by omega)]
              by_cases w5 : w = 5
              · simp only [if_pos w5]
                by_cases m : tn_tq s t ≠ 0
                · rw [tn_b1 m, if_neg (by omega)]; exact ⟨h, rfl, H, tn_fr.rf⟩
                · rw [tn_b0 m, if_pos rfl]; exact ⟨h, rfl, H, tn_fr.rf⟩
              · simp only [if_neg w5]
                by_cases w6 : w = 6
                · simp only [if_pos w6]; exact ⟨h1, rfl, H1, f1⟩
                · simp only [if_neg w6]
                  by_cases w7 : w = 7
                  · simp only [if_pos w7]; exact ⟨h, rfl, H, tn_fr.rf⟩
                  · simp only [if_neg w7]
                    by_cases w8 : w = 8
                    · simp only [if_pos w8]; exact ⟨h1, rfl, H1, f1⟩
                    · simp only [if_neg w8]; exact ⟨h, rfl, H, tn_fr.rf⟩
  · rw [tn_b0 c1, if_pos rfl, if_neg c1]; exact ⟨h, rfl, H, tn_fr.rf⟩
theorem tx8_firstUse (H : tn_I h a s l x z st) (ok : tn_ok s) (t c : Int) : ∃ r h', fX8_firstUse a t c h = some (r, h') ∧ (0 ≤ t ∧ t < tn_nT s ∧ 0 ≤ c ∧ c < 6 → tn_ff (tn_sz s c) (tn_us (tn_L s c) (tn_w s) t) r) ∧ (¬ (0 ≤ t ∧ t < tn_nT s ∧ 0 ≤ c ∧ c < 6) → r = -1) ∧ tn_I h' a s l x z st ∧ tn_fr a (a + 441) h h' := by
  obtain ⟨h1, e1, H1, R1, f1⟩ := tx8_readNow H ok
  have hn := H.2.1.2.2.1.rg
  simp only [fX8_firstUse, tn_th H.1, H.gr.1, H.g4.2.2, H.g4.2.1, Option.bind_some, tx5_has H.2.1.2.2.1, tx0_has H.2.1.2.1, e1]
  by_cases c1 : 0 ≤ t ∧ t < tn_nT s
  · rw [tn_b1 c1, if_neg (by omega)]
    by_cases c2 : 0 ≤ c ∧ c < 6
    · obtain ⟨r, er, fr⟩ := tx3_firstPlace R1 (t := t) (by omega) c2
      rw [tn_b1 c2, if_neg (by omega), er, Option.bind_some]
      exact ⟨r, h1, rfl, fun _ => fr, fun k => absurd ⟨c1.1, c1.2, c2⟩ k, H1, f1⟩
    · rw [tn_b0 c2, if_pos rfl]
      exact ⟨-1, h, rfl, fun k => absurd k.2.2 c2, fun _ => rfl, H, tn_fr.rf⟩
  · rw [tn_b0 c1, if_pos rfl]
    exact ⟨-1, h, rfl, fun k => absurd ⟨k.1, k.2.1⟩ c1, fun _ => rfl, H, tn_fr.rf⟩
/-- a part of the mark of a number -/
def tn_mp (s : tn_St) (m w r : Int) : Prop := (tn_M s ≤ m ∧ r = -99) ∨ ∃ d q : Int, 0 ≤ d ∧ d < 6 ∧ 0 ≤ q ∧ q < tn_sz s d ∧ tn_mk (tn_L s d) (tn_w s) (tn_tq s) q ∧ tn_s2 (tn_fk s) (tn_sz s) d q = m ∧ r = (if w = 0 then d else if w = 1 then q else tn_L s d q)
theorem tx8_mark (H : tn_I h a s l x z st) (ok : tn_ok s) (m w : Int) : ∃ r h', fX8_mark a m w h = some (r, h') ∧ (0 ≤ m ∧ 0 ≤ w ∧ w ≤ 2 → tn_mp s m w r) ∧ (¬ (0 ≤ m ∧ 0 ≤ w ∧ w ≤ 2) → r = -1) ∧ tn_I h' a s l x z st ∧ tn_fr a (a + 441) h h' := by
  obtain ⟨h1, e1, H1, R1, f1⟩ := tx8_readNow H ok
  simp only [fX8_mark, tn_th H.1, e1, Option.bind_some]
  have no : ¬ (0 ≤ m ∧ 0 ≤ w ∧ w ≤ 2) → ∃ r h', some ((-1 : Int), h) = some (r, h') ∧ (0 ≤ m ∧ 0 ≤ w ∧ w ≤ 2 → tn_mp s m w r) ∧ (¬ (0 ≤ m ∧ 0 ≤ w ∧ w ≤ 2) → r = -1) ∧ tn_I h' a s l x z st ∧ tn_fr a (a + 441) h h' := fun k => ⟨-1, h, rfl, fun y => absurd y k, fun _ => rfl, H, tn_fr.rf⟩
  by_cases c1 : m < 0
  · rw [if_pos c1]; exact no (by omega)
  · rw [if_neg c1]
    by_cases c2 : w < 0
    · rw [if_pos c2]; exact no (by omega)
    · rw [if_neg c2]
      by_cases c3 : 2 < w
      · rw [if_pos c3]; exact no (by omega)
      · rw [if_neg c3]
        rcases tx3_markPart R1 ok (H.L ok) (m := m) (w := w) (by omega) (by omega) with ⟨g1, g2⟩ | ⟨d, q, d0, d1, q0, q1, k1, k2, k3⟩
        · rw [g2, Option.bind_some]
          exact ⟨-99, h1, rfl, fun _ => Or.inl ⟨g1, rfl⟩, fun y => absurd (by omega) y, H1, f1⟩
        · rw [k3, Option.bind_some]
          exact ⟨_, h1, rfl, fun _ => Or.inr ⟨d, q, d0, d1, q0, q1, k1, k2, rfl⟩, fun y => absurd (by omega) y, H1, f1⟩
noncomputable def sp_why (s : tn_St) (c p t : Int) : Int := if 0 ≤ c ∧ c < 6 ∧ 0 ≤ p ∧ p < tn_sz s c ∧ 0 ≤ t ∧ t < tn_nT s then @ite _ (tn_oc s t c p) (Classical.propDecidable _) (if 0 < tn_wh (tn_L s c) (tn_w s) p then 3 else if tn_ov (tn_L s c) (tn_w s) p = t then (if tn_tq s t ≠ 0 then 4 else @ite _ (tn_mk (tn_L s c) (tn_w s) (tn_tq s) p) (Classical.propDecidable _) 0 5) else 2) 1 else -1
theorem tx8_why (H : tn_I h a s l x z st) (ok : tn_ok s) (c p t : Int) : ∃ h', fX8_why a c p t h = some (sp_why s c p t, h') ∧ tn_I h' a s l x z st ∧ tn_fr a (a + 441) h h' := by
  obtain ⟨h1, e1, H1, R1, f1⟩ := tx8_readNow H ok
  have hn := H.2.1.2.2.1.rg
  simp only [fX8_why, tn_th H.1, H.gr.1, H.g4.2.2, H.g4.2.1, Option.bind_some, tx5_has H.2.1.2.2.1, tx0_hasPlace H.2.1.2.1, e1]
  unfold sp_why
  by_cases c1 : 0 ≤ c ∧ c < 6 ∧ 0 ≤ p ∧ p < tn_sz s c
  · rw [tn_b1 c1, if_neg (by omega)]
    have hc : 0 ≤ c ∧ c < 6 := ⟨c1.1, c1.2.1⟩
    have hp : 0 ≤ p ∧ p < tn_sz s c := c1.2.2
    by_cases c2 : 0 ≤ t ∧ t < tn_nT s
    · rw [tn_b1 c2, if_neg (by omega), if_pos (show 0 ≤ c ∧ c < 6 ∧ 0 ≤ p ∧ p < tn_sz s c ∧ 0 ≤ t ∧ t < tn_nT s by omega), tx4_occursAt H.2.1 ok c2 hc hp.1, Option.bind_some]
      by_cases c3 : tn_oc s t c p
      · rw [tn_b1 c3, if_neg (by omega), if_pos c3, tx3_stepOver R1 ok hc hp, Option.bind_some]
        by_cases c4 : 0 < tn_wh (tn_L s c) (tn_w s) p
        · rw [if_pos c4, if_pos c4]; exact ⟨h1, rfl, H1, f1⟩
        · rw [if_neg c4, if_neg c4, tx3_termOver R1 ok hc hp, Option.bind_some]
          by_cases c5 : tn_ov (tn_L s c) (tn_w s) p = t
          · rw [if_pos c5, if_pos c5, H1.gr.1, Option.bind_some, H1.g4.2.2, Option.bind_some, tx5_isQuiet H1.2.1.2.2.1 c2, Option.bind_some]
            by_cases c6 : tn_tq s t ≠ 0
            · rw [tn_b1 c6, if_neg (by omega), if_pos c6]; exact ⟨h1, rfl, H1, f1⟩
            · obtain ⟨r, er, fr⟩ := tx3_firstPlace R1 (t := t) (by omega) hc
              rw [tn_b0 c6, if_pos rfl, if_neg c6, er, Option.bind_some]
              have fm : tn_fm (tn_L s c) (tn_w s) p = p := by
                have q := tn_fm_rg (g := tn_L s c) (w := tn_w s) hp.1
                unfold tn_wh at c4
                rw [if_neg (by omega)] at c4
                omega
              have be : tn_be (tn_L s c) (tn_w s) p := by
                have q := (tn_fm_rg (g := tn_L s c) (w := tn_w s) hp.1).2.2
                rw [fm] at q; exact q
              have us : tn_us (tn_L s c) (tn_w s) t p := ⟨be, by rw [← c5]; unfold tn_ov; rw [fm]⟩
              have iff : r = p ↔ tn_mk (tn_L s c) (tn_w s) (tn_tq s) p := by
                rcases fr with ⟨_, f2⟩ | ⟨f0, f1', f2, f3⟩
                · exact absurd us (f2 p hp.1 hp.2)
                · constructor
                  · intro e
                    refine ⟨be, by rw [us.2]; omega, by rw [us.2]; omega, fun q q0 q1 => ?_⟩
                    rw [us.2]
                    exact f3 q q0 (by omega)
                  · intro k
                    by_cases lt : r < p
                    · have := k.2.2.2 r f0 lt
                      rw [us.2] at this
                      exact absurd f2 this
                    · by_cases gt : p < r
                      · exact absurd us (f3 p hp.1 gt)
                      · omega
              by_cases c7 : r = p
              · rw [if_pos c7, if_pos (iff.mp c7)]; exact ⟨h1, rfl, H1, f1⟩
              · rw [if_neg c7, if_neg (fun k => c7 (iff.mpr k))]; exact ⟨h1, rfl, H1, f1⟩
          · rw [if_neg c5, if_neg c5]; exact ⟨h1, rfl, H1, f1⟩
      · rw [tn_b0 c3, if_pos rfl, if_neg c3]; exact ⟨h, rfl, H, tn_fr.rf⟩
    · rw [tn_b0 c2, if_pos rfl, if_neg (by omega)]; exact ⟨h, rfl, H, tn_fr.rf⟩
  · rw [tn_b0 c1, if_pos rfl, if_neg (by omega)]; exact ⟨h, rfl, H, tn_fr.rf⟩
noncomputable def sp_nested (s : tn_St) (i o : Int) : Int := if 0 ≤ i ∧ i < tn_nT s ∧ 0 ≤ o ∧ o < tn_nT s then tn_sm (fun k => tn_b (tn_wi s i o k)) (tn_tl s o - tn_tl s i + 1).toNat else -1
theorem tx8_nested (H : tn_I h a s l x z st) (ok : tn_ok s) (i o : Int) : fX8_nested a i o h = some (sp_nested s i o) := by
  simp only [fX8_nested, tn_th H.1, H.gr.1, H.g4.2.2, Option.bind_some, tx5_has H.2.1.2.2.1]
  unfold sp_nested
  by_cases c1 : 0 ≤ i ∧ i < tn_nT s
  · rw [tn_b1 c1, if_neg (by omega)]
    by_cases c2 : 0 ≤ o ∧ o < tn_nT s
    · rw [tn_b1 c2, if_neg (by omega), if_pos (show 0 ≤ i ∧ i < tn_nT s ∧ 0 ≤ o ∧ o < tn_nT s by omega), tx4_timesWithin H.2.1 ok c1 c2, Option.bind_some]
    · rw [tn_b0 c2, if_pos rfl, if_neg (by omega)]
  · rw [tn_b0 c1, if_pos rfl, if_neg (by omega)]
end TOQ
