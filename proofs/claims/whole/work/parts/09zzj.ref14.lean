/-! the reference: marks by number, terms, counts -/
theorem tn_mp.uq {s : tn_St} {m w r r' : Int} (a : tn_mp s m w r) (b : tn_mp s m w r') : r = r' := by
  have lt : ∀ d q : Int, 0 ≤ d → d < 6 → 0 ≤ q → q < tn_sz s d → tn_mk (tn_L s d) (tn_w s) (tn_tq s) q → tn_s2 (tn_fk s) (tn_sz s) d q < tn_M s := fun d q d0 d1 q0 q1 k => tn_s2_lt (f := tn_fk s) (sz := tn_sz s) (fun d i => (tn_fk_rg s d i).1) d0 ⟨q0, q1⟩ (Int.le_refl 0) (Or.inl d1) (tn_b1 k)
  rcases a with ⟨a1, a2⟩ | ⟨d, q, d0, d1, q0, q1, k, e, hr⟩
  · rcases b with ⟨b1, b2⟩ | ⟨d', q', d0', d1', q0', q1', k', e', hr'⟩
    · omega
    · have := lt d' q' d0' d1' q0' q1' k'
      omega
  · rcases b with ⟨b1, b2⟩ | ⟨d', q', d0', d1', q0', q1', k', e', hr'⟩
    · have := lt d q d0 d1 q0 q1 k
      omega
    · obtain ⟨x, y⟩ := tn_M_uq d0 q0 d0' q0' q1 q1' k k' (e.trans e'.symm)
      rw [hr, hr', x, y]
theorem tn_s2_km (s : tn_St) (d i : Int) : tn_s2 (tn_fk s) (tn_sz s) d i = tn_s2 (tn_fk s) (tn_sz s) d 0 + tn_km (tn_L s d) (tn_w s) (tn_tq s) i := by
  have : tn_s2 (tn_fk s) (tn_sz s) d 0 = tn_sm (fun d => tn_sm (tn_fk s d) (tn_sz s d).toNat) d.toNat + 0 := rfl
  rw [this, Int.add_zero]
  rfl
section RGA
variable {h : tm_H} {b : Nat} {C0 C : Nat → Nat → Int} {J : Nat → Int} {s : tn_St}
theorem tx9_mk_i (V : tn_V h b C0 J s C) {d m w : Int} (hd : 0 ≤ d ∧ d < 6) (R : tn_ra (tn_L s d) (tn_w s) (tn_tq s) (tn_sz s d) C) (hw : 0 ≤ w ∧ w ≤ 2) (hm : m < 2147483648) (hk : m - tn_s2 (tn_fk s) (tn_sz s) d 0 < tn_km (tn_L s d) (tn_w s) (tn_tq s) (tn_sz s d)) : ∀ (n : Nat) (i : Int), 0 ≤ i → i ≤ tn_sz s d → 0 ≤ m - tn_s2 (tn_fk s) (tn_sz s) d i → (tn_sz s d - i).toNat = n → ∃ r, fX9_mark_L38 b m w (m - tn_s2 (tn_fk s) (tn_sz s) d i) d (tn_km (tn_L s d) (tn_w s) (tn_tq s) (tn_sz s d)) i h = some (r, h) ∧ tn_mp s m w r := by
  have sz := V.2.1.c hd
  have k2 : ∀ i : Int, 0 ≤ i → 0 ≤ tn_s2 (tn_fk s) (tn_sz s) d i := fun i i0 => (tn_s2_rg (f := tn_fk s) (sz := tn_sz s) (c := d) (p := i) (fun d i => tn_fk_rg s d i) (fun d d0 d1 => V.2.1.c ⟨d0, d1⟩) hd.1 (by omega) i0).1
  intro n
  induction n with
  | zero =>
    intro i i0 i1 hx hn
    have := tn_s2_km s d (tn_sz s d)
    rw [show i = tn_sz s d by omega] at hx
    omega
  | succ n ih =>
    intro i i0 i1 hx hn
    obtain ⟨r1, r2, r3⟩ := R i i0 (by omega)
    rw [if_pos (by omega)] at r1 r3
    have kk := (V.km hd i i1).1
    have e := tn_s2_km s d i
    have k2i := k2 i i0
    have su : tn_s2 (tn_fk s) (tn_sz s) d (i + 1) = tn_s2 (tn_fk s) (tn_sz s) d i + tn_b (tn_mk (tn_L s d) (tn_w s) (tn_tq s) i) := tn_s2_p i0
    have nx : 0 ≤ m - tn_s2 (tn_fk s) (tn_sz s) d (i + 1) → ∃ r, fX9_mark_L96 b m w (m - tn_s2 (tn_fk s) (tn_sz s) d i) d (tn_km (tn_L s d) (tn_w s) (tn_tq s) (tn_sz s d)) i h = some (r, h) ∧ tn_mp s m w r := fun h0 => by
      obtain ⟨r, e1, l1⟩ := ih (i + 1) (by omega) (by omega) h0 (by omega)
      refine ⟨r, ?_, l1⟩
      rw [su] at e1 h0
      rw [fX9_mark_L96_eq, V.2.2.2.1.g6.2.2, Option.bind_some, V.2.2.2.1.l8 i0 (by omega), Option.bind_some, r3, fX9_mark_L112_eq, fX9_mark_L112_eq, tm_wr_id (z := i + 1) (by omega) (by omega), tm_wr_id (by omega) (by omega), tm_wr_id (by omega) (by omega)]
      by_cases c : tn_mk (tn_L s d) (tn_w s) (tn_tq s) i
      · rw [tn_b1 c] at e1
        rw [tn_b1 c, if_neg (by omega), Int.sub_sub]
        exact e1
      · rw [tn_b0 c] at e1
        rw [tn_b0 c, if_pos rfl, Int.sub_sub]
        exact e1
    rw [fX9_mark_L38_eq, V.size hd, Option.bind_some, if_pos (by omega), if_pos (by omega), V.2.2.2.1.g6.2.2, Option.bind_some, V.2.2.2.1.l8 i0 (by omega), Option.bind_some, r3]
    by_cases c : tn_mk (tn_L s d) (tn_w s) (tn_tq s) i
    · rw [tn_b1 c] at su
      rw [tn_b1 c, if_neg (by omega)]
      by_cases c0 : m - tn_s2 (tn_fk s) (tn_sz s) d i = 0
      · rw [if_pos c0]
        have mp : ∀ r, r = (if w = 0 then d else if w = 1 then i else tn_L s d i) → tn_mp s m w r := fun r hr => Or.inr ⟨d, i, hd.1, hd.2, i0, by omega, c, by omega, hr⟩
        by_cases w0 : w = 0
        · rw [if_pos w0]
          exact ⟨d, rfl, mp d (by rw [if_pos w0])⟩
        · rw [if_neg w0]
          by_cases w1 : w = 1
          · rw [if_pos w1]
            exact ⟨i, rfl, mp i (by rw [if_neg w0, if_pos w1])⟩
          · rw [if_neg w1, V.2.2.2.1.g6.1, Option.bind_some, V.2.2.2.1.l6 i0 (by omega), Option.bind_some, r1]
            exact ⟨_, rfl, mp _ (by rw [if_neg w0, if_neg w1, tn_ov_be i0 c.1])⟩
      · rw [if_neg c0]
        exact nx (by omega)
    · rw [tn_b0 c] at su
      rw [tn_b0 c, if_pos rfl]
      exact nx (by omega)
theorem tx9_mk_l {m w : Int} (hw : 0 ≤ w ∧ w ≤ 2) (hm : m < 2147483648) : ∀ (n : Nat) (d : Int) (h : tm_H) (C : Nat → Nat → Int), tn_V h b C0 J s C → 0 ≤ d → d ≤ 6 → 0 ≤ m - tn_s2 (tn_fk s) (tn_sz s) d 0 → (6 - d).toNat = n → ∃ r h' C', fX9_mark_L20 b m w (m - tn_s2 (tn_fk s) (tn_sz s) d 0) d h = some (r, h') ∧ tn_mp s m w r ∧ tn_V h' b C0 J s C' ∧ tn_fr b (b + 11) h h' := by
  intro n
  induction n with
  | zero =>
    intro d h C V d0 d1 hx hn
    rw [fX9_mark_L20_eq, if_neg (by omega)]
    refine ⟨-99, h, C, rfl, Or.inl ⟨?_, rfl⟩, V, tn_fr.rf⟩
    rw [show d = 6 by omega] at hx
    unfold tn_M
    omega
  | succ n ih =>
    intro d h C V d0 d1 hx hn
    have hd : 0 ≤ d ∧ d < 6 := ⟨d0, by omega⟩
    have sz := V.2.1.c hd
    obtain ⟨h1, C1, e1, V1, a1, f1⟩ := V.reads hd
    have k2 : 0 ≤ tn_s2 (tn_fk s) (tn_sz s) d 0 := (tn_s2_rg (f := tn_fk s) (sz := tn_sz s) (c := d) (p := 0) (fun d i => tn_fk_rg s d i) (fun d d0 d1 => V.2.1.c ⟨d0, d1⟩) hd.1 (by omega) (by omega)).1
    have kk := V.km hd _ (Int.le_refl _)
    rw [fX9_mark_L20_eq, if_pos (by omega), e1, Option.bind_some]
    dsimp only
    by_cases c : m - tn_s2 (tn_fk s) (tn_sz s) d 0 < tn_km (tn_L s d) (tn_w s) (tn_tq s) (tn_sz s d)
    · obtain ⟨r, e2, l2⟩ := tx9_mk_i V1 (w := w) hd a1 hw hm c _ 0 (by omega) sz.1 hx rfl
      exact ⟨r, h1, C1, e2, l2, V1, f1⟩
    · have e := tn_s2_km s d (tn_sz s d)
      have e' : tn_s2 (tn_fk s) (tn_sz s) (d + 1) 0 = tn_s2 (tn_fk s) (tn_sz s) d (tn_sz s d) := tn_s2_c d0
      obtain ⟨r, h2, C2, e2, l2, V2, f2⟩ := ih (d + 1) h1 C1 V1 (by omega) (by omega) (by omega) (by omega)
      refine ⟨r, h2, C2, ?_, l2, V2, f1.tr f2⟩
      have L120 : fX9_mark_L120 b m w (m - tn_s2 (tn_fk s) (tn_sz s) d 0) d (tn_km (tn_L s d) (tn_w s) (tn_tq s) (tn_sz s d)) h1 = some (r, h2) := by
        rw [fX9_mark_L120_eq, if_neg c, fX9_mark_L133_eq, tm_wr_id (z := d + 1) (by omega) (by omega), tm_wr_id (by omega) (by omega), ← e2, e', e]
        exact congrArg (fun y => fX9_mark_L20 b m w y (d + 1) h1) (by omega)
      rw [fX9_mark_L38_eq, V1.size hd, Option.bind_some, if_neg c, L120]
      split <;> rfl
theorem tx9_mark (V : tn_V h b C0 J s C) (m w : Int) (hm : m < 2147483648) : ∃ r h' C', fX9_mark b m w h = some (r, h') ∧ (0 ≤ m ∧ 0 ≤ w ∧ w ≤ 2 → tn_mp s m w r) ∧ (¬ (0 ≤ m ∧ 0 ≤ w ∧ w ≤ 2) → r = -1) ∧ tn_V h' b C0 J s C' ∧ tn_fr b (b + 11) h h' := by
  simp only [fX9_mark, tn_th V.2.2.2.1.1, tx9_in, Option.bind_some]
  by_cases c1 : m < 0
  · rw [if_pos c1]
    exact ⟨-1, h, C, rfl, fun k => by omega, fun _ => rfl, V, tn_fr.rf⟩
  · rw [if_neg c1]
    by_cases c2 : 0 ≤ w ∧ w ≤ 2
    · rw [tn_b1 c2, if_neg (by omega)]
      have z : tn_s2 (tn_fk s) (tn_sz s) 0 0 = 0 := tn_s2_0
      obtain ⟨r, h1, C1, e1, l1, V1, f1⟩ := tx9_mk_l c2 hm _ 0 h C V (by omega) (by omega) (by omega) rfl
      rw [z, Int.sub_zero] at e1
      exact ⟨r, h1, C1, e1, fun _ => l1, fun k => by omega, V1, f1⟩
    · rw [tn_b0 c2, if_pos rfl]
      exact ⟨-1, h, C, rfl, fun k => by omega, fun _ => rfl, V, tn_fr.rf⟩
theorem tx9_term (V : tn_V h b C0 J s C) (t w : Int) : ∃ h' C', fX9_term b t w h = some (sp_term s t w, h') ∧ tn_V h' b C0 J s C' ∧ tn_fr b (b + 11) h h' := by
  simp only [fX9_term, tn_th V.2.2.2.1.1, V.isTerm, Option.bind_some, tx9_in]
  unfold sp_term
  by_cases c1 : 0 ≤ t ∧ t < tn_nT s
  · have nt := V.nT
    have n12 := V.hnC
    have tl : tn_rl C t = tn_tl s t := by rw [← V.sd]; exact if_neg (by omega)
    have tw : ∀ k, tn_rt C t k = tn_tw s t k := fun k => by rw [← V.sd]; exact if_neg (by omega)
    have tlr := V.2.1.t (t := t) c1
    rw [tn_b1 c1, if_neg (by omega), if_pos c1]
    by_cases c2 : 0 ≤ w ∧ w ≤ 8
    · have ln : fX9_ofTerm b t 0 h = some (tn_tl s t) := by rw [tx9_len V.2.2.2.1 ⟨c1.1, by omega⟩, tl]
      have wr : 1 ≤ w → w ≤ 4 → fX9_ofTerm b t w h = some (tn_tw s t (w - 1)) := fun w1 w4 => by
        have := tx9_wrd V.2.2.2.1 (t := t) (k := w - 1) ⟨c1.1, by omega⟩ (by omega)
        rw [show w - 1 + 1 = w by omega, tw] at this
        exact this
      have wd : w = 1 ∨ w = 2 ∨ w = 3 ∨ w = 4 → (if tn_tl s t < w then some (-99, h) else (fX9_ofTerm b t w h).bind fun v => some (v, h)) = some (if w - 1 < tn_tl s t then tn_tw s t (w - 1) else -99, h) := fun hw => by
        by_cases d : tn_tl s t < w
        · rw [if_pos d, if_neg (by omega)]
        · rw [if_neg d, if_pos (by omega), wr (by omega) (by omega), Option.bind_some]
      rw [tn_b1 c2, if_neg (by omega), ln]
      simp only [Option.bind_some]
      by_cases w0 : w = 0
      · rw [if_pos w0, if_pos w0]
        exact ⟨h, C, rfl, V, tn_fr.rf⟩
      · rw [if_neg w0, if_neg w0]
        by_cases w1 : w = 1
        · rw [if_pos w1, if_pos (Or.inl w1)]
          exact ⟨h, C, wd (by omega), V, tn_fr.rf⟩
        · rw [if_neg w1]
          by_cases w2 : w = 2
          · rw [if_pos w2, if_pos (show w = 1 ∨ w = 2 ∨ w = 3 ∨ w = 4 by omega)]
            exact ⟨h, C, wd (by omega), V, tn_fr.rf⟩
          · rw [if_neg w2]
            by_cases w3 : w = 3
            · rw [if_pos w3, if_pos (show w = 1 ∨ w = 2 ∨ w = 3 ∨ w = 4 by omega)]
              exact ⟨h, C, wd (by omega), V, tn_fr.rf⟩
            · rw [if_neg w3]
              by_cases w4 : w = 4
              · rw [if_pos w4, if_pos (show w = 1 ∨ w = 2 ∨ w = 3 ∨ w = 4 by omega)]
                exact ⟨h, C, wd (by omega), V, tn_fr.rf⟩
              · rw [if_neg w4, if_neg (show ¬ (w = 1 ∨ w = 2 ∨ w = 3 ∨ w = 4) by omega)]
                by_cases w5 : w = 5
                · rw [if_pos w5, if_pos w5, V.quiet c1, Option.bind_some]
                  refine ⟨h, C, ?_, V, tn_fr.rf⟩
                  by_cases k : tn_tq s t = 0
                  · rw [if_pos k, tn_b0 (fun y => y k)]
                  · rw [if_neg k, tn_b1 k]
                · rw [if_neg w5, if_neg w5]
                  by_cases w6 : w = 6
                  · obtain ⟨h1, C1, e1, V1, f1⟩ := tx9_readings V t
                    rw [if_pos w6, if_pos w6, e1, Option.bind_some]
                    dsimp only
                    rw [if_neg (show ¬ t = -99 by omega)]
                    exact ⟨h1, C1, rfl, V1, f1⟩
                  · rw [if_neg w6, if_neg w6]
                    by_cases w7 : w = 7
                    · have oc := tx9_occurrences V.2.2.2.1 V.okC n12 (t := t) (by omega)
                      rw [V.sd] at oc
                      rw [if_pos w7, if_pos w7, oc, Option.bind_some]
                      exact ⟨h, C, rfl, V, tn_fr.rf⟩
                    · obtain ⟨h1, C1, e1, V1, f1⟩ := tx9_marksOf V c1
                      rw [if_neg w7, if_neg w7, if_pos (show w = 8 by omega), e1, Option.bind_some]
                      exact ⟨h1, C1, rfl, V1, f1⟩
    · rw [tn_b0 c2, if_pos rfl, if_neg (by omega), if_neg (by omega), if_neg (by omega), if_neg (by omega), if_neg (by omega), if_neg (by omega)]
      exact ⟨h, C, rfl, V, tn_fr.rf⟩
  · rw [tn_b0 c1, if_pos rfl, if_neg c1]
    exact ⟨h, C, rfl, V, tn_fr.rf⟩
theorem tx9_count (V : tn_V h b C0 J s C) (w : Int) : ∃ h' C', fX9_count b w h = some (sp_count s (J 5) (J 3) w, h') ∧ tn_V h' b C0 J s C' ∧ tn_fr b (b + 11) h h' := by
  have E := V.2.2.2.1
  have n0 : C 0 0 = tn_n s := by rw [← V.sd]; rfl
  have nt : C 0 307 = tn_nT s := V.nT.symm
  simp only [fX9_count, tn_th E.1, E.g.1, E.l0 (show (0 : Int) ≤ 0 by omega) (by omega), E.l0 (show (0 : Int) ≤ 307 by omega) (by omega), E.l0 (show (0 : Int) ≤ 380 by omega) (by omega), E.l0 (show (0 : Int) ≤ 627 by omega) (by omega), E.j.1, E.j.2.1, Option.bind_some]
  unfold sp_count
  by_cases w0 : w = 0
  · rw [if_pos w0, if_pos w0]
    exact ⟨h, C, by rw [show Int.toNat 0 = 0 from rfl, n0], V, tn_fr.rf⟩
  · rw [if_neg w0, if_neg w0]
    by_cases w1 : w = 1
    · have e := tx9_wordsOfAll E (fun c c0 c1 => ⟨(V.okC.c ⟨c0, c1⟩).1, (V.okC.c ⟨c0, c1⟩).2⟩)
      rw [V.sd] at e
      rw [if_pos w1, if_pos w1, e, Option.bind_some]
      exact ⟨h, C, rfl, V, tn_fr.rf⟩
    · rw [if_neg w1, if_neg w1]
      by_cases w2 : w = 2
      · rw [if_pos w2, if_pos w2]
        exact ⟨h, C, by rw [show Int.toNat 307 = 307 from rfl, nt], V, tn_fr.rf⟩
      · rw [if_neg w2, if_neg w2]
        by_cases w3 : w = 3
        · have e := tx9_quietTerms E V.okC V.hnC
          rw [V.sd, nt] at e
          rw [if_pos w3, if_pos w3, e, Option.bind_some]
          exact ⟨h, C, rfl, V, tn_fr.rf⟩
        · rw [if_neg w3, if_neg w3]
          by_cases w4 : w = 4
          · obtain ⟨h1, C1, e1, E1, s1, f1⟩ := tx9_marks E V.okC V.hnC
            rw [V.sd] at e1
            rw [if_pos w4, if_pos w4, e1, Option.bind_some]
            exact ⟨h1, C1, rfl, ⟨V.1, V.2.1, V.2.2.1, E1, V.2.2.2.2.tr s1⟩, f1⟩
          · rw [if_neg w4, if_neg w4]
            by_cases w5 : w = 5
            · obtain ⟨h1, C1, e1, V1, f1⟩ := tx9_readings V (-99)
              rw [if_pos w5, if_pos w5, e1, Option.bind_some]
              dsimp only
              rw [if_pos rfl]
              exact ⟨h1, C1, rfl, V1, f1⟩
            · rw [if_neg w5, if_neg w5]
              by_cases w6 : w = 6
              · have e := tx9_forms E V.okC
                rw [V.sd, n0] at e
                rw [if_pos w6, if_pos w6, e, Option.bind_some]
                exact ⟨h, C, rfl, V, tn_fr.rf⟩
              · rw [if_neg w6, if_neg w6]
                by_cases w7 : w = 7
                · have k0 := (V.2.1.2.2.2.2.2.2.2 0 (by omega) (by omega)).1
                  have k1 := (V.2.1.2.2.2.2.2.2.2 1 (by omega) (by omega)).1
                  have t0 : C 0 (Int.toNat 380) = tn_tk s 0 := by rw [← V.sd]; rfl
                  have t1 : C 0 (Int.toNat 627) = tn_tk s 1 := by rw [← V.sd]; rfl
                  rw [if_pos w7, if_pos w7, t0, t1, tm_wr_id (by omega) (by omega)]
                  exact ⟨h, C, rfl, V, tn_fr.rf⟩
                · rw [if_neg w7, if_neg w7]
                  by_cases w8 : w = 8
                  · rw [if_pos w8, if_pos w8]
                    exact ⟨h, C, rfl, V, tn_fr.rf⟩
                  · rw [if_neg w8, if_neg w8]
                    by_cases w9 : w = 9
                    · rw [if_pos w9, if_pos w9]
                      exact ⟨h, C, rfl, V, tn_fr.rf⟩
                    · rw [if_neg w9, if_neg w9]
                      exact ⟨h, C, rfl, V, tn_fr.rf⟩
end RGA
