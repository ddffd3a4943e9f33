/-! loading keeps states well -/
theorem tn_ff_ex (P : Int → Prop) : ∀ n : Nat, ∃ r, tn_ff n P r
  | 0 => ⟨-99, Or.inl ⟨rfl, fun w w0 w1 => by omega⟩⟩
  | n + 1 => by
    obtain ⟨r, hr⟩ := tn_ff_ex P n
    by_cases c : P n
    · by_cases d : r = -99
      · rw [d] at hr; exact ⟨_, hr.new c (by omega)⟩
      · exact ⟨_, hr.old d⟩
    · exact ⟨_, hr.no c⟩
section LOK
variable {l : Int} {x : Int → Int} {s : tn_St}
theorem tn_fd_ff (h : 0 ≤ tn_n s) (S : Int64) : tn_ff (tn_n s) (fun w => tn_sp s w = S) (tn_fd s S) := by
  obtain ⟨r, hr⟩ := tn_ff_ex (fun w => tn_sp s w = S) (tn_n s).toNat
  rw [Int.toNat_of_nonneg h] at hr
  rw [tn_fd_eq hr]
  exact hr
theorem tn_ok.ad (ok : tn_ok s) (S : Int64) (hn : tn_n s < 60) : tn_ok (tn_ad s S) := by
  obtain ⟨h1, h2, h3, h4, h5, h6, h7, h8⟩ := ok
  refine ⟨by show 26 ≤ tn_n s + 1; omega, by show tn_n s + 1 ≤ 60; omega, fun w w0 w1 => ?_, fun c c0 c1 => ?_, h5, h6, fun t t0 t1 => ?_, fun z z0 z1 => ?_⟩
  · have w1' : w < tn_n s + 1 := w1
    show 0 ≤ (if w = tn_n s then tn_n s else tn_bs s w) ∧ (if w = tn_n s then tn_n s else tn_bs s w) < tn_n s + 1
    by_cases k : w = tn_n s
    · rw [if_pos k]; omega
    · rw [if_neg k]
      have := h3 w w0 (by omega)
      omega
  · obtain ⟨a, b, d⟩ := h4 c c0 c1
    refine ⟨a, b, fun p p0 p1 => ?_⟩
    have := d p p0 p1
    show 0 ≤ tn_wd s c p ∧ tn_wd s c p < tn_n s + 1
    omega
  · obtain ⟨a, b, c, d⟩ := h7 t t0 t1
    refine ⟨a, b, c, fun k k0 k1 => ?_⟩
    have := d k k0 k1
    show 0 ≤ tn_tw s t k ∧ tn_tw s t k < tn_n s + 1
    omega
  · obtain ⟨a, b⟩ := h8 z z0 z1
    refine ⟨a, fun e c c0 c1 => ?_⟩
    obtain ⟨u, v, w⟩ := b e c c0 c1
    refine ⟨u, v, fun p p0 p1 => ?_⟩
    have := w p p0 p1
    show 0 ≤ tn_zw s z c p ∧ tn_zw s z c p < tn_n s + 1
    omega
theorem tn_ws_ok (ok : tn_ok s) {S : Int64} (h : tn_wn s S ≠ -99) : tn_ok (tn_ws s S) ∧ tn_n s ≤ tn_n (tn_ws s S) ∧ 0 ≤ tn_wn s S ∧ tn_wn s S < tn_n (tn_ws s S) := by
  have n0 : 0 ≤ tn_n s := by have := ok.1; omega
  have f := tn_fd_ff (s := s) n0 S
  unfold tn_wn at *
  unfold tn_ws
  by_cases c : tn_fd s S ≠ -99
  · simp only [if_pos c] at *
    refine ⟨ok, Int.le_refl _, ?_⟩
    rcases f with ⟨f, _⟩ | ⟨f1, f2, _⟩
    · exact absurd f c
    · exact ⟨f1, f2⟩
  · simp only [if_neg c] at *
    by_cases d : tn_n s < 60
    · simp only [if_pos d] at *
      refine ⟨ok.ad S d, ?_, n0, ?_⟩
      · show tn_n s ≤ tn_n s + 1; omega
      · show tn_n s < tn_n s + 1; omega
    · simp only [if_neg d] at h
      exact absurd rfl h
theorem tn_ws_s2 (S : Int64) : (tn_ws s S).2 = s.2 := by
  unfold tn_ws tn_ad
  split
  · rfl
  · split <;> rfl
theorem tn_rs_ok (ok : tn_ok s) {st en : Int} (h : tn_rw l x s st en ≠ -99) : tn_ok (tn_rs x s st en) ∧ tn_n s ≤ tn_n (tn_rs x s st en) ∧ 0 ≤ tn_rw l x s st en ∧ tn_rw l x s st en < tn_n (tn_rs x s st en) := by
  unfold tn_rw at *
  by_cases c : tn_isl (tn_ch l x st) ∧ en - st ≤ 8
  · rw [if_pos c] at *
    exact tn_ws_ok ok h
  · rw [if_neg c] at h
    exact absurd rfl h
theorem tn_ok.setC (ok : tn_ok s) {c k : Int} {W : Int → Int} (hk : 0 ≤ k ∧ k ≤ 40) (hW : ∀ j : Int, 0 ≤ j → j < k → 0 ≤ W j ∧ W j < tn_n s) : tn_ok (tn_setC s c k W) := by
  obtain ⟨h1, h2, h3, h4, h5, h6, h7, h8⟩ := ok
  refine ⟨h1, h2, h3, fun d d0 d1 => ?_, h5, h6, h7, h8⟩
  show 0 ≤ (if d = c then k else tn_sz s d) ∧ (if d = c then k else tn_sz s d) ≤ 40 ∧ ∀ p : Int, 0 ≤ p → p < (if d = c then k else tn_sz s d) → 0 ≤ (if d = c then W p else tn_wd s d p) ∧ (if d = c then W p else tn_wd s d p) < tn_n s
  by_cases e : d = c
  · simp only [if_pos e]; exact ⟨hk.1, hk.2, hW⟩
  · simp only [if_neg e]; exact h4 d d0 d1
theorem tn_ok.addT (ok : tn_ok s) {k : Int} {W : Int → Int} (hk : 1 ≤ k ∧ k ≤ 4) (hn : tn_nT s < 13) (hW : ∀ j : Int, 0 ≤ j → j < k → 0 ≤ W j ∧ W j < tn_n s) : tn_ok (tn_addT s k W) := by
  obtain ⟨h1, h2, h3, h4, h5, h6, h7, h8⟩ := ok
  refine ⟨h1, h2, h3, h4, by show 0 ≤ tn_nT s + 1; omega, by show tn_nT s + 1 ≤ 13; omega, fun t t0 t1 => ?_, h8⟩
  have t1' : t < tn_nT s + 1 := t1
  show 1 ≤ (if t = tn_nT s then k else tn_tl s t) ∧ (if t = tn_nT s then k else tn_tl s t) ≤ 4 ∧ ((if t = tn_nT s then 0 else tn_tq s t) = 0 ∨ (if t = tn_nT s then 0 else tn_tq s t) = 1) ∧ ∀ j : Int, 0 ≤ j → j < (if t = tn_nT s then k else tn_tl s t) → 0 ≤ (if t = tn_nT s then W j else tn_tw s t j) ∧ (if t = tn_nT s then W j else tn_tw s t j) < tn_n s
  by_cases e : t = tn_nT s
  · simp only [if_pos e]; exact ⟨hk.1, hk.2, Or.inl trivial, hW⟩
  · simp only [if_neg e]; exact h7 t t0 (by omega)
theorem tn_ok.setB (ok : tn_ok s) {w b : Int} (hb : 0 ≤ b ∧ b < tn_n s) : tn_ok (tn_setB s w b) := by
  obtain ⟨h1, h2, h3, h4⟩ := ok
  refine ⟨h1, h2, fun v v0 v1 => ?_, h4⟩
  show 0 ≤ (if v = w then b else tn_bs s v) ∧ (if v = w then b else tn_bs s v) < tn_n s
  split
  · exact hb
  · exact h3 v v0 v1
/-- positions: a token stands at st -/
def tn_ps (l : Int) (x : Int → Int) (st en : Int) : Prop := 0 ≤ st ∧ st ≤ l ∧ en = tn_te l x st
theorem tn_ps.en {st en : Int} (h : tn_ps l x st en) : st ≤ en ∧ en ≤ l ∧ (st < l → st < en) := by
  obtain ⟨h1, h2, h3⟩ := h
  rw [h3]
  have := tn_te_rg (x := x) h2
  omega
theorem tn_ps.nx {st en : Int} (h : tn_ps l x st en) : tn_ps l x (tn_ts l x en) (tn_te l x (tn_ts l x en)) := by
  have e := h.en
  have q := tn_ts_rg (x := x) e.2.1
  obtain ⟨h1, h2, h3⟩ := h
  exact ⟨by omega, q.2, rfl⟩
theorem tn_ps.lt {st en : Int} (h : tn_ps l x st en) : en ≤ tn_ts l x en ∧ tn_ts l x en ≤ l := tn_ts_rg h.en.2.1
/-- a run: letters up to its end -/
theorem tn_ps.run {st en : Int} (h : tn_ps l x st en) (c : tn_isl (tn_ch l x st)) : st < l ∧ st < en ∧ ∀ i, st ≤ i → i < en → tn_isl (x i) ∧ i < l := by
  have e := h.en
  obtain ⟨h1, h2, h3⟩ := h
  unfold tn_ch at c
  by_cases k : 0 ≤ st ∧ st < l
  · rw [if_pos k] at c
    rw [h3]
    exact ⟨k.2, by rw [← h3]; exact e.2.2 k.2, (tn_te_run k.2 c).2⟩
  · rw [if_neg k] at c
    unfold tn_isl at c
    omega
theorem tn_tk2_ok : ∀ (k : Nat) (s : tn_St) (st en : Int) (W : Int → Int) (i : Int), tn_ok s → tn_ps l x st en → 0 ≤ i → (∀ j : Int, 0 ≤ j → j < i → 0 ≤ W j ∧ W j < tn_n s) → ∀ s' st' en' W' i', tn_tk2 l x k s st en W i = .inr (s', (st', (en', (W', i')))) → tn_ok s' ∧ s'.2 = s.2 ∧ tn_n s ≤ tn_n s' ∧ tn_ps l x st' en' ∧ st ≤ st' ∧ (∀ j : Int, 0 ≤ j → j < i' → 0 ≤ W' j ∧ W' j < tn_n s') ∧ i ≤ i' ∧ i' ≤ i + k ∧ ¬ tn_isl (tn_ch l x st')
  | 0, s, st, en, W, i, ok, ps, i0, hW => by
    intro s' st' en' W' i' e
    simp only [tn_tk2] at e
    split at e
    · cases e
    · rename_i c
      cases e
      exact ⟨ok, rfl, Int.le_refl _, ps, Int.le_refl _, hW, Int.le_refl _, by omega, c⟩
  | k + 1, s, st, en, W, i, ok, ps, i0, hW => by
    intro s' st' en' W' i' e
    simp only [tn_tk2] at e
    split at e
    · rename_i c
      split at e
      · cases e
      · rename_i d
        obtain ⟨q1, q2, q3, q4⟩ := tn_rs_ok ok d
        obtain ⟨r1, r2, r3, r4, r5, r6, r7, r8, r9⟩ := tn_tk2_ok k _ _ _ _ _ q1 ps.nx (by omega) (fun j j0 j1 => by
          by_cases z : j = i
          · simp only [if_pos z]; exact ⟨q3, q4⟩
          · simp only [if_neg z]
            have := hW j j0 (by omega)
            omega) s' st' en' W' i' e
        have e1 := ps.en
        have e2 := ps.lt
        exact ⟨r1, by rw [r2]; exact tn_ws_s2 _, by omega, r4, by omega, r6, by omega, by omega, r9⟩
    · rename_i c
      cases e
      exact ⟨ok, rfl, Int.le_refl _, ps, Int.le_refl _, hW, Int.le_refl _, by omega, c⟩
theorem tn_tk2_in : ∀ (k : Nat) (s : tn_St) (st en : Int) (W : Int → Int) (i : Int), tn_ps l x st en → ∀ f, tn_tk2 l x k s st en W i = .inl f → 0 ≤ f ∧ f ≤ l
  | 0, s, st, en, W, i, ps => by
    intro f e
    simp only [tn_tk2] at e
    split at e
    · cases e; exact ⟨ps.1, ps.2.1⟩
    · cases e
  | k + 1, s, st, en, W, i, ps => by
    intro f e
    simp only [tn_tk2] at e
    split at e
    · split at e
      · cases e; exact ⟨ps.1, ps.2.1⟩
      · exact tn_tk2_in k _ _ _ _ _ ps.nx f e
    · cases e
/-- an item goes on, and keeps the state well -/
def tn_go (l : Int) (x : Int → Int) (st : Int) (r : tn_Ret) : Prop := match r with
  | .inl f => 0 ≤ f ∧ f ≤ l
  | .inr (s', (st', en')) => tn_ok s' ∧ tn_nT s' ≤ 12 ∧ st < st' ∧ tn_ps l x st' en'
theorem tn_go_tok {st : Int} {s' : tn_St} {st1 en1 : Int} (ok : tn_ok s') (hn : tn_nT s' ≤ 12) (ps : tn_ps l x st1 en1) (h : st < en1) : tn_go l x st (tn_tok l x s' en1) := by
  have := ps.lt
  exact ⟨ok, hn, by omega, ps.nx⟩
theorem tn_it_go {st en : Int} (ok : tn_ok s) (hn : tn_nT s ≤ 12) (ps : tn_ps l x st en) (h : st < l) : tn_go l x st (tn_it l x s st en) := by
  have e0 := ps.en
  have l0 := ps.lt
  have p1 := ps.nx
  have e1 := p1.en
  have l1 := p1.lt
  have p2 := p1.nx
  have e2 := p2.en
  have l2 := p2.lt
  have p3 := p2.nx
  have e3 := p3.en
  have l3 := p3.lt
  have z0 := ps.1
  have z1 := p1.1
  have z2 := p2.1
  have z3 := p3.1
  unfold tn_it
  split
  · -- a chapter
    unfold tn_iC
    split
    · exact ⟨by omega, by omega⟩
    · rename_i hc
      have hc : 0 ≤ tn_ch l x (tn_ts l x en) - 48 ∧ tn_ch l x (tn_ts l x en) - 48 < 6 := Decidable.not_not.mp hc
      split
      · exact ⟨by omega, by omega⟩
      · generalize hr : tn_tk2 l x 40 s _ _ _ _ = r
        cases r with
        | inl f => exact tn_tk2_in _ _ _ _ _ _ p3 f hr
        | inr v =>
          obtain ⟨s', st', en', W', i'⟩ := v
          obtain ⟨q1, q2, q3, q4, q5, q6, q7, q8, q9⟩ := tn_tk2_ok _ _ _ _ _ _ ok p3 (by omega) (fun j j0 j1 => by omega) _ _ _ _ _ hr
          simp only [tn_iC2]
          split
          · rename_i c59
            have e4 := q4.en
            have hT : tn_nT s' = tn_nT s := by unfold tn_nT; rw [q2]
            refine tn_go_tok (q1.setC ⟨q7, by omega⟩ q6) (by show tn_nT s' ≤ 12; omega) q4 ?_
            by_cases z : st' < l
            · omega
            · unfold tn_ch at c59
              rw [if_neg (by omega)] at c59
              omega
          · exact ⟨by have := q4.1; omega, q4.2.1⟩
  · split
    · -- a term
      unfold tn_iT
      generalize hr : tn_tk2 l x 4 s _ _ _ _ = r
      cases r with
      | inl f => exact tn_tk2_in _ _ _ _ _ _ p1 f hr
      | inr v =>
        obtain ⟨s', st', en', W', i'⟩ := v
        obtain ⟨q1, q2, q3, q4, q5, q6, q7, q8, q9⟩ := tn_tk2_ok _ _ _ _ _ _ ok p1 (by omega) (fun j j0 j1 => by omega) _ _ _ _ _ hr
        simp only [tn_iT2]
        split
        · exact ⟨by have := q4.1; omega, q4.2.1⟩
        · rename_i cc
          have e4 := q4.en
          have c1 : i' ≠ 0 := fun k => cc (Or.inl k)
          have c2 : ¬ 12 ≤ tn_nT s' := fun k => cc (Or.inr (Or.inr (Or.inl k)))
          have c59 : ¬ tn_ch l x st' ≠ 59 := fun k => cc (Or.inr (Or.inl k))
          refine tn_go_tok (q1.addT ⟨by omega, by omega⟩ (by omega) q6) (by show tn_nT s' + 1 ≤ 12; omega) q4 ?_
          by_cases z : st' < l
          · omega
          · unfold tn_ch at c59
            rw [if_neg (by omega)] at c59
            omega
    · split
      · -- a form
        unfold tn_iF tn_iF1
        split
        · exact ⟨by omega, by omega⟩
        · rename_i d1
          obtain ⟨q1, q2, q3, q4⟩ := tn_rs_ok ok d1
          split
          · exact ⟨by omega, by omega⟩
          · unfold tn_iF2
            split
            · exact ⟨by omega, by omega⟩
            · rename_i d2
              obtain ⟨u1, u2, u3, u4⟩ := tn_rs_ok q1 d2
              split
              · exact ⟨by omega, by omega⟩
              · split
                · have p4 := p3.nx
                  have e4 := p4.en
                  refine tn_go_tok (u1.setB (u1.b ⟨u3, u4⟩)) ?_ p4 (by omega)
                  show tn_nT (tn_rs x (tn_rs x s _ _) _ _) ≤ 12
                  unfold tn_nT tn_rs
                  rw [tn_ws_s2, tn_ws_s2]
                  exact hn
                · exact ⟨by omega, by omega⟩
      · exact ⟨by omega, by omega⟩
end LOK
