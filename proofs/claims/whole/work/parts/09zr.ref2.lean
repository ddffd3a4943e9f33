/-! states that mean the same -/
def tn_sim (s t : tn_St) : Prop := tn_n s = tn_n t ∧ (∀ w : Int, 0 ≤ w → w < tn_n t → tn_bs s w = tn_bs t w ∧ tn_sp s w = tn_sp t w) ∧ (∀ c : Int, 0 ≤ c → c < 6 → tn_sz s c = tn_sz t c ∧ ∀ p : Int, 0 ≤ p → p < tn_sz t c → tn_wd s c p = tn_wd t c p) ∧ tn_nT s = tn_nT t ∧ (∀ u : Int, 0 ≤ u → u < tn_nT t → tn_tl s u = tn_tl t u ∧ tn_tq s u = tn_tq t u ∧ ∀ k : Int, 0 ≤ k → k < tn_tl t u → tn_tw s u k = tn_tw t u k) ∧ ∀ z : Int, 0 ≤ z → z < 2 → tn_tk s z = tn_tk t z ∧ (tn_tk t z = 1 → ∀ c : Int, 0 ≤ c → c < 6 → tn_zs s z c = tn_zs t z c ∧ ∀ p : Int, 0 ≤ p → p < tn_zs t z c → tn_zw s z c p = tn_zw t z c p)
theorem tn_sim.rf (s : tn_St) : tn_sim s s := ⟨rfl, fun _ _ _ => ⟨rfl, rfl⟩, fun _ _ _ => ⟨rfl, fun _ _ _ => rfl⟩, rfl, fun _ _ _ => ⟨rfl, rfl, fun _ _ _ => rfl⟩, fun _ _ _ => ⟨rfl, fun _ _ _ _ => ⟨rfl, fun _ _ _ => rfl⟩⟩⟩
theorem tn_Q.sim {h : tm_H} {a : Nat} {s t : tn_St} (Q : tn_Q h a t) (e : tn_sim s t) : tn_Q h a s := by
  obtain ⟨e1, e2, e3, e4, e5, e6⟩ := e
  obtain ⟨q1, q2, q3, k1, k2, ⟨f, k3, k4⟩, k5⟩ := Q
  refine ⟨?_, q2.ext e3, ?_, k1, k2, ⟨f, k3, fun z z0 z1 => ?_⟩, fun z z0 z1 => ?_⟩
  · rw [e1]; exact q1.ext e2
  · rw [e4]; exact q3.ext e5
  · rw [(e6 z z0 z1).1]; exact k4 z z0 z1
  · obtain ⟨sz, wd, C, ag⟩ := k5 z z0 z1
    refine ⟨sz, wd, C, fun tk c c0 c1 => ?_⟩
    rw [(e6 z z0 z1).1] at tk
    obtain ⟨g1, g2⟩ := (e6 z z0 z1).2 tk c c0 c1
    obtain ⟨a1, a2⟩ := ag tk c c0 c1
    exact ⟨g1.trans a1, fun p p0 p1 => (g2 p p0 (by omega)).trans (a2 p p0 p1)⟩
theorem tn_ok.sim {s t : tn_St} (ok : tn_ok t) (e : tn_sim s t) : tn_ok s := by
  obtain ⟨e1, e2, e3, e4, e5, e6⟩ := e
  obtain ⟨h1, h2, h3, h4, h5, h6, h7, h8⟩ := ok
  refine ⟨by rw [e1]; exact h1, by rw [e1]; exact h2, fun w w0 w1 => ?_, fun c c0 c1 => ?_, by rw [e4]; exact h5, by rw [e4]; exact h6, fun u u0 u1 => ?_, fun z z0 z1 => ?_⟩
  · rw [e1] at w1 ⊢
    rw [(e2 w w0 w1).1]; exact h3 w w0 w1
  · obtain ⟨g1, g2⟩ := e3 c c0 c1
    obtain ⟨a1, a2, a3⟩ := h4 c c0 c1
    rw [g1, e1]
    exact ⟨a1, a2, fun p p0 p1 => by rw [g2 p p0 p1]; exact a3 p p0 p1⟩
  · rw [e4] at u1
    obtain ⟨g1, g2, g3⟩ := e5 u u0 u1
    obtain ⟨a1, a2, a3, a4⟩ := h7 u u0 u1
    rw [g1, g2, e1]
    exact ⟨a1, a2, a3, fun k k0 k1 => by rw [g3 k k0 k1]; exact a4 k k0 k1⟩
  · obtain ⟨g1, g2⟩ := e6 z z0 z1
    obtain ⟨a1, a2⟩ := h8 z z0 z1
    rw [g1, e1]
    refine ⟨a1, fun tk c c0 c1 => ?_⟩
    obtain ⟨b1, b2⟩ := g2 tk c c0 c1
    obtain ⟨d1, d2, d3⟩ := a2 tk c c0 c1
    rw [b1]
    exact ⟨d1, d2, fun p p0 p1 => by rw [b2 p p0 p1]; exact d3 p p0 p1⟩
/-- one array is another -/
def tn_rk (C : Nat → Nat → Int) (k : Nat) (F : Nat → Int) : Nat → Nat → Int := fun j => if j = k then F else C j
theorem tn_rk_eq (C : Nat → Nat → Int) (k : Nat) (F : Nat → Int) : tn_rk C k F k = F := if_pos rfl
theorem tn_rk_ne {C : Nat → Nat → Int} {k j : Nat} {F : Nat → Int} (h : j ≠ k) : tn_rk C k F j = C j := if_neg h
theorem tn_rk_self (C : Nat → Nat → Int) (k : Nat) : tn_rk C k (C k) = C := by
  funext j
  unfold tn_rk
  by_cases c : j = k
  · rw [if_pos c, c]
  · rw [if_neg c]
theorem tn_rk_rk (C : Nat → Nat → Int) (k : Nat) (F G : Nat → Int) : tn_rk (tn_rk C k F) k G = tn_rk C k G := by
  funext j
  unfold tn_rk
  by_cases c : j = k
  · rw [if_pos c, if_pos c]
  · rw [if_neg c, if_neg c, if_neg c]
theorem tn_up2_rk (C : Nat → Nat → Int) (k i : Nat) (v : Int) : tn_up2 C k i v = tn_rk C k (tm_up (C k) i v) := rfl
/-- a change of the row, and a place of it -/
theorem tn_upr {N : Nat → Int} {i j v : Int} (h0 : 0 ≤ i) (h1 : 0 ≤ j) : tm_up N i.toNat v j.toNat = if j = i then v else N j.toNat := by
  rw [tm_up_app]
  by_cases c : j = i
  · rw [if_pos c, if_pos (by omega)]
  · rw [if_neg c, if_neg (by omega)]
section RFM
variable {h : tm_H} {b : Nat} {C : Nat → Nat → Int} {J : Nat → Int}
theorem tx9_ins_l {c p w : Int} (hc : 0 ≤ c ∧ c < 6) (hp : 0 ≤ p) : ∀ (m : Nat) (k : Int) (h : tm_H) (C : Nat → Nat → Int), tn_E h b C J → 0 ≤ C 0 (61 + 41 * c).toNat → C 0 (61 + 41 * c).toNat < 40 → p ≤ k → k < 40 → (k - p).toNat = m → ∃ h' N', fX9_insert_L58 b c p w k h = some (C 0 (61 + 41 * c).toNat + 1, h') ∧ tn_E h' b (tn_rk C 0 N') J ∧ (∀ i : Int, 0 ≤ i → N' i.toNat = if i = 61 + 41 * c then C 0 (61 + 41 * c).toNat + 1 else if i = 62 + 41 * c + p then w else if 62 + 41 * c + p < i ∧ i ≤ 62 + 41 * c + k then C 0 (i - 1).toNat else C 0 i.toNat) ∧ tn_fr b (b + 11) h h' := by
  intro m
  induction m with
  | zero =>
    intro k h C H s0 s1 k0 k1 hm
    obtain ⟨h1, e1, E1, f1⟩ := H.w0 (i := 62 + 41 * c + p) w (by omega) (by omega)
    have r1 : tn_up2 C 0 (62 + 41 * c + p).toNat w 0 (61 + 41 * c).toNat = C 0 (61 + 41 * c).toNat := by
      rw [tn_up2_eq, tn_upr (by omega) (by omega), if_neg (by omega)]
    obtain ⟨h2, e2, E2, f2⟩ := E1.w0 (i := 61 + 41 * c) (C 0 (61 + 41 * c).toNat + 1) (by omega) (by omega)
    refine ⟨h2, _, ?_, by rw [tn_up2_rk, tn_up2_rk, tn_rk_rk] at E2; exact E2, fun i i0 => ?_, f1.tr f2⟩
    · rw [fX9_insert_L58_eq, if_neg (by omega), H.g.1, Option.bind_some, tx9_at hc (by omega), Option.bind_some, e1, Option.bind_some, E1.g.1, Option.bind_some, tm_wr_id (z := 41 * c) (by omega) (by omega), tm_wr_id (z := 61 + 41 * c) (by omega) (by omega), E1.l0 (by omega) (by omega), Option.bind_some, r1, tm_wr_id (by omega) (by omega), e2, Option.bind_some, tx9_size E2 hc, Option.bind_some, tn_up2_eq, tn_upr (by omega) (by omega), if_pos rfl]
    · rw [tn_upr (by omega) i0]
      rw [tn_rk_eq, tn_upr (by omega) i0]
      by_cases c1 : i = 61 + 41 * c
      · rw [if_pos c1, if_pos c1]
      · rw [if_neg c1, if_neg c1]
        by_cases c2 : i = 62 + 41 * c + p
        · rw [if_pos c2, if_pos c2]
        · rw [if_neg c2, if_neg c2, if_neg (by omega)]
  | succ m ih =>
    intro k h C H s0 s1 k0 k1 hm
    obtain ⟨h1, e1, E1, f1⟩ := H.w0 (i := 62 + 41 * c + k) (C 0 (62 + 41 * c + (k - 1)).toNat) (by omega) (by omega)
    have r1 : tn_up2 C 0 (62 + 41 * c + k).toNat (C 0 (62 + 41 * c + (k - 1)).toNat) 0 (61 + 41 * c).toNat = C 0 (61 + 41 * c).toNat := by
      rw [tn_up2_eq, tn_upr (by omega) (by omega), if_neg (by omega)]
    obtain ⟨h2, N', e2, E2, q2, f2⟩ := ih (k - 1) h1 _ E1 (by rw [r1]; exact s0) (by rw [r1]; exact s1) (by omega) (by omega) (by omega)
    rw [r1] at e2
    refine ⟨h2, N', ?_, by rw [tn_up2_rk, tn_rk_rk] at E2; exact E2, fun i i0 => ?_, f1.tr f2⟩
    · rw [fX9_insert_L58_eq, if_pos (by omega), H.g.1, Option.bind_some, tx9_at hc (by omega), Option.bind_some, Option.bind_some, tm_wr_id (z := k - 1) (by omega) (by omega), tx9_at hc (by omega), Option.bind_some, H.l0 (by omega) (by omega), Option.bind_some, e1, Option.bind_some, tm_wr_id (by omega) (by omega), show k + (-1) = k - 1 by omega]
      exact e2
    · rw [q2 i i0, r1, tn_up2_eq, tn_upr (by omega) i0]
      by_cases c1 : i = 61 + 41 * c
      · rw [if_pos c1, if_pos c1]
      · rw [if_neg c1, if_neg c1]
        by_cases c2 : i = 62 + 41 * c + p
        · rw [if_pos c2, if_pos c2]
        · rw [if_neg c2, if_neg c2]
          by_cases c3 : i = 62 + 41 * c + k
          · rw [if_neg (by omega), if_pos c3, if_pos (by omega), show i - 1 = 62 + 41 * c + (k - 1) by omega]
          · by_cases c4 : 62 + 41 * c + p < i ∧ i ≤ 62 + 41 * c + k
            · rw [if_pos (by omega), if_pos c4, tn_upr (by omega) (by omega), if_neg (by omega)]
            · rw [if_neg (by omega), if_neg c3, if_neg c4]
/-- what an action of the reference leaves: the new row means s', the old one is in the history -/
def tn_F (h' : tm_H) (b : Nat) (C : Nat → Nat → Int) (J : Nat → Int) (s' : tn_St) : Prop := ∃ C' J', tn_E h' b C' J' ∧ C' 4 = C 4 ∧ C' 3 = C 3 ∧ J' 5 = J 5 ∧ J' 3 = tn_hz (J 3) ∧ (∀ i k : Int, 0 ≤ i → i < tn_hz (J 3) → 0 ≤ k → k < 874 → C' 1 (874 * i + k).toNat = if J 3 < 5 then (if i = J 3 then C 0 k.toNat else C 1 (874 * i + k).toNat) else (if i = 4 then C 0 k.toNat else C 1 (874 * (i + 1) + k).toNat)) ∧ tn_sim (tn_row (C' 0) (C' 4)) s'
/-- what stays: the numbers and rows that are told of later -/
def tn_G (h' : tm_H) (b : Nat) (C : Nat → Nat → Int) (J : Nat → Int) : Prop := ∃ C' J', tn_E h' b C' J' ∧ (∀ k, k < 5 → k ≠ 2 → C' k = C k) ∧ J' 5 = J 5 ∧ J' 3 = J 3
def tn_O (h' : tm_H) (b : Nat) (C : Nat → Nat → Int) (J : Nat → Int) : Option tn_St → Prop
  | none => tn_G h' b C J
  | some s' => tn_F h' b C J s'
theorem tn_E.O (H : tn_E h b C J) : tn_O h b C J none := ⟨C, J, H, fun _ _ _ => rfl, rfl, rfl⟩
/-- the row is saved, then made another one -/
theorem tn_F_of {h' : tm_H} {P' : Nat → Int} {C' : Nat → Nat → Int} {J' : Nat → Int} {s' : tn_St} (q : ∀ i k : Int, 0 ≤ i → i < tn_hz (J 3) → 0 ≤ k → k < 874 → P' (874 * i + k).toNat = if J 3 < 5 then (if i = J 3 then C 0 k.toNat else C 1 (874 * i + k).toNat) else (if i = 4 then C 0 k.toNat else C 1 (874 * (i + 1) + k).toNat)) (E : tn_E h' b C' J') (c1 : C' 1 = P') (c3 : C' 3 = C 3) (c4 : C' 4 = C 4) (j5 : J' 5 = J 5) (j3 : J' 3 = tn_hz (J 3)) (e : tn_sim (tn_row (C' 0) (C 4)) s') : tn_F h' b C J s' :=
  ⟨C', J', E, c4, c3, j5, j3, fun i k i0 i1 k0 k1 => by rw [c1]; exact q i k i0 i1 k0 k1, by rw [c4]; exact e⟩
theorem tx9_insert (H : tn_E h b C J) (ok : tn_ok (tn_row (C 0) (C 4))) (j0 : 0 ≤ J 3 ∧ J 3 ≤ 5) (c p w : Int) : ∃ h', fX9_insert b c p w h = some ((sp_insert (tn_row (C 0) (C 4)) c p w).1, h') ∧ tn_O h' b C J (sp_insert (tn_row (C 0) (C 4)) c p w).2 ∧ tn_fr b (b + 11) h h' := by
  simp only [fX9_insert, tn_th H.1, tx9_isChapter, Option.bind_some, H.g.1]
  unfold sp_insert
  by_cases c1 : 0 ≤ c ∧ c < 6
  · have sz := ok.c c1
    rw [tn_b1 c1, if_neg (by omega), tx9_size H c1, Option.bind_some, tx9_in, Option.bind_some]
    have szd : tn_sz (tn_row (C 0) (C 4)) c = C 0 (61 + 41 * c).toNat := rfl
    rw [szd] at sz ⊢
    by_cases c2 : 0 ≤ p ∧ p ≤ C 0 (61 + 41 * c).toNat
    · rw [tn_b1 c2, if_neg (by omega), tx9_isWord H ok, Option.bind_some]
      by_cases c3 : 0 ≤ w ∧ w < C 0 0
      · rw [tn_b1 c3, if_neg (by omega), if_pos (show 0 ≤ c ∧ c < 6 ∧ 0 ≤ p ∧ p ≤ C 0 (61 + 41 * c).toNat ∧ 0 ≤ w ∧ w < tn_n (tn_row (C 0) (C 4)) from ⟨c1.1, c1.2, c2.1, c2.2, c3.1, c3.2⟩), Option.bind_some]
        by_cases c4 : C 0 (61 + 41 * c).toNat = 40
        · rw [if_pos c4, if_neg (by omega)]
          exact ⟨h, rfl, H.O, tn_fr.rf⟩
        · obtain ⟨h1, P', e1, E1, q1, f1⟩ := tx9_saves H (r := b + 1) (k0 := 0) rfl (Or.inl rfl) j0
          obtain ⟨h2, N', e2, E2, q2, f2⟩ := tx9_ins_l (b := b) (w := w) c1 c2.1 _ (C 0 (61 + 41 * c).toNat) h1 _ E1 sz.1 (show C 0 (61 + 41 * c).toNat < 40 by omega) c2.2 (by omega) rfl
          rw [if_neg c4, if_pos (by omega), e1, Option.bind_some, tx9_size E1 c1, Option.bind_some]
          refine ⟨h2, e2, tn_F_of q1 E2 rfl rfl rfl rfl (tm_up_self _ _ _) ?_, f1.tr f2⟩
          change ∀ i : Int, 0 ≤ i → N' i.toNat = if i = 61 + 41 * c then C 0 (61 + 41 * c).toNat + 1 else if i = 62 + 41 * c + p then w else if 62 + 41 * c + p < i ∧ i ≤ 62 + 41 * c + C 0 (61 + 41 * c).toNat then C 0 (i - 1).toNat else C 0 i.toNat at q2
          have off : ∀ i : Int, 0 ≤ i → i < 61 + 41 * c ∨ 62 + 41 * c + 40 ≤ i → N' i.toNat = C 0 i.toNat := fun i i0 i1 => by
            rw [q2 i i0, if_neg (by omega), if_neg (by omega), if_neg (by omega)]
          rw [tn_rk_eq]
          refine ⟨off 0 (by omega) (by omega), fun v v0 v1 => ⟨off _ (by omega) (by have : v < C 0 0 := v1; have := ok.2.1; have : C 0 0 ≤ 60 := this; omega), rfl⟩, fun d d0 d1 => ?_, off 307 (by omega) (by omega), fun t t0 t1 => ?_, fun z z0 z1 => ⟨off _ (by omega) (by omega), fun _ d d0 d1 => ⟨off _ (by omega) (by omega), fun i i0 i1 => off _ (by omega) (by omega)⟩⟩⟩
          · show N' (61 + 41 * d).toNat = (if d = c then C 0 (61 + 41 * c).toNat + 1 else C 0 (61 + 41 * d).toNat) ∧ ∀ i : Int, 0 ≤ i → i < (if d = c then C 0 (61 + 41 * c).toNat + 1 else C 0 (61 + 41 * d).toNat) → N' (62 + 41 * d + i).toNat = if d = c then (if i < p then C 0 (62 + 41 * c + i).toNat else if i = p then w else C 0 (62 + 41 * c + (i - 1)).toNat) else C 0 (62 + 41 * d + i).toNat
            by_cases k : d = c
            · subst k
              simp only [if_true]
              refine ⟨by rw [q2 _ (by omega), if_pos rfl], fun i i0 i1 => ?_⟩
              rw [q2 _ (by omega), if_neg (by omega)]
              by_cases k1 : i < p
              · rw [if_neg (by omega), if_neg (by omega), if_pos k1]
              · by_cases k2 : i = p
                · rw [if_pos (by omega), if_neg k1, if_pos k2]
                · rw [if_neg (by omega), if_pos (by omega), if_neg k1, if_neg k2, show 62 + 41 * d + i - 1 = 62 + 41 * d + (i - 1) by omega]
            · simp only [if_neg k]
              have od := ok.c (c := d) ⟨d0, d1⟩
              have od' : C 0 (61 + 41 * d).toNat ≤ 40 := od.2
              exact ⟨off _ (by omega) (by omega), fun i i0 i1 => off _ (by omega) (by omega)⟩
          · exact ⟨off _ (by omega) (by omega), off _ (by omega) (by omega), fun k k0 k1 => off _ (by omega) (by omega)⟩
      · rw [tn_b0 c3, if_pos rfl, if_neg (fun k => c3 k.2.2.2.2)]
        exact ⟨h, rfl, H.O, tn_fr.rf⟩
    · rw [tn_b0 c2, if_pos rfl, if_neg (fun k => c2 ⟨k.2.2.1, k.2.2.2.1⟩)]
      exact ⟨h, rfl, H.O, tn_fr.rf⟩
  · rw [tn_b0 c1, if_pos rfl, if_neg (fun k => c1 ⟨k.1, k.2.1⟩)]
    exact ⟨h, rfl, H.O, tn_fr.rf⟩
end RFM
