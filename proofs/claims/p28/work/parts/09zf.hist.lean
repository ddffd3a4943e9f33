/-! the text, the history -/
def tn_X (h : tm_H) (a : Nat) (l : Int) (x : Int → Int) : Prop := ∃ f : Nat → Int, h a = some (.inl (6, [.inr (some (a + 1)), .inl l])) ∧ h (a + 1) = some (.inr (0, 140, .inl f)) ∧ 0 ≤ l ∧ l ≤ 140 ∧ ∀ i : Int, 0 ≤ i → i < l → f i.toNat = x i ∧ 1 ≤ x i ∧ x i ≤ 255
theorem tn_X.cg {h h' : tm_H} {a : Nat} {l : Int} {x : Int → Int} (H : tn_X h a l x) (e : tn_eq a (a + 2) h h') : tn_X h' a l x := by
  obtain ⟨f, h1, h2, h3⟩ := H
  exact ⟨f, by rw [e a (by omega) (by omega)]; exact h1, by rw [e (a + 1) (by omega) (by omega)]; exact h2, h3⟩
section TXT
variable {h : tm_H} {a : Nat} {l : Int} {x : Int → Int}
theorem tn_X.ext {x' : Int → Int} (H : tn_X h a l x) (e : ∀ i : Int, 0 ≤ i → i < l → x' i = x i) : tn_X h a l x' := by
  obtain ⟨f, h1, h2, h3, h4, h5⟩ := H
  exact ⟨f, h1, h2, h3, h4, fun i i0 i1 => by rw [e i i0 i1]; exact h5 i i0 i1⟩
theorem tn_X.rg (H : tn_X h a l x) : 0 ≤ l ∧ l ≤ 140 := by
  obtain ⟨f, h1, h2, h3, h4, h5⟩ := H
  exact ⟨h3, h4⟩
theorem tn_X.ch (H : tn_X h a l x) {i : Int} (i0 : 0 ≤ i) (i1 : i < l) : 1 ≤ x i ∧ x i ≤ 255 := by
  obtain ⟨f, h1, h2, h3, h4, h5⟩ := H
  exact (h5 i i0 i1).2
theorem tx6_length (H : tn_X h a l x) : fX6_length a h = some l := by
  obtain ⟨f, h1, h2, h3⟩ := H
  simp only [fX6_length, tn_th h1, tn_gI (k := 1) h1 rfl, Option.bind_some]
theorem tx6_add (H : tn_X h a l x) {v : Int} (hl : l < 140) (hv : 1 ≤ v ∧ v ≤ 255) : ∃ h', fX6_add a v h = some h' ∧ tn_X h' a (l + 1) (fun i => if i = l then v else x i) ∧ tn_fr a (a + 2) h h' := by
  obtain ⟨f, h1, h2, h3, h4, h5⟩ := H
  obtain ⟨hA, eA, pA, oA⟩ := tn_WI v h2 h3 (show l < (140 : Nat) by omega)
  obtain ⟨hB, eB, pB, oB⟩ := tn_SF (k := 1) ((oA a (by omega)).trans h1) (.inl (l + 1)) (by simp)
  refine ⟨hB, ?_, ⟨_, pB, (oB _ (by omega)).trans pA, by omega, by omega, fun i i0 i1 => ?_⟩, fun q hq => by rw [oB q (by omega), oA q (by omega)]⟩
  · simp only [fX6_add, tn_th h1, tn_gI (k := 1) h1 rfl, tn_gR (k := 0) h1 rfl, Option.bind_some]
    rw [if_pos hl, eA, Option.bind_some, tn_gI (k := 1) ((oA a (by omega)).trans h1) rfl, Option.bind_some, tm_wr_id (by omega) (by omega), eB]
    rfl
  · rw [tm_up_app]
    dsimp only
    by_cases c : i = l
    · rw [if_pos c, if_pos (by omega)]; exact ⟨rfl, hv⟩
    · rw [if_neg c, if_neg (by omega)]; exact h5 i i0 (by omega)
theorem tx6_init {v0 v1 : tm_Fv} (e : h a = some (.inl (6, [v0, v1]))) : ∃ h', fX6_init a h (a + 1) = some (h', a + 2) ∧ tn_X h' a 0 (fun _ => 0) ∧ tn_fr a (a + 2) h h' := by
  obtain ⟨h1, e1, p1, o1⟩ := tn_NW h (a + 1) (.inr (0, 140, .inl (fun _ => 0)))
  obtain ⟨h2, e2, p2, o2⟩ := tn_SF (k := 0) ((o1 a (by omega)).trans e) (.inr (some (a + 1))) (by simp)
  obtain ⟨h3, e3, p3, o3⟩ := tn_SF (k := 1) p2 (.inl 0) (by simp)
  refine ⟨h3, ?_, ⟨_, p3, (o3 _ (by omega)).trans ((o2 _ (by omega)).trans p1), by omega, by omega, fun i i0 i1 => by omega⟩, fun q hq => by rw [o3 q (by omega), o2 q (by omega), o1 q (by omega)]⟩
  simp only [fX6_init, tn_th e, e1, Option.bind_some, e2, e3]
end TXT
/-- the history: five states in an order, the first z of them kept -/
def tn_Y (h : tm_H) (a : Nat) (z : Int) (st : Int → tn_St) : Prop := ∃ (R : Nat → Option Nat) (r : Int → Nat) (S : Int → tn_St), h a = some (.inl (1, [.inr (some (a + 1)), .inl z])) ∧ h (a + 1) = some (.inr (4, 5, .inr (.inr R))) ∧ (∀ i : Int, 0 ≤ i → i < 5 → R i.toNat = some (r i) ∧ (∃ j : Nat, j < 5 ∧ r i = a + 2 + 50 * j) ∧ tn_Q h (r i) (S i) ∧ (i < z → S i = st i)) ∧ (∀ i j : Int, 0 ≤ i → i < 5 → 0 ≤ j → j < 5 → r i = r j → i = j) ∧ 0 ≤ z ∧ z ≤ 5
theorem tn_Y.cg {h h' : tm_H} {a : Nat} {z : Int} {st : Int → tn_St} (H : tn_Y h a z st) (e : tn_eq a (a + 252) h h') : tn_Y h' a z st := by
  obtain ⟨R, r, S, h1, h2, h3, h4, h5⟩ := H
  refine ⟨R, r, S, by rw [e a (by omega) (by omega)]; exact h1, by rw [e (a + 1) (by omega) (by omega)]; exact h2, fun i i0 i1 => ?_, h4, h5⟩
  obtain ⟨q1, ⟨j, q2, q3⟩, q4, q5⟩ := h3 i i0 i1
  exact ⟨q1, ⟨j, q2, q3⟩, q4.cg (e.sub (by omega) (by omega)), q5⟩
section HIS
variable {h : tm_H} {a : Nat} {z : Int} {st : Int → tn_St}
theorem tx1_size (H : tn_Y h a z st) : fX1_size a h = some z := by
  obtain ⟨R, r, S, h1, h2, h3, h4, h5⟩ := H
  simp only [fX1_size, tn_th h1, tn_gI (k := 1) h1 rfl, Option.bind_some]
theorem tn_Y.rg (H : tn_Y h a z st) : 0 ≤ z ∧ z ≤ 5 := by
  obtain ⟨R, r, S, h1, h2, h3, h4, h5⟩ := H
  exact h5
theorem tn_Y.ext {st' : Int → tn_St} (H : tn_Y h a z st) (e : ∀ i : Int, 0 ≤ i → i < z → st' i = st i) : tn_Y h a z st' := by
  obtain ⟨R, r, S, h1, h2, h3, h4, h5⟩ := H
  refine ⟨R, r, S, h1, h2, fun i i0 i1 => ?_, h4, h5⟩
  obtain ⟨q1, q2, q4, q5⟩ := h3 i i0 i1
  exact ⟨q1, q2, q4, fun hi => (q5 hi).trans (e i i0 hi).symm⟩
theorem tx1_keep_l {b : Nat} {s : tn_St} (H : tn_Y h a z st) (G : tn_Q h b s) (hd : b + 50 ≤ a ∨ a + 252 ≤ b) (hz : z < 5) : ∃ h', fX1_keep_L12 a b h = some h' ∧ tn_Y h' a (z + 1) (fun i => if i = z then s else st i) ∧ tn_fr a (a + 252) h h' := by
  obtain ⟨R, r, S, h1, h2, h3, h4, h5⟩ := H
  obtain ⟨q1, ⟨j, q2, q3⟩, q4, q5⟩ := h3 z h5.1 hz
  obtain ⟨hA, eA, QA, fA⟩ := tx4_copyFrom q4 G (by omega)
  obtain ⟨hB, eB, pB, oB⟩ := tn_SF (k := 1) ((fA a (by omega)).trans h1) (.inl (z + 1)) (by simp)
  refine ⟨hB, ?_, ⟨R, r, fun i => if i = z then s else S i, pB, by rw [oB _ (by omega), fA _ (by omega)]; exact h2, fun i i0 i1 => ?_, h4, by omega, by omega⟩, fun q hq => by rw [oB q (by omega), fA q (by omega)]⟩
  · simp only [fX1_keep_L12, tn_gR (k := 0) h1 rfl, tn_gI (k := 1) h1 rfl, Option.bind_some, tn_lR h2 h5.1 (show z < (5 : Nat) by omega), q1, eA]
    rw [tn_gI (k := 1) ((fA a (by omega)).trans h1) rfl, Option.bind_some, tm_wr_id (by omega) (by omega), eB]
    rfl
  · obtain ⟨u1, ⟨j', u2, u3⟩, u4, u5⟩ := h3 i i0 i1
    refine ⟨u1, ⟨j', u2, u3⟩, ?_, ?_⟩
    · by_cases c : i = z
      · simp only [if_pos c]
        rw [c]
        exact QA.cg (fun q _ _ => oB q (by omega))
      · simp only [if_neg c]
        have : r i ≠ r z := fun e => c (h4 i z i0 i1 h5.1 hz e)
        exact u4.cg (fun q v1 v2 => by rw [oB q (by omega), fA q (by omega)])
    · intro hi
      by_cases c : i = z
      · simp only [if_pos c]
      · simp only [if_neg c]; exact u5 (by omega)
theorem tx1_drop (H : tn_Y h a z st) (hz : z = 5) : ∃ h', fX1_dropOldest a h = some h' ∧ tn_Y h' a 4 (fun i => st (i + 1)) ∧ tn_fr a (a + 252) h h' := by
  subst hz
  obtain ⟨R, r, S, h1, h2, h3, h4, h5⟩ := H
  have st1 : ∀ (k : Int) (x : Nat) (h : tm_H) (R : Nat → Option Nat) (b : Nat), h a = some (.inl (1, [.inr (some (a + 1)), .inl 5])) → h (a + 1) = some (.inr (4, 5, .inr (.inr R))) → R k.toNat = some b → b ≠ a + 1 → (∃ s, tn_Q h b s) → 1 ≤ k → k < 5 → ∃ h', fX1_dropOldest_L9 a x k h = fX1_dropOldest_L9 a x (k + 1) h' ∧ h' (a + 1) = some (.inr (4, 5, .inr (.inr (tm_up R (k - 1).toNat (some b))))) ∧ ∀ q, q ≠ a + 1 → h' q = h q := by
    intro k x h R b g1 g2 g3 g4 g5 k0 k1
    obtain ⟨s, g5⟩ := g5
    obtain ⟨hA, eA, pA, oA⟩ := tn_WR (c := 4) (b := b) (i := k - 1) g2 (by omega) (by omega) (by simp [tm_kd, tx4_ob g5])
    refine ⟨hA, ?_, pA, oA⟩
    rw [fX1_dropOldest_L9_eq, if_pos k1, tn_gR (k := 0) g1 rfl, Option.bind_some, Option.bind_some, tn_lR g2 (by omega) (by omega), g3, Option.bind_some, tm_wr_id (by omega) (by omega), eA, Option.bind_some, tm_wr_id (by omega) (by omega)]
  have z0 := h3 0 (by omega) (by omega)
  have z1 := h3 1 (by omega) (by omega)
  have z2 := h3 2 (by omega) (by omega)
  have z3 := h3 3 (by omega) (by omega)
  have z4 := h3 4 (by omega) (by omega)
  have blk : ∀ i : Int, 0 ≤ i → i < 5 → a + 2 ≤ r i := fun i i0 i1 => by
    obtain ⟨j, q2, q3⟩ := (h3 i i0 i1).2.1; omega
  have b0 := blk 0 (by omega) (by omega)
  have b1 := blk 1 (by omega) (by omega)
  have b2 := blk 2 (by omega) (by omega)
  have b3 := blk 3 (by omega) (by omega)
  have b4 := blk 4 (by omega) (by omega)
  obtain ⟨g1, e1, p1, o1⟩ := st1 1 (r 0) h R (r 1) h1 h2 z1.1 (by omega) ⟨_, z1.2.2.1⟩ (by omega) (by omega)
  obtain ⟨g2, e2, p2, o2⟩ := st1 (1 + 1) (r 0) g1 _ (r 2) ((o1 a (by omega)).trans h1) p1 (by rw [tm_up_ne (by omega)]; exact z2.1) (by omega) ⟨_, z2.2.2.1.cg (fun q q0 q1 => o1 q (by omega))⟩ (by omega) (by omega)
  obtain ⟨g3, e3, p3, o3⟩ := st1 (1 + 1 + 1) (r 0) g2 _ (r 3) ((o2 a (by omega)).trans ((o1 a (by omega)).trans h1)) p2 (by rw [tm_up_ne (by omega), tm_up_ne (by omega)]; exact z3.1) (by omega) ⟨_, z3.2.2.1.cg (fun q q0 q1 => by rw [o2 q (by omega), o1 q (by omega)])⟩ (by omega) (by omega)
  obtain ⟨g4, e4, p4, o4⟩ := st1 (1 + 1 + 1 + 1) (r 0) g3 _ (r 4) ((o3 a (by omega)).trans ((o2 a (by omega)).trans ((o1 a (by omega)).trans h1))) p3 (by rw [tm_up_ne (by omega), tm_up_ne (by omega), tm_up_ne (by omega)]; exact z4.1) (by omega) ⟨_, z4.2.2.1.cg (fun q q0 q1 => by rw [o3 q (by omega), o2 q (by omega), o1 q (by omega)])⟩ (by omega) (by omega)
  have ka : g4 a = some (.inl (1, [.inr (some (a + 1)), .inl 5])) := by rw [o4 _ (by omega), o3 _ (by omega), o2 _ (by omega), o1 _ (by omega)]; exact h1
  have f4 : ∀ q, q ≠ a + 1 → g4 q = h q := fun q hq => by rw [o4 q hq, o3 q hq, o2 q hq, o1 q hq]
  obtain ⟨g5, e5, p5, o5⟩ := tn_WR (c := 4) (b := r 0) (i := 4) p4 (by omega) (by omega) (by simp [tm_kd, (f4 (r 0) (by omega)).trans (tx4_ob z0.2.2.1)])
  obtain ⟨g6, e6, p6, o6⟩ := tn_SF (k := 1) ((o5 a (by omega)).trans ka) (.inl 4) (by simp)
  have f6 : ∀ q, q ≠ a → q ≠ a + 1 → g6 q = h q := fun q q0 q1 => by rw [o6 q q0, o5 q q1, f4 q q1]
  refine ⟨g6, ?_, ⟨_, fun i => r (if i = 4 then 0 else i + 1), fun i => S (if i = 4 then 0 else i + 1), p6, (o6 _ (by omega)).trans p5, fun i i0 i1 => ?_, fun i j i0 i1 j0 j1 e => ?_, by omega, by omega⟩, fun q hq => f6 q (by omega) (by omega)⟩
  · simp only [fX1_dropOldest, tn_th h1, tn_gR (k := 0) h1 rfl, Option.bind_some, tn_lR h2 (show (0 : Int) ≤ 0 by omega) (show (0 : Int) < (5 : Nat) by omega), z0.1]
    rw [e1, e2, e3, e4, fX1_dropOldest_L9_eq, if_neg (by omega), tn_gR (k := 0) ka rfl, Option.bind_some, e5, Option.bind_some, tn_gI (k := 1) ((o5 a (by omega)).trans ka) rfl, Option.bind_some, tm_wr_id (by omega) (by omega), show (5 : Int) - 1 = 4 by omega, e6]
    rfl
  · have hq : ∀ (b : Nat) (s : tn_St), a + 2 ≤ b → tn_Q h b s → tn_Q g6 b s := fun b s hb Q => Q.cg (fun q q0 q1 => f6 q (by omega) (by omega))
    have ci : i = 0 ∨ i = 1 ∨ i = 2 ∨ i = 3 ∨ i = 4 := by omega
    rcases ci with c | c | c | c | c <;> subst c
    · exact ⟨rfl, z1.2.1, hq _ _ b1 z1.2.2.1, fun _ => z1.2.2.2 (by omega)⟩
    · exact ⟨rfl, z2.2.1, hq _ _ b2 z2.2.2.1, fun _ => z2.2.2.2 (by omega)⟩
    · exact ⟨rfl, z3.2.1, hq _ _ b3 z3.2.2.1, fun _ => z3.2.2.2 (by omega)⟩
    · exact ⟨rfl, z4.2.1, hq _ _ b4 z4.2.2.1, fun _ => z4.2.2.2 (by omega)⟩
    · exact ⟨rfl, z0.2.1, hq _ _ b0 z0.2.2.1, fun x => absurd x (by omega)⟩
  · dsimp only at e
    have := h4 _ _ (by split <;> omega) (by split <;> omega) (by split <;> omega) (by split <;> omega) e
    split at this <;> split at this <;> omega
/-- what the history is after a state came -/
def tn_hz (z : Int) : Int := if z < 5 then z + 1 else 5
def tn_hs (z : Int) (st : Int → tn_St) (s : tn_St) : Int → tn_St := fun i => if z < 5 then (if i = z then s else st i) else (if i = 4 then s else st (i + 1))
theorem tx1_keep {b : Nat} {s : tn_St} (H : tn_Y h a z st) (G : tn_Q h b s) (hd : b + 50 ≤ a ∨ a + 252 ≤ b) : ∃ h', fX1_keep a b h = some h' ∧ tn_Y h' a (tn_hz z) (tn_hs z st s) ∧ tn_fr a (a + 252) h h' := by
  have H0 := H
  have hz := H.rg
  obtain ⟨R, r, S, h1, h2, h3, h4, h5⟩ := H
  simp only [fX1_keep, tn_th h1, tn_gI (k := 1) h1 rfl, Option.bind_some]
  unfold tn_hz tn_hs
  by_cases c : z < 5
  · obtain ⟨h', e, Y, f⟩ := tx1_keep_l H0 G hd c
    simp only [if_pos c]
    exact ⟨h', e, Y, f⟩
  · obtain ⟨hA, eA, YA, fA⟩ := tx1_drop H0 (by omega)
    obtain ⟨h', e, Y, f⟩ := tx1_keep_l YA (G.cg (fA.off (by omega))) hd (by omega)
    simp only [if_neg c]
    exact ⟨h', by rw [eA]; exact e, Y, fA.tr f⟩
theorem tx1_give {b : Nat} {s : tn_St} (H : tn_Y h a z st) (G : tn_Q h b s) (hd : b + 50 ≤ a ∨ a + 252 ≤ b) (hz : 0 < z) : ∃ h', fX1_giveBack a b h = some h' ∧ tn_Y h' a (z - 1) st ∧ tn_Q h' b (st (z - 1)) ∧ ∀ q, ¬ (a ≤ q ∧ q < a + 252) → ¬ (b ≤ q ∧ q < b + 50) → h' q = h q := by
  obtain ⟨R, r, S, h1, h2, h3, h4, h5⟩ := H
  obtain ⟨hA, eA, pA, oA⟩ := tn_SF (k := 1) h1 (.inl (z - 1)) (by simp)
  obtain ⟨q1, ⟨j, q2, q3⟩, q4, q5⟩ := h3 (z - 1) (by omega) (by omega)
  obtain ⟨hB, eB, QB, fB⟩ := tx4_copyFrom (G.cg (h' := hA) (fun q _ _ => oA q (by omega))) (q4.cg (h' := hA) (fun q _ _ => oA q (by omega))) (by omega)
  refine ⟨hB, ?_, ⟨R, r, S, by rw [fB _ (by omega)]; exact pA, by rw [fB _ (by omega), oA _ (by omega)]; exact h2, fun i i0 i1 => ?_, h4, by omega, by omega⟩, ?_, fun q q0 q1 => by rw [fB q (by omega), oA q (by omega)]⟩
  · simp only [fX1_giveBack, tn_th h1, tn_gI (k := 1) h1 rfl, Option.bind_some]
    rw [if_pos hz, tm_wr_id (by omega) (by omega), eA, Option.bind_some, tn_gR (k := 0) pA rfl, Option.bind_some, tn_gI (k := 1) pA rfl, Option.bind_some, tn_lR ((oA _ (by omega)).trans h2) (by omega) (by omega), q1, Option.bind_some, eB]
    rfl
  · obtain ⟨u1, ⟨j', u2, u3⟩, u4, u5⟩ := h3 i i0 i1
    exact ⟨u1, ⟨j', u2, u3⟩, u4.cg (fun q v1 v2 => by rw [fB q (by omega), oA q (by omega)]), fun hi => u5 (by omega)⟩
  · rw [← q5 (by omega)]; exact QB
end HIS
