/-! the class loads -/
def tn_D (h : tm_H) (a : Nat) (l : Int) (x : Int → Int) (s : tn_St) (g : Nat → Int) (st en : Int) : Prop :=
  h a = some (.inl (2, [.inr (some (a + 1)), .inr (some (a + 3)), .inr (some (a + 53)), .inl st, .inl en])) ∧ tn_X h (a + 1) l x ∧ tn_Q h (a + 3) s ∧ h (a + 53) = some (.inr (0, 4, .inl g))
section LDR
variable {h : tm_H} {a : Nat} {l : Int} {x : Int → Int} {s : tn_St} {g : Nat → Int} {st en : Int}
theorem tn_D.cg {h' : tm_H} (H : tn_D h a l x s g st en) (e : tn_eq a (a + 54) h h') : tn_D h' a l x s g st en :=
  ⟨by rw [e a (by omega) (by omega)]; exact H.1, H.2.1.cg (e.sub (by omega) (by omega)), H.2.2.1.cg (e.sub (by omega) (by omega)), by rw [e _ (by omega) (by omega)]; exact H.2.2.2⟩
theorem tn_D.gg (H : tn_D h a l x s g st en) : tm_gR h 2 0 a = some (a + 1) ∧ tm_gR h 2 1 a = some (a + 3) ∧ tm_gR h 2 2 a = some (a + 53) ∧ tm_gI h 2 3 a = some st ∧ tm_gI h 2 4 a = some en :=
  ⟨tn_gR (k := 0) H.1 rfl, tn_gR (k := 1) H.1 rfl, tn_gR (k := 2) H.1 rfl, tn_gI (k := 3) H.1 rfl, tn_gI (k := 4) H.1 rfl⟩
theorem tn_D.sst (H : tn_D h a l x s g st en) (v : Int) : ∃ h', tm_sF h 2 3 a (.inl v) = some h' ∧ tn_D h' a l x s g v en ∧ tn_fr a (a + 54) h h' := by
  obtain ⟨h', e, p, o⟩ := tn_SF (k := 3) H.1 (.inl v) (by simp)
  exact ⟨h', e, ⟨p, H.2.1.cg (fun q _ _ => o q (by omega)), H.2.2.1.cg (fun q _ _ => o q (by omega)), by rw [o _ (by omega)]; exact H.2.2.2⟩, fun q hq => o q (by omega)⟩
theorem tn_D.sen (H : tn_D h a l x s g st en) (v : Int) : ∃ h', tm_sF h 2 4 a (.inl v) = some h' ∧ tn_D h' a l x s g st v ∧ tn_fr a (a + 54) h h' := by
  obtain ⟨h', e, p, o⟩ := tn_SF (k := 4) H.1 (.inl v) (by simp)
  exact ⟨h', e, ⟨p, H.2.1.cg (fun q _ _ => o q (by omega)), H.2.2.1.cg (fun q _ _ => o q (by omega)), by rw [o _ (by omega)]; exact H.2.2.2⟩, fun q hq => o q (by omega)⟩
/-- the state is another -/
theorem tn_D.setQ {h' : tm_H} {s' : tn_St} (H : tn_D h a l x s g st en) (Q : tn_Q h' (a + 3) s') (f : tn_fr (a + 3) (a + 3 + 50) h h') : tn_D h' a l x s' g st en :=
  ⟨by rw [f _ (by omega)]; exact H.1, H.2.1.cg (f.off (by omega)), Q, by rw [f _ (by omega)]; exact H.2.2.2⟩
/-- what loading leaves -/
def tn_pl (h : tm_H) (a : Nat) (l : Int) (x : Int → Int) (v : Int) (r : Int ⊕ (Int × tn_St)) : Prop := match r with
  | .inl f => v = -1000 - f ∧ ∃ s' g' st' en', tn_D h a l x s' g' st' en'
  | .inr (i, s') => v = i ∧ ∃ g' st' en', tn_D h a l x s' g' st' en'
theorem tx2_init {v0 v1 v2 v3 v4 : tm_Fv} (e : h a = some (.inl (2, [v0, v1, v2, v3, v4]))) : ∃ h', fX2_init a h (a + 1) = some (h', a + 54) ∧ tn_D h' a 0 (fun _ => 0) tn_s0 (fun _ => 0) 0 0 ∧ tn_fr a (a + 54) h h' := by
  obtain ⟨h1, e1, p1, o1⟩ := tn_NW h (a + 1) (.inl (6, [.inr none, .inl 0]))
  obtain ⟨h2, e2, X2, f2⟩ := tx6_init p1
  obtain ⟨h3, e3, p3, o3⟩ := tn_SF (k := 0) ((f2 a (by omega)).trans ((o1 a (by omega)).trans e)) (.inr (some (a + 1))) (by simp)
  obtain ⟨h4, e4, p4, o4⟩ := tn_NW h3 (a + 3) (.inl (4, [.inr none, .inr none, .inr none, .inr none, .inr none]))
  obtain ⟨h5, e5, Q5, f5⟩ := tx4_init p4
  obtain ⟨h6, e6, p6, o6⟩ := tn_SF (k := 1) ((f5 a (by omega)).trans ((o4 a (by omega)).trans p3)) (.inr (some (a + 3))) (by simp)
  obtain ⟨h7, e7, p7, o7⟩ := tn_NW h6 (a + 53) (.inr (0, 4, .inl (fun _ => 0)))
  obtain ⟨h8, e8, p8, o8⟩ := tn_SF (k := 2) ((o7 a (by omega)).trans p6) (.inr (some (a + 53))) (by simp)
  obtain ⟨h9, e9, p9, o9⟩ := tn_SF (k := 3) p8 (.inl 0) (by simp)
  obtain ⟨h10, e10, p10, o10⟩ := tn_SF (k := 4) p9 (.inl 0) (by simp)
  have up : ∀ q, q ≠ a → q < a + 53 → h10 q = h5 q := fun q q0 q1 => by rw [o10 q q0, o9 q q0, o8 q q0, o7 q (by omega), o6 q q0]
  refine ⟨h10, ?_, ⟨p10, X2.cg (fun q q0 q1 => ?_), Q5.cg (fun q q0 q1 => up q (by omega) (by omega)), ?_⟩, fun q hq => ?_⟩
  · simp only [fX2_init, tn_th e, e1, Option.bind_some, e2, e3, e4, e5, e6, e7, e8, e9, e10]
  · rw [up q (by omega) (by omega), f5 q (by omega), o4 q (by omega), o3 q (by omega)]
  · rw [o10 _ (by omega), o9 _ (by omega), o8 _ (by omega)]; exact p7
  · rw [o10 q (by omega), o9 q (by omega), o8 q (by omega), o7 q (by omega), o6 q (by omega), f5 q (by omega), o4 q (by omega), o3 q (by omega), f2 q (by omega), o1 q (by omega)]
/-- the history begins empty -/
theorem tx1_one {R : Nat → Option Nat} {k b : Nat} {z : Int} (hb : b = a + 2 + 50 * k) (h1 : h a = some (.inl (1, [.inr (some (a + 1)), .inl z]))) (h2 : h (a + 1) = some (.inr (4, 5, .inr (.inr R)))) (hk : k < 5) : ∃ hA hB hC, tm_nw h b (.inl (4, [.inr none, .inr none, .inr none, .inr none, .inr none])) = some hA ∧ fX4_init b hA (b + 1) = some (hB, b + 50) ∧ tm_wR hB 4 (a + 1) (k : Int) 4 b = some hC ∧ tm_gR h 1 0 a = some (a + 1) ∧ hC (a + 1) = some (.inr (4, 5, .inr (.inr (tm_up R k (some b))))) ∧ tn_Q hC b tn_s0 ∧ ∀ q, q ≠ a + 1 → q < b ∨ b + 50 ≤ q → hC q = h q := by
  obtain ⟨hA, eA, pA, oA⟩ := tn_NW h b (.inl (4, [.inr none, .inr none, .inr none, .inr none, .inr none]))
  obtain ⟨hB, eB, QB, fB⟩ := tx4_init pA
  obtain ⟨hC, eC, pC, oC⟩ := tn_WR (c := 4) (b := b) (i := (k : Int)) ((fB (a + 1) (by omega)).trans ((oA (a + 1) (by omega)).trans h2)) (by omega) (by omega) (by simp [tm_kd, tx4_ob QB])
  exact ⟨hA, hB, hC, eA, eB, eC, tn_gR (k := 0) h1 rfl, pC, QB.cg (fun q q0 q1 => oC q (by omega)), fun q q0 q1 => by rw [oC q q0, fB q (by omega), oA q (by omega)]⟩
theorem tx1_init {v0 v1 : tm_Fv} (e : h a = some (.inl (1, [v0, v1]))) : ∃ h', fX1_init a h (a + 1) = some (h', a + 252) ∧ tn_Y h' a 0 (fun _ => tn_s0) ∧ tn_fr a (a + 252) h h' := by
  obtain ⟨h1, e1, p1, o1⟩ := tn_NW h (a + 1) (.inr (4, 5, .inr (.inr (fun _ => none))))
  obtain ⟨h2, e2, p2, o2⟩ := tn_SF (k := 0) ((o1 a (by omega)).trans e) (.inr (some (a + 1))) (by simp)
  obtain ⟨h3, e3, p3, o3⟩ := tn_SF (k := 1) p2 (.inl 0) (by simp)
  have p3 : h3 a = some (.inl (1, [.inr (some (a + 1)), .inl 0])) := p3
  have q3 : h3 (a + 1) = _ := (o3 _ (by omega)).trans ((o2 _ (by omega)).trans p1)
  obtain ⟨a1, b1, g1, A1, B1, C1, G1, P1, Q1, O1⟩ := tx1_one (k := 0) (b := a + 1 + 1) (by omega) p3 q3 (by omega)
  have k1 : g1 a = _ := (O1 a (by omega) (by omega)).trans p3
  obtain ⟨a2, b2, g2, A2, B2, C2, G2, P2, Q2, O2⟩ := tx1_one (k := 1) (b := a + 1 + 1 + 50) (by omega) k1 P1 (by omega)
  have k2 : g2 a = _ := (O2 a (by omega) (by omega)).trans k1
  obtain ⟨a3, b3, g3, A3, B3, C3, G3, P3, Q3, O3⟩ := tx1_one (k := 2) (b := a + 1 + 1 + 50 + 50) (by omega) k2 P2 (by omega)
  have k3 : g3 a = _ := (O3 a (by omega) (by omega)).trans k2
  obtain ⟨a4, b4, g4, A4, B4, C4, G4, P4, Q4, O4⟩ := tx1_one (k := 3) (b := a + 1 + 1 + 50 + 50 + 50) (by omega) k3 P3 (by omega)
  have k4 : g4 a = _ := (O4 a (by omega) (by omega)).trans k3
  obtain ⟨a5, b5, g5, A5, B5, C5, G5, P5, Q5, O5⟩ := tx1_one (k := 4) (b := a + 1 + 1 + 50 + 50 + 50 + 50) (by omega) k4 P4 (by omega)
  have k5 : g5 a = _ := (O5 a (by omega) (by omega)).trans k4
  have Q1' : tn_Q g5 (a + 2 + 50 * 0) tn_s0 := Q1.cg (fun q q0 q1 => by rw [O5 q (by omega) (by omega), O4 q (by omega) (by omega), O3 q (by omega) (by omega), O2 q (by omega) (by omega)])
  have Q2' : tn_Q g5 (a + 2 + 50 * 1) tn_s0 := Q2.cg (fun q q0 q1 => by rw [O5 q (by omega) (by omega), O4 q (by omega) (by omega), O3 q (by omega) (by omega)])
  have Q3' : tn_Q g5 (a + 2 + 50 * 2) tn_s0 := Q3.cg (fun q q0 q1 => by rw [O5 q (by omega) (by omega), O4 q (by omega) (by omega)])
  have Q4' : tn_Q g5 (a + 2 + 50 * 3) tn_s0 := Q4.cg (fun q q0 q1 => by rw [O5 q (by omega) (by omega)])
  refine ⟨g5, ?_, ⟨_, fun i => a + 2 + 50 * i.toNat, fun _ => tn_s0, k5, P5, fun i i0 i1 => ?_, fun i j i0 i1 j0 j1 ee => by dsimp only at ee; omega, by omega, by omega⟩, fun q hq => ?_⟩
  · have B1 : fX4_init (a + 1 + 1) a1 (a + 1 + 2) = some (b1, a + 1 + 1 + 50) := B1
    have C1 : tm_wR b1 4 (a + 1) 0 4 (a + 1 + 1) = some g1 := C1
    have C2 : tm_wR b2 4 (a + 1) 1 4 (a + 1 + 1 + 50) = some g2 := C2
    have C3 : tm_wR b3 4 (a + 1) 2 4 (a + 1 + 1 + 50 + 50) = some g3 := C3
    have C4 : tm_wR b4 4 (a + 1) 3 4 (a + 1 + 1 + 50 + 50 + 50) = some g4 := C4
    have C5 : tm_wR b5 4 (a + 1) 4 4 (a + 1 + 1 + 50 + 50 + 50 + 50) = some g5 := C5
    simp only [fX1_init, tn_th e, e1, Option.bind_some, e2, e3, G1, A1, B1, C1, G2, A2, B2, C2, G3, A3, B3, C3, G4, A4, B4, C4, G5, A5, B5, C5]
  · have ci : i = 0 ∨ i = 1 ∨ i = 2 ∨ i = 3 ∨ i = 4 := by omega
    rcases ci with c | c | c | c | c <;> subst c
    · exact ⟨rfl, ⟨0, by omega, rfl⟩, Q1', fun _ => rfl⟩
    · exact ⟨rfl, ⟨1, by omega, rfl⟩, Q2', fun _ => rfl⟩
    · exact ⟨rfl, ⟨2, by omega, rfl⟩, Q3', fun _ => rfl⟩
    · exact ⟨rfl, ⟨3, by omega, rfl⟩, Q4', fun _ => rfl⟩
    · exact ⟨rfl, ⟨4, by omega, rfl⟩, Q5, fun _ => rfl⟩
  · rw [O5 q (by omega) (by omega), O4 q (by omega) (by omega), O3 q (by omega) (by omega), O2 q (by omega) (by omega), O1 q (by omega) (by omega), o3 q (by omega), o2 q (by omega), o1 q (by omega)]
end LDR
