/-! states -/
abbrev tn_St : Type := (Int × ((Int → Int) × (Int → Int64))) × (((Int → Int) × (Int → Int → Int)) × ((Int × ((Int → Int) × ((Int → Int → Int) × (Int → Int)))) × ((Int → Int) × ((Int → Int → Int) × (Int → Int → Int → Int)))))
abbrev tn_n (s : tn_St) : Int := s.1.1
abbrev tn_bs (s : tn_St) : Int → Int := s.1.2.1
abbrev tn_sp (s : tn_St) : Int → Int64 := s.1.2.2
abbrev tn_sz (s : tn_St) : Int → Int := s.2.1.1
abbrev tn_wd (s : tn_St) : Int → Int → Int := s.2.1.2
abbrev tn_nT (s : tn_St) : Int := s.2.2.1.1
abbrev tn_tl (s : tn_St) : Int → Int := s.2.2.1.2.1
abbrev tn_tw (s : tn_St) : Int → Int → Int := s.2.2.1.2.2.1
abbrev tn_tq (s : tn_St) : Int → Int := s.2.2.1.2.2.2
abbrev tn_tk (s : tn_St) : Int → Int := s.2.2.2.1
abbrev tn_zs (s : tn_St) : Int → Int → Int := s.2.2.2.2.1
abbrev tn_zw (s : tn_St) : Int → Int → Int → Int := s.2.2.2.2.2
/-- the state's own object, its slots -/
def tn_K (h : tm_H) (a : Nat) (tk : Int → Int) (zs : Int → Int → Int) (zw : Int → Int → Int → Int) : Prop :=
  h a = some (.inl (4, [.inr (some (a + 1)), .inr (some (a + 4)), .inr (some (a + 13)), .inr (some (a + 30)), .inr (some (a + 31))])) ∧ (∃ R : Nat → Option Nat, h (a + 30) = some (.inr (3, 2, .inr (.inr R))) ∧ ∀ s : Int, 0 ≤ s → s < 2 → R s.toNat = some (a + 32 + 9 * s.toNat)) ∧ (∃ f : Nat → Int, h (a + 31) = some (.inr (2, 2, .inl f)) ∧ ∀ s : Int, 0 ≤ s → s < 2 → f s.toNat = tk s ∧ (tk s = 0 ∨ tk s = 1)) ∧ ∀ s : Int, 0 ≤ s → s < 2 → ∃ sz wd, tn_C h (a + 32 + 9 * s.toNat) sz wd ∧ (tk s = 1 → ∀ c : Int, 0 ≤ c → c < 6 → zs s c = sz c ∧ ∀ p : Int, 0 ≤ p → p < sz c → zw s c p = wd c p)
def tn_Q (h : tm_H) (a : Nat) (s : tn_St) : Prop := tn_W h (a + 1) (tn_n s) (tn_bs s) (tn_sp s) ∧ tn_C h (a + 4) (tn_sz s) (tn_wd s) ∧ tn_T h (a + 13) (tn_nT s) (tn_tl s) (tn_tw s) (tn_tq s) ∧ tn_K h a (tn_tk s) (tn_zs s) (tn_zw s)
/-- what is told of is there -/
def tn_ok (s : tn_St) : Prop := 26 ≤ tn_n s ∧ tn_n s ≤ 60 ∧ (∀ w : Int, 0 ≤ w → w < tn_n s → 0 ≤ tn_bs s w ∧ tn_bs s w < tn_n s) ∧ (∀ c : Int, 0 ≤ c → c < 6 → 0 ≤ tn_sz s c ∧ tn_sz s c ≤ 40 ∧ ∀ p : Int, 0 ≤ p → p < tn_sz s c → 0 ≤ tn_wd s c p ∧ tn_wd s c p < tn_n s) ∧ 0 ≤ tn_nT s ∧ tn_nT s ≤ 13 ∧ (∀ t : Int, 0 ≤ t → t < tn_nT s → 1 ≤ tn_tl s t ∧ tn_tl s t ≤ 4 ∧ (tn_tq s t = 0 ∨ tn_tq s t = 1) ∧ ∀ k : Int, 0 ≤ k → k < tn_tl s t → 0 ≤ tn_tw s t k ∧ tn_tw s t k < tn_n s) ∧ ∀ z : Int, 0 ≤ z → z < 2 → (tn_tk s z = 0 ∨ tn_tk s z = 1) ∧ (tn_tk s z = 1 → ∀ c : Int, 0 ≤ c → c < 6 → 0 ≤ tn_zs s z c ∧ tn_zs s z c ≤ 40 ∧ ∀ p : Int, 0 ≤ p → p < tn_zs s z c → 0 ≤ tn_zw s z c p ∧ tn_zw s z c p < tn_n s)
theorem tn_K.cg {h h' : tm_H} {a : Nat} {tk : Int → Int} {zs : Int → Int → Int} {zw : Int → Int → Int → Int} (H : tn_K h a tk zs zw) (e : ∀ q, q = a ∨ a + 30 ≤ q ∧ q < a + 50 → h' q = h q) : tn_K h' a tk zs zw := by
  obtain ⟨h1, ⟨R, h2, h3⟩, ⟨f, h4, h5⟩, h6⟩ := H
  refine ⟨by rw [e _ (by omega)]; exact h1, ⟨R, by rw [e _ (by omega)]; exact h2, h3⟩, ⟨f, by rw [e _ (by omega)]; exact h4, h5⟩, fun s s0 s1 => ?_⟩
  obtain ⟨sz, wd, q1, q2⟩ := h6 s s0 s1
  exact ⟨sz, wd, q1.cg (fun q _ _ => e q (by omega)), q2⟩
theorem tn_Q.cg {h h' : tm_H} {a : Nat} {s : tn_St} (H : tn_Q h a s) (e : tn_eq a (a + 50) h h') : tn_Q h' a s := by
  obtain ⟨h1, h2, h3, h4⟩ := H
  exact ⟨h1.cg (e.sub (by omega) (by omega)), h2.cg (e.sub (by omega) (by omega)), h3.cg (e.sub (by omega) (by omega)), h4.cg (fun q hq => e q (by omega) (by omega))⟩
theorem tn_Q.setW {h h' : tm_H} {a : Nat} {s : tn_St} (H : tn_Q h a s) {n : Int} {bs : Int → Int} {sp : Int → Int64} (W : tn_W h' (a + 1) n bs sp) (f : tn_fr (a + 1) (a + 1 + 3) h h') : tn_Q h' a ((n, (bs, sp)), s.2) := by
  obtain ⟨h1, h2, h3, h4⟩ := H
  exact ⟨W, h2.cg (f.off (by omega)), h3.cg (f.off (by omega)), h4.cg (fun q hq => f q (by omega))⟩
theorem tn_Q.setC {h h' : tm_H} {a : Nat} {s : tn_St} (H : tn_Q h a s) {sz : Int → Int} {wd : Int → Int → Int} (C : tn_C h' (a + 4) sz wd) (f : tn_fr (a + 4) (a + 4 + 9) h h') : tn_Q h' a (s.1, ((sz, wd), s.2.2)) := by
  obtain ⟨h1, h2, h3, h4⟩ := H
  exact ⟨h1.cg (f.off (by omega)), C, h3.cg (f.off (by omega)), h4.cg (fun q hq => f q (by omega))⟩
theorem tn_Q.setT {h h' : tm_H} {a : Nat} {s : tn_St} (H : tn_Q h a s) {n : Int} {tl : Int → Int} {tw : Int → Int → Int} {tq : Int → Int} (T : tn_T h' (a + 13) n tl tw tq) (f : tn_fr (a + 13) (a + 13 + 17) h h') : tn_Q h' a (s.1, (s.2.1, ((n, (tl, (tw, tq))), s.2.2.2))) := by
  obtain ⟨h1, h2, h3, h4⟩ := H
  exact ⟨h1.cg (f.off (by omega)), h2.cg (f.off (by omega)), T, h4.cg (fun q hq => f q (by omega))⟩
theorem tn_Q.setK {h h' : tm_H} {a : Nat} {s : tn_St} (H : tn_Q h a s) {tk : Int → Int} {zs : Int → Int → Int} {zw : Int → Int → Int → Int} (K : tn_K h' a tk zs zw) (f : tn_fr (a + 30) (a + 50) h h') : tn_Q h' a (s.1, (s.2.1, (s.2.2.1, (tk, (zs, zw))))) := by
  obtain ⟨h1, h2, h3, h4⟩ := H
  exact ⟨h1.cg (f.off (by omega)), h2.cg (f.off (by omega)), h3.cg (f.off (by omega)), K⟩
section STT
variable {h : tm_H} {a : Nat} {s : tn_St}
/-- the parts of a state, as its own methods reach them -/
theorem tx4_ob (H : tn_Q h a s) : h a = some (.inl (4, [.inr (some (a + 1)), .inr (some (a + 4)), .inr (some (a + 13)), .inr (some (a + 30)), .inr (some (a + 31))])) := H.2.2.2.1
theorem tx4_g (H : tn_Q h a s) : tm_gR h 4 0 a = some (a + 1) ∧ tm_gR h 4 1 a = some (a + 4) ∧ tm_gR h 4 2 a = some (a + 13) ∧ tm_gR h 4 3 a = some (a + 30) ∧ tm_gR h 4 4 a = some (a + 31) :=
  ⟨tn_gR (k := 0) (tx4_ob H) rfl, tn_gR (k := 1) (tx4_ob H) rfl, tn_gR (k := 2) (tx4_ob H) rfl, tn_gR (k := 3) (tx4_ob H) rfl, tn_gR (k := 4) (tx4_ob H) rfl⟩
theorem tx4_hasSlot (H : tn_Q h a s) (z : Int) : fX4_hasSlot a z h = some (tn_b (0 ≤ z ∧ z < 2)) := by
  simp only [fX4_hasSlot, tn_th (tx4_ob H)]
  by_cases c1 : z < 0
  · rw [if_pos c1, tn_b0 (by omega)]
  · by_cases c2 : z < 2
    · rw [if_neg c1, if_pos c2, tn_b1 (by omega)]
    · rw [if_neg c1, if_neg c2, tn_b0 (by omega)]
theorem tx4_tk (H : tn_Q h a s) {z : Int} (hz : 0 ≤ z ∧ z < 2) : tm_lI h 2 (a + 31) z = some (tn_tk s z) ∧ (tn_tk s z = 0 ∨ tn_tk s z = 1) := by
  obtain ⟨_, _, _, _, _, ⟨f, h4, h5⟩, _⟩ := H
  refine ⟨?_, (h5 z hz.1 hz.2).2⟩
  rw [tn_lI h4 hz.1 (by omega), (h5 z hz.1 hz.2).1]
theorem tx4_isTaken (H : tn_Q h a s) {z : Int} (hz : 0 ≤ z ∧ z < 2) : fX4_isTaken a z h = some (tn_tk s z) := by
  obtain ⟨g0, g1, g2, g3, g4⟩ := tx4_g H
  obtain ⟨t1, t2⟩ := tx4_tk H hz
  simp only [fX4_isTaken, tn_th (tx4_ob H), tx4_hasSlot H, tn_b1 hz, Option.bind_some, g4, t1]
  rw [if_neg (by omega)]
  rcases t2 with c | c
  · rw [if_pos c, c]
  · rw [if_neg (by omega), c]
theorem tx4_takenCount (H : tn_Q h a s) : fX4_takenCount a h = some (tn_tk s 0 + tn_tk s 1) := by
  obtain ⟨g0, g1, g2, g3, g4⟩ := tx4_g H
  obtain ⟨t1, t2⟩ := tx4_tk H (z := 0) (by omega)
  obtain ⟨u1, u2⟩ := tx4_tk H (z := 1) (by omega)
  simp only [fX4_takenCount, tn_th (tx4_ob H)]
  have st : ∀ x k : Int, 0 ≤ k → k < 2 → -5 ≤ x → x ≤ 5 → fX4_takenCount_L4 a h x k = fX4_takenCount_L4 a h (x + tn_tk s k) (k + 1) := by
    intro x k k0 k1 x0 x1
    obtain ⟨t1, t2⟩ := tx4_tk H ⟨k0, k1⟩
    rw [fX4_takenCount_L4_eq, if_pos k1, g4, Option.bind_some, t1, Option.bind_some, fX4_takenCount_L21_eq, fX4_takenCount_L21_eq, tm_wr_id (z := k + 1) (by omega) (by omega), tm_wr_id (z := x + 1) (by omega) (by omega)]
    rcases t2 with c | c
    · rw [if_pos c, c, Int.add_zero]
    · rw [if_neg (by omega), c]
  rw [st 0 0 (by omega) (by omega) (by omega) (by omega), st _ _ (by omega) (by omega) (by omega) (by omega), fX4_takenCount_L4_eq, if_neg (by omega)]
  simp
theorem tx4_slot (H : tn_Q h a s) {z : Int} (hz : 0 ≤ z ∧ z < 2) : tm_lR h 3 (a + 30) z = some (a + 32 + 9 * z.toNat) ∧ ∃ sz wd, tn_C h (a + 32 + 9 * z.toNat) sz wd ∧ (tn_tk s z = 1 → ∀ c : Int, 0 ≤ c → c < 6 → tn_zs s z c = sz c ∧ ∀ p : Int, 0 ≤ p → p < sz c → tn_zw s z c p = wd c p) := by
  obtain ⟨_, _, _, _, ⟨R, r1, r2⟩, _, h6⟩ := H
  exact ⟨by rw [tn_lR r1 hz.1 (by omega)]; exact r2 z hz.1 hz.2, h6 z hz.1 hz.2⟩
theorem tx4_keep (H : tn_Q h a s) {z : Int} (hz : 0 ≤ z ∧ z < 2) : ∃ h', fX4_keepChapters a z h = some h' ∧ tn_Q h' a (s.1, (s.2.1, (s.2.2.1, ((fun y => if y = z then 1 else tn_tk s y), ((fun y => if y = z then tn_sz s else tn_zs s y), (fun y => if y = z then tn_wd s else tn_zw s y)))))) ∧ tn_fr a (a + 50) h h' := by
  obtain ⟨g0, g1, g2, g3, g4⟩ := tx4_g H
  obtain ⟨l1, sz, wd, C, -⟩ := tx4_slot H hz
  obtain ⟨h1, e1, C1, f1⟩ := tx0_copyFrom C H.2.1 (by omega)
  have H0 := H
  obtain ⟨_, _, _, o, ⟨R, r1, r2⟩, ⟨f, k1, k2⟩, h6⟩ := H
  obtain ⟨h2, e2, p2, o2⟩ := tn_WZ 1 ((f1 (a + 31) (by omega)).trans k1) hz.1 (show z < (2 : Nat) by omega) (Or.inr rfl)
  have fr : ∀ q, q < a + 31 → h2 q = h q := fun q hq => by rw [o2 q (by omega), f1 q (by omega)]
  refine ⟨h2, ?_, H0.setK ⟨by rw [fr _ (by omega)]; exact o, ⟨R, by rw [fr _ (by omega)]; exact r1, r2⟩, ⟨_, p2, fun y y0 y1 => ?_⟩, fun y y0 y1 => ?_⟩ (fun q hq => by rw [o2 q (by omega), f1 q (by omega)]), fun q hq => by rw [o2 q (by omega), f1 q (by omega)]⟩
  · simp only [fX4_keepChapters, tn_th (tx4_ob H0), tx4_hasSlot H0, tn_b1 hz, Option.bind_some, g3, l1, g1, e1]
    rw [if_neg (by omega), tn_gR (k := 4) ((f1 a (by omega)).trans o) rfl, Option.bind_some, e2]
    rfl
  · rw [tm_up_app]
    dsimp only
    by_cases c : y = z
    · rw [if_pos c, if_pos (by omega)]; exact ⟨rfl, Or.inr rfl⟩
    · rw [if_neg c, if_neg (by omega)]; exact k2 y y0 y1
  · dsimp only
    by_cases c : y = z
    · subst c
      simp only [if_true]
      exact ⟨_, _, C1.cg (fun q _ _ => o2 q (by omega)), fun _ c _ _ => ⟨rfl, fun _ _ _ => rfl⟩⟩
    · simp only [if_neg c]
      obtain ⟨sz', wd', C', a'⟩ := h6 y y0 y1
      exact ⟨sz', wd', C'.cg (fun q q1 q2 => by rw [o2 q (by omega), f1 q (by omega)]), a'⟩
theorem tx4_bring (H : tn_Q h a s) {z : Int} (hz : 0 ≤ z ∧ z < 2) (ht : tn_tk s z = 1) : ∃ h', fX4_bringChapters a z h = some h' ∧ tn_Q h' a (s.1, ((tn_zs s z, tn_zw s z), s.2.2)) ∧ tn_fr a (a + 50) h h' := by
  obtain ⟨g0, g1, g2, g3, g4⟩ := tx4_g H
  obtain ⟨l1, sz, wd, C, ag⟩ := tx4_slot H hz
  obtain ⟨h1, e1, C1, f1⟩ := tx0_copyFrom H.2.1 C (by omega)
  refine ⟨h1, ?_, H.setC (C1.ext (fun c c0 c1 => ag ht c c0 c1)) f1, f1.wide (by omega) (by omega)⟩
  simp only [fX4_bringChapters, tn_th (tx4_ob H), tx4_isTaken H hz, ht, Option.bind_some, g1, g3, l1, e1]
  rfl
theorem tx4_copyFrom {b : Nat} {s' : tn_St} (H : tn_Q h a s) (G : tn_Q h b s') (hd : a + 50 ≤ b ∨ b + 50 ≤ a) : ∃ h', fX4_copyFrom a b h = some h' ∧ tn_Q h' a s' ∧ tn_fr a (a + 50) h h' := by
  obtain ⟨h1, e1, W1, f1⟩ := tx7_copyFrom H.1 G.1 (by omega)
  have H1 := H.setW W1 f1
  have G1 : tn_Q h1 b s' := G.cg (f1.off (by omega))
  obtain ⟨h2, e2, C2, f2⟩ := tx0_copyFrom H1.2.1 G1.2.1 (by omega)
  have H2 := H1.setC C2 f2
  have G2 : tn_Q h2 b s' := G1.cg (f2.off (by omega))
  obtain ⟨h3, e3, T3, f3⟩ := tx5_copyFrom H2.2.2.1 G2.2.2.1 (by omega)
  have H3 := H2.setT T3 f3
  have G3 : tn_Q h3 b s' := G2.cg (f3.off (by omega))
  have st : ∀ (k : Int) (h : tm_H) (tk : Int → Int) (zs : Int → Int → Int) (zw : Int → Int → Int → Int), tn_Q h a (s'.1, (s'.2.1, (s'.2.2.1, (tk, (zs, zw))))) → tn_Q h b s' → 0 ≤ k → k < 2 → ∃ h', fX4_copyFrom_L35 a b k h = fX4_copyFrom_L35 a b (k + 1) h' ∧ tn_Q h' a (s'.1, (s'.2.1, (s'.2.2.1, ((fun y => if y = k then tn_tk s' y else tk y), ((fun y => if y = k then tn_zs s' y else zs y), (fun y => if y = k then tn_zw s' y else zw y)))))) ∧ tn_Q h' b s' ∧ tn_fr a (a + 50) h h' := by
    intro k h tk zs zw H G k0 k1
    obtain ⟨g0, g1, g2, g3, g4⟩ := tx4_g H
    obtain ⟨j0, j1, j2, j3, j4⟩ := tx4_g G
    obtain ⟨l1, sz, wd, C, -⟩ := tx4_slot H ⟨k0, k1⟩
    obtain ⟨m1, sz', wd', D, ag⟩ := tx4_slot G ⟨k0, k1⟩
    obtain ⟨t1, t2⟩ := tx4_tk G ⟨k0, k1⟩
    obtain ⟨h1, e1, C1, f1⟩ := tx0_copyFrom C D (by omega)
    have G1 : tn_Q h1 b s' := G.cg (f1.off (by omega))
    obtain ⟨j0', j1', j2', j3', j4'⟩ := tx4_g G1
    obtain ⟨t1', t2'⟩ := tx4_tk G1 ⟨k0, k1⟩
    have H0 := H
    obtain ⟨_, _, _, o, ⟨R, r1, r2⟩, ⟨f, q1, q2⟩, h6⟩ := H
    obtain ⟨h2, e2, p2, o2⟩ := tn_WZ (tn_tk s' k) ((f1 (a + 31) (by omega)).trans q1) k0 (show k < (2 : Nat) by omega) t2
    have fr : ∀ q, q < a + 31 → h2 q = h q := fun q hq => by rw [o2 q (by omega), f1 q (by omega)]
    refine ⟨h2, ?_, H0.setK ⟨by rw [fr _ (by omega)]; exact o, ⟨R, by rw [fr _ (by omega)]; exact r1, r2⟩, ⟨_, p2, fun y y0 y1 => ?_⟩, fun y y0 y1 => ?_⟩ (fun q hq => by rw [o2 q (by omega), f1 q (by omega)]), G1.cg (fun q _ _ => o2 q (by omega)), fun q hq => by rw [o2 q (by omega), f1 q (by omega)]⟩
    · rw [fX4_copyFrom_L35_eq, if_pos k1, g3, Option.bind_some, l1, Option.bind_some, j3, Option.bind_some, m1, Option.bind_some, e1, Option.bind_some, tn_gR (k := 4) ((f1 a (by omega)).trans o) rfl, Option.bind_some, j4', Option.bind_some, t1', Option.bind_some, e2, Option.bind_some, tm_wr_id (by omega) (by omega)]
    · rw [tm_up_app]
      dsimp only
      by_cases c : y = k
      · rw [if_pos c, if_pos (by omega), c]; exact ⟨rfl, t2⟩
      · rw [if_neg c, if_neg (by omega)]; exact q2 y y0 y1
    · dsimp only
      by_cases c : y = k
      · subst c
        simp only [if_true]
        exact ⟨_, _, C1.cg (fun q _ _ => o2 q (by omega)), ag⟩
      · simp only [if_neg c]
        obtain ⟨sz', wd', C', a'⟩ := h6 y y0 y1
        exact ⟨sz', wd', C'.cg (fun q q1 q2 => by rw [o2 q (by omega), f1 q (by omega)]), a'⟩
  obtain ⟨h4, e4, H4, G4, f4⟩ := st 0 h3 _ _ _ H3 G3 (by omega) (by omega)
  obtain ⟨h5, e5, H5, G5, f5⟩ := st (0 + 1) h4 _ _ _ H4 G4 (by omega) (by omega)
  refine ⟨h5, ?_, ?_, fun q hq => by rw [f5 q hq, f4 q hq, f3 q (by omega), f2 q (by omega), f1 q (by omega)]⟩
  · obtain ⟨g0, g1, g2, g3, g4⟩ := tx4_g H
    obtain ⟨j0, j1, j2, j3, j4⟩ := tx4_g G
    obtain ⟨g0', g1', g2', g3', g4'⟩ := tx4_g H1
    obtain ⟨j0', j1', j2', j3', j4'⟩ := tx4_g G1
    obtain ⟨g0'', g1'', g2'', g3'', g4''⟩ := tx4_g H2
    obtain ⟨j0'', j1'', j2'', j3'', j4''⟩ := tx4_g G2
    simp only [fX4_copyFrom, tn_th (tx4_ob H), g0, j0, Option.bind_some, e1, g1', j1', e2, g2'', j2'', e3]
    rw [e4, e5, fX4_copyFrom_L35_eq, if_neg (by omega)]
  · obtain ⟨q1, q2, q3, q4, q5, ⟨f, q6, q7⟩, q8⟩ := H5
    refine ⟨q1, q2, q3, q4, q5, ⟨f, q6, fun y y0 y1 => ?_⟩, fun y y0 y1 => ?_⟩
    · have := q7 y y0 y1
      dsimp only at this
      by_cases c : y = 0 + 1
      · simp only [tn_tk, tn_zs, tn_zw, if_pos c] at this ⊢; exact this
      · simp only [tn_tk, tn_zs, tn_zw, if_neg c, if_pos (show y = 0 by omega)] at this ⊢; exact this
    · have := q8 y y0 y1
      dsimp only at this
      by_cases c : y = 0 + 1
      · simp only [tn_tk, tn_zs, tn_zw, if_pos c] at this ⊢; exact this
      · simp only [tn_tk, tn_zs, tn_zw, if_neg c, if_pos (show y = 0 by omega)] at this ⊢; exact this
theorem tn_ok.w (ok : tn_ok s) : ∀ t k : Int, 0 ≤ t → t < tn_nT s → 0 ≤ k → k < tn_tl s t → 0 ≤ tn_tw s t k ∧ tn_tw s t k < tn_n s := fun t k t0 t1 k0 k1 => (ok.2.2.2.2.2.2.1 t t0 t1).2.2.2 k k0 k1
theorem tn_ok.t (ok : tn_ok s) {t : Int} (h : 0 ≤ t ∧ t < tn_nT s) : 1 ≤ tn_tl s t ∧ tn_tl s t ≤ 4 := ⟨(ok.2.2.2.2.2.2.1 t h.1 h.2).1, (ok.2.2.2.2.2.2.1 t h.1 h.2).2.1⟩
theorem tn_ok.c (ok : tn_ok s) {c : Int} (h : 0 ≤ c ∧ c < 6) : 0 ≤ tn_sz s c ∧ tn_sz s c ≤ 40 := ⟨(ok.2.2.2.1 c h.1 h.2).1, (ok.2.2.2.1 c h.1 h.2).2.1⟩
theorem tn_ok.p (ok : tn_ok s) {c : Int} (h : 0 ≤ c ∧ c < 6) {p : Int} (hp : 0 ≤ p ∧ p < tn_sz s c) : 0 ≤ tn_wd s c p ∧ tn_wd s c p < tn_n s := (ok.2.2.2.1 c h.1 h.2).2.2 p hp.1 hp.2
theorem tn_ok.b (ok : tn_ok s) {w : Int} (h : 0 ≤ w ∧ w < tn_n s) : 0 ≤ tn_bs s w ∧ tn_bs s w < tn_n s := ok.2.2.1 w h.1 h.2
/-- two terms are alike, by these bases -/
def tn_two (bs : Int → Int) (s : tn_St) : Prop := ∃ x y : Int, 0 ≤ x ∧ x < y ∧ y < tn_nT s ∧ tn_tl s x = tn_tl s y ∧ ∀ k : Int, 0 ≤ k → k < tn_tl s x → bs (tn_tw s x k) = bs (tn_tw s y k)
/-- a word may have a base -/
def tn_may (s : tn_St) (w b : Int) : Prop := ¬ (b ≠ w ∧ (tn_bs s b ≠ b ∨ ∃ v : Int, 0 ≤ v ∧ v < tn_n s ∧ v ≠ w ∧ tn_bs s v = w)) ∧ ¬ tn_two (fun v => if v = w then b else tn_bs s v) s
theorem tx4_may_l (H : tn_Q h a s) (ok : tn_ok s) {w b : Int} (hw : 0 ≤ w ∧ w < tn_n s) (hb : 0 ≤ b ∧ b < tn_n s) : ∃ h', fX4_mayHaveBase_L29 a w b h = some (tn_b (¬ tn_two (fun v => if v = w then b else tn_bs s v) s), h') ∧ tn_Q h' a s ∧ tn_fr a (a + 50) h h' := by
  obtain ⟨g0, g1, g2, g3, g4⟩ := tx4_g H
  obtain ⟨h1, e1, W1, f1⟩ := tx7_putBase H.1 hw hb
  have H1 := H.setW W1 f1
  obtain ⟨g0', g1', g2', g3', g4'⟩ := tx4_g H1
  have tw := tx5_twoAreAlike W1 H1.2.2.1 ok.w
  obtain ⟨h2, e2, W2, f2⟩ := tx7_putBase W1 hw (ok.b hw)
  have H2 := H1.setW W2 f2
  refine ⟨h2, ?_, ?_, (f1.tr f2).wide (by omega) (by omega)⟩
  · simp only [fX4_mayHaveBase_L29, g0, Option.bind_some, tx7_base H.1 hw, e1, g2', g0', tw, e2]
    by_cases c : tn_two (fun v => if v = w then b else tn_bs s v) s
    · have c' := c
      unfold tn_two at c'
      rw [tn_b1 c', if_neg (by omega), tn_b0 (fun x => x c)]
    · have c' := c
      unfold tn_two at c'
      rw [tn_b0 c', if_pos rfl, tn_b1 c]
  · obtain ⟨q1, q2⟩ := H2
    refine ⟨q1.ext (fun v v0 v1 => ⟨?_, rfl⟩), q2⟩
    dsimp only [tn_bs]
    by_cases c : v = w
    · rw [if_pos c, c]
    · rw [if_neg c, if_neg c]
theorem tx4_may (H : tn_Q h a s) (ok : tn_ok s) {w b : Int} (hw : 0 ≤ w ∧ w < tn_n s) (hb : 0 ≤ b ∧ b < tn_n s) : ∃ h', fX4_mayHaveBase a w b h = some (tn_b (tn_may s w b), h') ∧ tn_Q h' a s ∧ tn_fr a (a + 50) h h' := by
  obtain ⟨g0, g1, g2, g3, g4⟩ := tx4_g H
  obtain ⟨h1, e1, H1, f1⟩ := tx4_may_l H ok hw hb
  simp only [fX4_mayHaveBase, tn_th (tx4_ob H), g0, Option.bind_some, tx7_isForm H.1 hb, tx7_hasForms H.1 w]
  unfold tn_may
  by_cases c : b = w
  · rw [if_pos c]
    refine ⟨h1, ?_, H1, f1⟩
    rw [e1]
    exact congrArg (fun z => some (z, h1)) (tn_bc ⟨fun x => ⟨fun y => y.1 c, x⟩, fun x => x.2⟩)
  · rw [if_neg c]
    by_cases c2 : tn_bs s b ≠ b
    · refine ⟨h, ?_, H, tn_fr.rf⟩
      rw [tn_b1 c2, if_neg (by omega), tn_b0 (fun x => x.1 ⟨c, Or.inl c2⟩)]
    · rw [tn_b0 c2, if_pos rfl]
      by_cases c3 : ∃ v : Int, 0 ≤ v ∧ v < tn_n s ∧ v ≠ w ∧ tn_bs s v = w
      · refine ⟨h, ?_, H, tn_fr.rf⟩
        rw [tn_b1 c3, if_neg (by omega), tn_b0 (fun x => x.1 ⟨c, Or.inr c3⟩)]
      · rw [tn_b0 c3, if_pos rfl]
        refine ⟨h1, ?_, H1, f1⟩
        rw [e1]
        exact congrArg (fun z => some (z, h1)) (tn_bc ⟨fun x => ⟨fun y => y.2.elim c2 c3, x⟩, fun x => x.2⟩)
/-- a term occurs at a place -/
def tn_oc (s : tn_St) (t c p : Int) : Prop := p + tn_tl s t ≤ tn_sz s c ∧ ∀ k : Int, 0 ≤ k → k < tn_tl s t → tn_bs s (tn_wd s c (p + k)) = tn_bs s (tn_tw s t k)
theorem tx4_occ_l (H : tn_Q h a s) (ok : tn_ok s) {t c p : Int} (ht : 0 ≤ t ∧ t < tn_nT s) (hc : 0 ≤ c ∧ c < 6) (hp : 0 ≤ p) (hs : p + tn_tl s t ≤ tn_sz s c) : ∀ (m : Nat) (k : Int), 0 ≤ k → (tn_tl s t - k).toNat = m → fX4_occursAt_L39 a t c p h (tn_tl s t) k = some (tn_b (∀ i : Int, k ≤ i → i < tn_tl s t → tn_bs s (tn_wd s c (p + i)) = tn_bs s (tn_tw s t i))) := by
  obtain ⟨g0, g1, g2, g3, g4⟩ := tx4_g H
  have o1 := ok.t ht
  have o2 := ok.c hc
  intro m
  induction m with
  | zero =>
    intro k k0 hm
    rw [fX4_occursAt_L39_eq, if_neg (by omega), tn_b1]
    intro i i0 i1; omega
  | succ m ih =>
    intro k k0 hm
    rw [fX4_occursAt_L39_eq, if_pos (by omega), g0, Option.bind_some, g2, Option.bind_some, tx5_wordAt H.2.2.1 ht k0, if_pos (by omega), Option.bind_some, tx7_base H.1 (ok.w t k ht.1 ht.2 k0 (by omega)), Option.bind_some, Option.bind_some, g1, Option.bind_some, tm_wr_id (z := p + k) (by omega) (by omega), tx0_wordAt H.2.1 hc ⟨by omega, by omega⟩, Option.bind_some, tx7_base H.1 (ok.p hc ⟨by omega, by omega⟩), Option.bind_some, tm_wr_id (z := k + 1) (by omega) (by omega)]
    by_cases c1 : tn_bs s (tn_tw s t k) = tn_bs s (tn_wd s c (p + k))
    · rw [if_pos c1, ih (k + 1) (by omega) (by omega), tn_bc]
      refine ⟨fun x i i0 i1 => ?_, fun x i i0 i1 => x i (by omega) i1⟩
      by_cases ci : i = k
      · subst ci; exact c1.symm
      · exact x i (by omega) i1
    · rw [if_neg c1, tn_b0]
      intro x
      exact c1 (x k (by omega) (by omega)).symm
theorem tx4_occursAt (H : tn_Q h a s) (ok : tn_ok s) {t c p : Int} (ht : 0 ≤ t ∧ t < tn_nT s) (hc : 0 ≤ c ∧ c < 6) (hp : 0 ≤ p) : fX4_occursAt a t c p h = some (tn_b (tn_oc s t c p)) := by
  obtain ⟨g0, g1, g2, g3, g4⟩ := tx4_g H
  have o1 := ok.t ht
  have o2 := ok.c hc
  simp only [fX4_occursAt, tn_th (tx4_ob H), g2, Option.bind_some, tx5_lengthOf H.2.2.1 t, if_pos ht, g1, tx0_lengthOf H.2.1 hc]
  rw [if_neg (by omega), if_neg (by omega), tm_wr_id (by omega) (by omega)]
  by_cases c1 : tn_sz s c - tn_tl s t < p
  · rw [if_pos c1, tn_b0]
    intro x
    have := x.1
    omega
  · rw [if_neg c1, tx4_occ_l H ok ht hc hp (by omega) _ 0 (by omega) rfl, tn_bc]
    exact ⟨fun x => ⟨by omega, x⟩, fun x => x.2⟩
/-- how often a term occurs -/
noncomputable def tn_ob (s : tn_St) (t c p : Int) : Int := tn_sm (fun i => tn_b (tn_oc s t c i)) p.toNat
noncomputable def tn_ot (s : tn_St) (t c : Int) : Int := tn_sm (fun d => tn_ob s t d (tn_sz s d)) c.toNat
theorem tn_ob_rg {s : tn_St} {t c p : Int} (hp : 0 ≤ p) : 0 ≤ tn_ob s t c p ∧ tn_ob s t c p ≤ p := by
  have q := tn_sm_rg (f := fun i => tn_b (tn_oc s t c i)) (B := 1) (m := p.toNat) (fun i _ _ => tn_b_rg _)
  unfold tn_ob; omega
theorem tn_ot_rg (ok : tn_ok s) {t c : Int} (h0 : 0 ≤ c) (h6 : c ≤ 6) : 0 ≤ tn_ot s t c ∧ tn_ot s t c ≤ 240 := by
  have q := tn_sm_rg (f := fun d => tn_ob s t d (tn_sz s d)) (B := 40) (m := c.toNat) (fun i i0 i1 => by
    have h1 := ok.c (c := i) ⟨i0, by omega⟩
    have h2 := tn_ob_rg (s := s) (t := t) (c := i) h1.1
    omega)
  unfold tn_ot; omega
theorem tx4_occs_l (H : tn_Q h a s) (ok : tn_ok s) {t : Int} (ht : 0 ≤ t ∧ t < tn_nT s) : ∀ (m : Nat) (c p : Int), 0 ≤ c → c < 6 → 0 ≤ p → p ≤ tn_sz s c → (300 - 41 * c - p).toNat = m → fX4_occurrences_L13 a t h (tn_ot s t c + tn_ob s t c p) c p = some (tn_ot s t 6) := by
  obtain ⟨g0, g1, g2, g3, g4⟩ := tx4_g H
  intro m
  induction m using Nat.strongRecOn with
  | _ m ih =>
    intro c p c0 c1 p0 p1 hm
    have s1 := ok.c (c := c) ⟨c0, c1⟩
    have s2 := tn_ob_rg (s := s) (t := t) (c := c) p0
    have s3 := tn_ot_rg ok (t := t) c0 (by omega)
    rw [fX4_occurrences_L13_eq, g1, Option.bind_some, tx0_lengthOf H.2.1 ⟨c0, c1⟩, Option.bind_some]
    by_cases c2 : p < tn_sz s c
    · rw [if_pos c2, tx4_occursAt H ok ht ⟨c0, c1⟩ p0, Option.bind_some, fX4_occurrences_L40_eq, fX4_occurrences_L40_eq, tm_wr_id (z := p + 1) (by omega) (by omega)]
      have q := ih (300 - 41 * c - (p + 1)).toNat (by omega) c (p + 1) c0 c1 (by omega) (by omega) rfl
      rw [show tn_ob s t c (p + 1) = tn_ob s t c p + tn_b (tn_oc s t c p) from tn_sm_su p0] at q
      by_cases c3 : tn_oc s t c p
      · rw [tn_b1 c3, ← Int.add_assoc] at q
        rw [tn_b1 c3, if_neg (by omega), tm_wr_id (by omega) (by omega)]
        exact q
      · rw [tn_b0 c3, Int.add_zero] at q
        rw [tn_b0 c3, if_pos rfl]
        exact q
    · rw [if_neg c2, tm_wr_id (z := c + 1) (by omega) (by omega), fX4_occurrences_L4_eq]
      have nt1 : tn_ot s t (c + 1) = tn_ot s t c + tn_ob s t c p := by rw [show p = tn_sz s c by omega]; exact tn_sm_su c0
      rw [← nt1]
      by_cases c4 : c + 1 < 6
      · rw [if_pos c4]
        have s4 := ok.c (c := c + 1) ⟨by omega, c4⟩
        have q := ih (300 - 41 * (c + 1) - 0).toNat (by omega) (c + 1) 0 (by omega) c4 (by omega) s4.1 rfl
        rw [show tn_ob s t (c + 1) 0 = 0 from rfl, Int.add_zero] at q
        exact q
      · rw [if_neg c4, show c + 1 = 6 by omega]
theorem tx4_occurrences (H : tn_Q h a s) (ok : tn_ok s) {t : Int} (ht : 0 ≤ t ∧ t < tn_nT s) : fX4_occurrences a t h = some (tn_ot s t 6) := by
  simp only [fX4_occurrences, tn_th (tx4_ob H)]
  rw [fX4_occurrences_L4_eq, if_pos (by omega)]
  exact tx4_occs_l H ok ht _ 0 0 (by omega) (by omega) (by omega) (ok.c (c := 0) (by omega)).1 rfl
/-- the longest of the terms below m that are so, the first of them -/
def tn_lg (m : Int) (P : Int → Prop) (len : Int → Int) (b : Int) : Prop := (b = -99 ∧ ∀ t : Int, 0 ≤ t → t < m → ¬ P t) ∨ (0 ≤ b ∧ b < m ∧ P b ∧ ∀ t : Int, 0 ≤ t → t < m → P t → len t < len b ∨ len t = len b ∧ b ≤ t)
theorem tx4_long_l (H : tn_Q h a s) (ok : tn_ok s) {c p : Int} (hc : 0 ≤ c ∧ c < 6) (hp : 0 ≤ p) : ∀ (m : Nat) (k b : Int), 0 ≤ k → k ≤ tn_nT s → tn_lg k (fun t => tn_oc s t c p) (tn_tl s) b → (tn_nT s - k).toNat = m → ∃ r, fX4_longestAt_L6 a c p h b k = some r ∧ tn_lg (tn_nT s) (fun t => tn_oc s t c p) (tn_tl s) r := by
  obtain ⟨g0, g1, g2, g3, g4⟩ := tx4_g H
  have hn := H.2.2.1.rg
  intro m
  induction m with
  | zero =>
    intro k b k0 k1 hb hm
    refine ⟨b, ?_, ?_⟩
    · rw [fX4_longestAt_L6_eq, g2, Option.bind_some, tx5_size H.2.2.1, Option.bind_some, if_neg (by omega)]
    · rw [show tn_nT s = k by omega]; exact hb
  | succ m ih =>
    intro k b k0 k1 hb hm
    have o1 := ok.t (t := k) ⟨k0, by omega⟩
    rw [fX4_longestAt_L6_eq, g2, Option.bind_some, tx5_size H.2.2.1, Option.bind_some, if_pos (by omega), Option.bind_some, tx5_lengthOf H.2.2.1 k, if_pos ⟨k0, by omega⟩, Option.bind_some, Option.bind_some, tx5_lengthOf H.2.2.1 b, Option.bind_some, fX4_longestAt_L52_eq, fX4_longestAt_L52_eq, tm_wr_id (by omega) (by omega)]
    have nx : ∀ b', tn_lg (k + 1) (fun t => tn_oc s t c p) (tn_tl s) b' → ∃ r, fX4_longestAt_L6 a c p h b' (k + 1) = some r ∧ tn_lg (tn_nT s) (fun t => tn_oc s t c p) (tn_tl s) r := fun b' hb' => ih (k + 1) b' (by omega) (by omega) hb' (by omega)
    by_cases c1 : (if 0 ≤ b ∧ b < tn_nT s then tn_tl s b else 0) < tn_tl s k
    · rw [if_pos c1, tx4_occursAt H ok ⟨k0, by omega⟩ hc hp, Option.bind_some]
      by_cases c2 : tn_oc s k c p
      · rw [tn_b1 c2, if_neg (by omega)]
        refine nx k (Or.inr ⟨k0, by omega, c2, fun t t0 t1 ht => ?_⟩)
        by_cases ct : t = k
        · exact Or.inr ⟨by rw [ct], by omega⟩
        · rcases hb with ⟨b1, b2⟩ | ⟨b1, b2, b3, b4⟩
          · exact absurd ht (b2 t t0 (by omega))
          · rw [if_pos ⟨b1, by omega⟩] at c1
            rcases b4 t t0 (by omega) ht with q | q
            · exact Or.inl (by omega)
            · exact Or.inl (by omega)
      · rw [tn_b0 c2, if_pos rfl]
        refine nx b ?_
        rcases hb with ⟨b1, b2⟩ | ⟨b1, b2, b3, b4⟩
        · refine Or.inl ⟨b1, fun t t0 t1 => ?_⟩
          by_cases ct : t = k
          · subst ct; exact c2
          · exact b2 t t0 (by omega)
        · refine Or.inr ⟨b1, by omega, b3, fun t t0 t1 ht => ?_⟩
          by_cases ct : t = k
          · subst ct; exact absurd ht c2
          · exact b4 t t0 (by omega) ht
    · rw [if_neg c1]
      refine nx b ?_
      rcases hb with ⟨b1, b2⟩ | ⟨b1, b2, b3, b4⟩
      · rw [if_neg (by omega)] at c1; omega
      · rw [if_pos ⟨b1, by omega⟩] at c1
        refine Or.inr ⟨b1, by omega, b3, fun t t0 t1 ht => ?_⟩
        by_cases ct : t = k
        · subst ct
          by_cases cl : tn_tl s t = tn_tl s b
          · exact Or.inr ⟨cl, by omega⟩
          · exact Or.inl (by omega)
        · exact b4 t t0 (by omega) ht
theorem tx4_longestAt (H : tn_Q h a s) (ok : tn_ok s) {c p : Int} (hc : 0 ≤ c ∧ c < 6) (hp : 0 ≤ p) : ∃ r, fX4_longestAt a c p h = some r ∧ tn_lg (tn_nT s) (fun t => tn_oc s t c p) (tn_tl s) r := by
  simp only [fX4_longestAt, tn_th (tx4_ob H)]
  exact tx4_long_l H ok hc hp _ 0 (-99) (by omega) H.2.2.1.rg.1 (Or.inl ⟨rfl, fun t t0 t1 => by omega⟩) rfl
/-- a term's words stand in another one from an index on -/
def tn_wi (s : tn_St) (x y i : Int) : Prop := ∀ k : Int, 0 ≤ k → k < tn_tl s x → tn_bs s (tn_tw s x k) = tn_bs s (tn_tw s y (i + k))
theorem tx4_within_l (H : tn_Q h a s) (ok : tn_ok s) {x y i : Int} (hx : 0 ≤ x ∧ x < tn_nT s) (hy : 0 ≤ y ∧ y < tn_nT s) (hi : 0 ≤ i) (hl : i + tn_tl s x ≤ tn_tl s y) : ∀ (m : Nat) (k : Int), 0 ≤ k → (tn_tl s x - k).toNat = m → fX4_occursWithin_L3 a x y i h k = some (tn_b (∀ j : Int, k ≤ j → j < tn_tl s x → tn_bs s (tn_tw s x j) = tn_bs s (tn_tw s y (i + j)))) := by
  obtain ⟨g0, g1, g2, g3, g4⟩ := tx4_g H
  have o1 := ok.t hx
  have o2 := ok.t hy
  intro m
  induction m with
  | zero =>
    intro k k0 hm
    rw [fX4_occursWithin_L3_eq, g2, Option.bind_some, tx5_lengthOf H.2.2.1 x, if_pos hx, Option.bind_some, if_neg (by omega), tn_b1]
    intro i i0 i1; omega
  | succ m ih =>
    intro k k0 hm
    rw [fX4_occursWithin_L3_eq, g2, Option.bind_some, tx5_lengthOf H.2.2.1 x, if_pos hx, Option.bind_some, if_pos (by omega), g0, Option.bind_some, Option.bind_some, tx5_wordAt H.2.2.1 hx k0, if_pos (by omega), Option.bind_some, tx7_base H.1 (ok.w x k hx.1 hx.2 k0 (by omega)), Option.bind_some, Option.bind_some, Option.bind_some, tm_wr_id (z := i + k) (by omega) (by omega), tx5_wordAt H.2.2.1 hy (by omega), if_pos (by omega), Option.bind_some, tx7_base H.1 (ok.w y (i + k) hy.1 hy.2 (by omega) (by omega)), Option.bind_some, tm_wr_id (z := k + 1) (by omega) (by omega)]
    by_cases c1 : tn_bs s (tn_tw s x k) = tn_bs s (tn_tw s y (i + k))
    · rw [if_pos c1, ih (k + 1) (by omega) (by omega), tn_bc]
      refine ⟨fun x i i0 i1 => ?_, fun x i i0 i1 => x i (by omega) i1⟩
      by_cases ci : i = k
      · subst ci; exact c1
      · exact x i (by omega) i1
    · rw [if_neg c1, tn_b0]
      intro x
      exact c1 (x k (by omega) (by omega))
theorem tx4_times_l (H : tn_Q h a s) (ok : tn_ok s) {x y : Int} (hx : 0 ≤ x ∧ x < tn_nT s) (hy : 0 ≤ y ∧ y < tn_nT s) : ∀ (m : Nat) (k : Int), 0 ≤ k → (k ≤ tn_tl s y - tn_tl s x + 1 ∨ k = 0) → (tn_tl s y - tn_tl s x + 1 - k).toNat = m → fX4_timesWithin_L5 a x y h (tn_sm (fun i => tn_b (tn_wi s x y i)) k.toNat) k = some (tn_sm (fun i => tn_b (tn_wi s x y i)) (tn_tl s y - tn_tl s x + 1).toNat) := by
  obtain ⟨g0, g1, g2, g3, g4⟩ := tx4_g H
  have o1 := ok.t hx
  have o2 := ok.t hy
  intro m
  induction m with
  | zero =>
    intro k k0 k1 hm
    rw [fX4_timesWithin_L5_eq, g2, Option.bind_some, tx5_lengthOf H.2.2.1 y, if_pos hy, Option.bind_some, Option.bind_some, tx5_lengthOf H.2.2.1 x, if_pos hx, Option.bind_some, tm_wr_id (by omega) (by omega), if_pos (by omega), show k.toNat = (tn_tl s y - tn_tl s x + 1).toNat by omega]
  | succ m ih =>
    intro k k0 k1 hm
    have r := tn_sm_rg (f := fun i => tn_b (tn_wi s x y i)) (B := 1) (m := k.toNat) (fun i _ _ => tn_b_rg _)
    rw [fX4_timesWithin_L5_eq, g2, Option.bind_some, tx5_lengthOf H.2.2.1 y, if_pos hy, Option.bind_some, Option.bind_some, tx5_lengthOf H.2.2.1 x, if_pos hx, Option.bind_some, tm_wr_id (z := tn_tl s y - tn_tl s x) (by omega) (by omega), if_neg (by omega)]
    simp only [fX4_occursWithin, tn_th (tx4_ob H)]
    rw [tx4_within_l H ok hx hy k0 (by omega) _ 0 (by omega) rfl, Option.bind_some, fX4_timesWithin_L41_eq, fX4_timesWithin_L41_eq, tm_wr_id (z := k + 1) (by omega) (by omega)]
    have q := ih (k + 1) (by omega) (by omega) (by omega)
    rw [tn_sm_su k0] at q
    by_cases c : tn_wi s x y k
    · have c' := c
      unfold tn_wi at c'
      rw [tn_b1 c', if_neg (by omega), tm_wr_id (by omega) (by omega)]
      rw [tn_b1 c] at q
      exact q
    · have c' := c
      unfold tn_wi at c'
      rw [tn_b0 c', if_pos rfl]
      rw [tn_b0 c, Int.add_zero] at q
      exact q
theorem tx4_timesWithin (H : tn_Q h a s) (ok : tn_ok s) {x y : Int} (hx : 0 ≤ x ∧ x < tn_nT s) (hy : 0 ≤ y ∧ y < tn_nT s) : fX4_timesWithin a x y h = some (tn_sm (fun i => tn_b (tn_wi s x y i)) (tn_tl s y - tn_tl s x + 1).toNat) := by
  simp only [fX4_timesWithin, tn_th (tx4_ob H)]
  exact tx4_times_l H ok hx hy _ 0 (by omega) (Or.inr rfl) rfl
/-- a new state -/
def tn_s0 : tn_St := ((26, ((fun w => w), (fun w => tm_i2l (97 + w)))), (((fun _ => 0), (fun _ _ => 0)), ((0, ((fun _ => 0), ((fun _ _ => 0), (fun _ => 0)))), ((fun _ => 0), ((fun _ _ => 0), (fun _ _ _ => 0))))))
theorem tx4_init {v0 v1 v2 v3 v4 : tm_Fv} (e : h a = some (.inl (4, [v0, v1, v2, v3, v4]))) : ∃ h', fX4_init a h (a + 1) = some (h', a + 50) ∧ tn_Q h' a tn_s0 ∧ tn_fr a (a + 50) h h' := by
  obtain ⟨h1, e1, p1, o1⟩ := tn_NW h (a + 1) (.inl (7, [.inr none, .inr none, .inl 0]))
  obtain ⟨h2, e2, W2, f2⟩ := tx7_init p1
  obtain ⟨h3, e3, p3, o3⟩ := tn_SF (k := 0) ((f2 a (by omega)).trans ((o1 a (by omega)).trans e)) (.inr (some (a + 1))) (by simp)
  obtain ⟨h4, e4, p4, o4⟩ := tn_NW h3 (a + 4) (.inl (0, [.inr none, .inr none]))
  obtain ⟨h5, e5, C5, f5⟩ := tx0_init p4
  obtain ⟨h6, e6, p6, o6⟩ := tn_SF (k := 1) ((f5 a (by omega)).trans ((o4 a (by omega)).trans p3)) (.inr (some (a + 4))) (by simp)
  obtain ⟨h7, e7, p7, o7⟩ := tn_NW h6 (a + 13) (.inl (5, [.inr none, .inr none, .inr none, .inl 0]))
  obtain ⟨h8, e8, T8, f8⟩ := tx5_init p7
  obtain ⟨h9, e9, p9, o9⟩ := tn_SF (k := 2) ((f8 a (by omega)).trans ((o7 a (by omega)).trans p6)) (.inr (some (a + 13))) (by simp)
  obtain ⟨h10, e10, p10, o10⟩ := tn_NW h9 (a + 30) (.inr (3, 2, .inr (.inr (fun _ => none))))
  obtain ⟨h11, e11, p11, o11⟩ := tn_SF (k := 3) ((o10 a (by omega)).trans p9) (.inr (some (a + 30))) (by simp)
  obtain ⟨h12, e12, p12, o12⟩ := tn_NW h11 (a + 31) (.inr (2, 2, .inl (fun _ => 0)))
  obtain ⟨h13, e13, p13, o13⟩ := tn_SF (k := 4) ((o12 a (by omega)).trans p11) (.inr (some (a + 31))) (by simp)
  obtain ⟨h15, e15, p15, o15⟩ := tn_NW h13 (a + 32) (.inl (0, [.inr none, .inr none]))
  obtain ⟨h16, e16, C16, f16⟩ := tx0_init p15
  have ob16 : h16 (a + 32) = some (.inl (0, [.inr (some (a + 32 + 1)), .inr (some (a + 32 + 8))])) := by obtain ⟨r, F, lf, ⟨q1, q2⟩, q3⟩ := C16; exact q1
  have k16 : h16 (a + 30) = some (.inr (3, 2, .inr (.inr (fun _ => none)))) := by
    rw [f16 _ (by omega), o15 _ (by omega), o13 _ (by omega), o12 _ (by omega), o11 _ (by omega)]; exact p10
  obtain ⟨h17, e17, p17, o17⟩ := tn_WR (c := 0) (b := a + 32) (i := 0) k16 (by omega) (by omega) (by simp [tm_kd, ob16])
  obtain ⟨h19, e19, p19, o19⟩ := tn_NW h17 (a + 41) (.inl (0, [.inr none, .inr none]))
  obtain ⟨h20, e20, C20, f20⟩ := tx0_init p19
  have ob20 : h20 (a + 41) = some (.inl (0, [.inr (some (a + 41 + 1)), .inr (some (a + 41 + 8))])) := by obtain ⟨r, F, lf, ⟨q1, q2⟩, q3⟩ := C20; exact q1
  obtain ⟨h21, e21, p21, o21⟩ := tn_WR (c := 0) (b := a + 41) (i := 1) ((f20 (a + 30) (by omega)).trans ((o19 _ (by omega)).trans p17)) (by omega) (by omega) (by simp [tm_kd, ob20])
  have z13 : h13 a = some (.inl (4, [.inr (some (a + 1)), .inr (some (a + 4)), .inr (some (a + 13)), .inr (some (a + 30)), .inr (some (a + 31))])) := p13
  have z16 : h16 a = _ := (f16 a (by omega)).trans ((o15 a (by omega)).trans z13)
  have z17 : h17 a = _ := (o17 a (by omega)).trans z16
  have z21 : h21 a = _ := (o21 a (by omega)).trans ((f20 a (by omega)).trans ((o19 a (by omega)).trans z17))
  have up : ∀ q, q ≠ a → q < a + 30 → h21 q = h9 q := fun q q0 q1 => by rw [o21 q (by omega), f20 q (by omega), o19 q (by omega), o17 q (by omega), f16 q (by omega), o15 q (by omega), o13 q q0, o12 q (by omega), o11 q q0, o10 q (by omega)]
  refine ⟨h21, ?_, ⟨?_, ?_, ?_, z21, ⟨_, p21, fun z z0 z1 => ?_⟩, ⟨fun _ => 0, ?_, fun z _ _ => ⟨rfl, Or.inl rfl⟩⟩, fun z z0 z1 => ?_⟩, fun q hq => ?_⟩
  · simp only [fX4_init, tn_th e, e1, Option.bind_some, e2, e3, e4, e5, e6, e7, e8, e9, e10, e11, e12, e13, e15, tn_gR (k := 3) z13 rfl, e16, e17, tn_gR (k := 3) z17 rfl, e19, e20, e21]
  · refine W2.cg (fun q q0 q1 => ?_)
    rw [up q (by omega) (by omega), o9 q (by omega), f8 q (by omega), o7 q (by omega), o6 q (by omega), f5 q (by omega), o4 q (by omega), o3 q (by omega)]
  · refine C5.cg (fun q q0 q1 => ?_)
    rw [up q (by omega) (by omega), o9 q (by omega), f8 q (by omega), o7 q (by omega), o6 q (by omega)]
  · refine T8.cg (fun q q0 q1 => ?_)
    rw [up q (by omega) (by omega), o9 q (by omega)]
  · rw [tm_up_app, tm_up_app]
    by_cases c : z = 1
    · subst c; rfl
    · have : z = 0 := by omega
      subst this; rfl
  · rw [o21 _ (by omega), f20 _ (by omega), o19 _ (by omega), o17 _ (by omega), f16 _ (by omega), o15 _ (by omega), o13 _ (by omega)]; exact p12
  · by_cases c : z = 1
    · subst c
      exact ⟨_, _, C20.cg (fun q q0 q1 => o21 q (by omega)), fun h => by cases h⟩
    · have : z = 0 := by omega
      subst this
      exact ⟨_, _, C16.cg (fun q q0 q1 => by rw [o21 q (by omega), f20 q (by omega), o19 q (by omega), o17 q (by omega)]), fun h => by cases h⟩
  · rw [o21 q (by omega), f20 q (by omega), o19 q (by omega), o17 q (by omega), f16 q (by omega), o15 q (by omega), o13 q (by omega), o12 q (by omega), o11 q (by omega), o10 q (by omega), o9 q (by omega), f8 q (by omega), o7 q (by omega), o6 q (by omega), f5 q (by omega), o4 q (by omega), o3 q (by omega), f2 q (by omega), o1 q (by omega)]
end STT
