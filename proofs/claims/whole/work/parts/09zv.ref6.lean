/-! the reference: whether a word can have a base -/
section RFQ
variable {h : tm_H} {b : Nat} {C : Nat → Nat → Int} {J : Nat → Int}
theorem tn_sim_base {N Lt : Nat → Int} {w v : Int} (ok : tn_ok (tn_row N Lt)) (hw : 0 ≤ w ∧ w < N 0) : tn_sim (tn_row (tm_up N (1 + w).toNat v) Lt) (tn_setB (tn_row N Lt) w v) := by
  have n60 : N 0 ≤ 60 := ok.2.1
  have off : ∀ i : Int, 0 ≤ i → i ≠ 1 + w → tm_up N (1 + w).toNat v i.toNat = N i.toNat := fun i i0 i1 => by rw [tn_upr (by omega) i0, if_neg i1]
  refine ⟨off 0 (by omega) (by omega), fun u u0 u1 => ⟨?_, rfl⟩, fun d d0 d1 => ⟨off _ (by omega) (by omega), fun i i0 i1 => off _ (by omega) (by omega)⟩, off 307 (by omega) (by omega), fun t t0 t1 => ⟨off _ (by omega) (by omega), off _ (by omega) (by omega), fun k k0 k1 => off _ (by omega) (by omega)⟩, fun z z0 z1 => ⟨off _ (by omega) (by omega), fun _ d d0 d1 => ⟨off _ (by omega) (by omega), fun i i0 i1 => off _ (by omega) (by omega)⟩⟩⟩
  show tm_up N (1 + w).toNat v (1 + u).toNat = if u = w then v else N (1 + u).toNat
  rw [tn_upr (by omega) (by omega)]
  by_cases k : u = w
  · rw [if_pos k, if_pos (by omega)]
  · rw [if_neg k, if_neg (by omega)]
theorem tx9_can_l {w x was : Int} {hW : tm_H} (H : tn_E h b C J) (ok : tn_ok (tn_row (C 0) (C 4))) (hn : C 0 307 ≤ 12) (eW : tm_wI h 0 (b + 1) (tm_wr (1 + w)) was = some hW) : ∀ (m : Nat) (t u : Int) (v : Prop), 0 ≤ t → t < C 0 307 → 0 ≤ u → u ≤ t → (400 - 20 * t - u).toNat = m → fX9_canBe_L67 b w x was (tn_b v) t u h = some (tn_b (v ∧ ¬ ∃ t' u' : Int, (t < t' ∨ t' = t ∧ u ≤ u') ∧ 0 ≤ u' ∧ u' < t' ∧ t' < C 0 307 ∧ tn_al C t' u'), hW) := by
  intro m
  induction m using Nat.strongRecOn with
  | _ m ih =>
    intro t u v t0 t1 u0 u1 hm
    rw [fX9_canBe_L67_eq]
    by_cases c1 : u < t
    · rw [if_pos c1, fX9_canBe_L94_eq, fX9_canBe_L95_eq, fX9_canBe_L95_eq, tm_wr_id (by omega) (by omega), tx9_areAlike H (tn_tok2_of ok hn ⟨t0, t1⟩) (tn_tok2_of ok hn (t := u) ⟨u0, by omega⟩), Option.bind_some]
      have q : ∀ v' : Prop, fX9_canBe_L67 b w x was (tn_b v') t (u + 1) h = _ := fun v' => ih (400 - 20 * t - (u + 1)).toNat (by omega) t (u + 1) v' t0 t1 (by omega) (by omega) rfl
      have fin : ∀ v' : Prop, (v' ↔ (v ∧ ¬ tn_al C t u)) → tn_b (v' ∧ ¬ ∃ t' u' : Int, (t < t' ∨ t' = t ∧ u + 1 ≤ u') ∧ 0 ≤ u' ∧ u' < t' ∧ t' < C 0 307 ∧ tn_al C t' u') = tn_b (v ∧ ¬ ∃ t' u' : Int, (t < t' ∨ t' = t ∧ u ≤ u') ∧ 0 ≤ u' ∧ u' < t' ∧ t' < C 0 307 ∧ tn_al C t' u') := fun v' hv => tn_bc ⟨fun ⟨y1, y2⟩ => ⟨(hv.mp y1).1, fun ⟨t', u', e1, e2, e3, e4, e5⟩ => by
          by_cases z : t' = t ∧ u' = u
          · rw [z.1, z.2] at e5; exact (hv.mp y1).2 e5
          · exact y2 ⟨t', u', by omega, e2, e3, e4, e5⟩⟩, fun ⟨y1, y2⟩ => ⟨hv.mpr ⟨y1, fun e => y2 ⟨t, u, Or.inr ⟨rfl, by omega⟩, u0, c1, t1, e⟩⟩, fun ⟨t', u', e1, e2⟩ => y2 ⟨t', u', by omega, e2⟩⟩⟩
      by_cases c2 : v
      · rw [tn_b1 c2, if_neg (by omega)]
        by_cases c3 : tn_al C t u
        · have q0 := q False
          rw [tn_b0 (fun y => y)] at q0
          rw [tn_b1 c3, if_neg (by omega), q0, fin False ⟨fun y => y.elim, fun y => y.2 c3⟩]
        · have q1 := q True
          rw [tn_b1 trivial] at q1
          rw [tn_b0 c3, if_pos rfl, q1, fin True ⟨fun _ => ⟨c2, c3⟩, fun _ => trivial⟩]
      · have q0 := q False
        rw [tn_b0 (fun y => y)] at q0
        rw [tn_b0 c2, if_pos rfl, q0, fin False ⟨fun y => y.elim, fun y => c2 y.1⟩]
    · rw [if_neg c1, tm_wr_id (by omega) (by omega), fX9_canBe_L51_eq, H.g.1, Option.bind_some, H.l0 (by omega) (by omega), Option.bind_some, show Int.toNat 307 = 307 from rfl]
      by_cases c2 : t + 1 < C 0 307
      · rw [if_pos c2, ih (400 - 20 * (t + 1) - 0).toNat (by omega) (t + 1) 0 v (by omega) c2 (by omega) (by omega) rfl]
        refine congrArg (fun y => some (y, hW)) (tn_bc ⟨fun ⟨y1, y2⟩ => ⟨y1, fun ⟨t', u', e1, e2, e3, e4⟩ => y2 ⟨t', u', by omega, e2, e3, e4⟩⟩, fun ⟨y1, y2⟩ => ⟨y1, fun ⟨t', u', e1, e2, e3, e4⟩ => y2 ⟨t', u', by omega, e2, e3, e4⟩⟩⟩)
      · rw [if_neg c2, Option.bind_some, eW, Option.bind_some, tn_zr, Option.bind_some]
        exact congrArg (fun y => some (y, hW)) (tn_bc ⟨fun y => ⟨y, fun ⟨t', u', e1, e2, e3, e4, e5⟩ => by omega⟩, fun y => y.1⟩)
theorem tn_up_back (N : Nat → Int) (k : Nat) (v : Int) : tm_up (tm_up N k v) k (N k) = N := by
  funext j
  rw [tm_up_app, tm_up_app]
  by_cases c : j = k
  · rw [if_pos c, c]
  · rw [if_neg c, if_neg c]
theorem tx9_can27 (H : tn_E h b C J) (ok : tn_ok (tn_row (C 0) (C 4))) (hn : C 0 307 ≤ 12) {w x : Int} (hw : 0 ≤ w ∧ w < C 0 0) (hx : 0 ≤ x ∧ x < C 0 0) : ∃ h', fX9_canBe_L27 b w x h = some (tn_b (¬ tn_two (fun v => if v = w then x else tn_bs (tn_row (C 0) (C 4)) v) (tn_row (C 0) (C 4))), h') ∧ tn_E h' b C J ∧ tn_fr b (b + 11) h h' := by
  have n60 : C 0 0 ≤ 60 := ok.2.1
  have n0 : 0 ≤ C 0 307 := ok.2.2.2.2.1
  obtain ⟨h1, e1, E1, f1⟩ := H.w0 (i := 1 + w) x (by omega) (by omega)
  obtain ⟨h2, e2, E2, f2⟩ := E1.w0 (i := 1 + w) (C 0 (1 + w).toNat) (by omega) (by omega)
  rw [tn_up2_rk, tn_up2_rk, tn_rk_eq, tn_rk_rk, tn_up_back, tn_rk_self] at E2
  have ok1 : tn_ok (tn_row (tn_up2 C 0 (1 + w).toNat x 0) (tn_up2 C 0 (1 + w).toNat x 4)) := (ok.setB hx).sim (tn_sim_base ok hw)
  have n1 : tn_up2 C 0 (1 + w).toNat x 0 307 = C 0 307 := tm_up_ne (by omega)
  refine ⟨h2, ?_, E2, f1.tr f2⟩
  simp only [fX9_canBe_L27, H.g.1, Option.bind_some, tx9_bas H (w := w) (by omega)]
  rw [tm_wr_id (z := 1 + w) (by omega) (by omega), e1, Option.bind_some, fX9_canBe_L51_eq, E1.g.1, Option.bind_some, E1.l0 (by omega) (by omega), Option.bind_some, show Int.toNat 307 = 307 from rfl, n1]
  have al : ∀ t u : Int, 0 ≤ t → t < C 0 307 → 0 ≤ u → u < C 0 307 → (tn_al (tn_up2 C 0 (1 + w).toNat x) t u ↔ tn_tl (tn_row (C 0) (C 4)) t = tn_tl (tn_row (C 0) (C 4)) u ∧ ∀ k : Int, 0 ≤ k → k < tn_tl (tn_row (C 0) (C 4)) t → (fun v => if v = w then x else tn_bs (tn_row (C 0) (C 4)) v) (tn_tw (tn_row (C 0) (C 4)) t k) = (fun v => if v = w then x else tn_bs (tn_row (C 0) (C 4)) v) (tn_tw (tn_row (C 0) (C 4)) u k)) := by
    intro t u t0 t1 u0 u1
    have rl : ∀ t : Int, 0 ≤ t → t < C 0 307 → tn_rl (tn_up2 C 0 (1 + w).toNat x) t = tn_tl (tn_row (C 0) (C 4)) t := fun t t0 t1 => by
      unfold tn_rl
      rw [if_neg (by omega), tn_up2_eq, tn_upr (by omega) (by omega), if_neg (by omega)]; rfl
    have rt : ∀ t k : Int, 0 ≤ t → t < C 0 307 → 0 ≤ k → tn_rt (tn_up2 C 0 (1 + w).toNat x) t k = tn_tw (tn_row (C 0) (C 4)) t k := fun t k t0 t1 k0 => by
      unfold tn_rt
      rw [if_neg (by omega), tn_up2_eq, tn_upr (by omega) (by omega), if_neg (by omega)]; rfl
    have bv : ∀ v : Int, 0 ≤ v → tn_up2 C 0 (1 + w).toNat x 0 (1 + v).toNat = if v = w then x else tn_bs (tn_row (C 0) (C 4)) v := fun v v0 => by
      rw [tn_up2_eq, tn_upr (by omega) (by omega)]
      by_cases k : v = w
      · rw [if_pos k, if_pos (by omega)]
      · rw [if_neg k, if_neg (by omega)]; rfl
    unfold tn_al
    rw [rl t t0 t1, rl u u0 u1]
    constructor
    · rintro ⟨y1, y2⟩
      refine ⟨y1, fun k k0 k1 => ?_⟩
      have := y2 k k0 k1
      rw [rt t k t0 t1 k0, rt u k u0 u1 k0, bv _ (ok.w t k t0 t1 k0 k1).1, bv _ (ok.w u k u0 u1 k0 (by omega)).1] at this
      exact this
    · rintro ⟨y1, y2⟩
      refine ⟨y1, fun k k0 k1 => ?_⟩
      rw [rt t k t0 t1 k0, rt u k u0 u1 k0, bv _ (ok.w t k t0 t1 k0 k1).1, bv _ (ok.w u k u0 u1 k0 (by omega)).1]
      exact y2 k k0 k1
  by_cases c : 0 < C 0 307
  · have q := tx9_can_l (w := w) (x := x) (was := C 0 (1 + w).toNat) (hW := h2) E1 ok1 (by rw [n1]; exact hn) (by rw [tm_wr_id (by omega) (by omega)]; exact e2) _ 0 0 True (by omega) (by rw [n1]; exact c) (by omega) (by omega) rfl
    rw [tn_b1 trivial, n1] at q
    rw [if_pos c, q]
    refine congrArg (fun y => some (y, h2)) (tn_bc ⟨fun ⟨_, y⟩ => ?_, fun y => ⟨trivial, ?_⟩⟩)
    · rintro ⟨p, r, p0, p1, p2, p3, p4⟩
      have p2' : r < C 0 307 := p2
      exact y ⟨r, p, by omega, p0, p1, p2, (al r p (by omega) p2 p0 (by omega)).mpr ⟨p3.symm, fun k k0 k1 => (p4 k k0 (by omega)).symm⟩⟩
    · rintro ⟨t', u', e1, e3, e4, e5, e6⟩
      obtain ⟨g1, g2⟩ := (al t' u' (by omega) e5 e3 (by omega)).mp e6
      exact y ⟨u', t', e3, e4, e5, g1.symm, fun k k0 k1 => (g2 k k0 (by omega)).symm⟩
  · rw [if_neg c, Option.bind_some, tm_wr_id (by omega) (by omega), e2, Option.bind_some, show tm_zr 1 = some 1 from rfl, Option.bind_some]
    refine congrArg (fun y => some (y, h2)) (tn_b1 ?_).symm
    rintro ⟨p, r, p0, p1, p2, _⟩
    have p2' : r < C 0 307 := p2
    omega
theorem tx9_canBe (H : tn_E h b C J) (ok : tn_ok (tn_row (C 0) (C 4))) (hn : C 0 307 ≤ 12) {w x : Int} (hw : 0 ≤ w ∧ w < C 0 0) (hx : 0 ≤ x ∧ x < C 0 0) : ∃ h', fX9_canBe b w x h = some (tn_b (tn_may (tn_row (C 0) (C 4)) w x), h') ∧ tn_E h' b C J ∧ tn_fr b (b + 11) h h' := by
  have n60 : C 0 0 ≤ 60 := ok.2.1
  obtain ⟨h1, e1, E1, f1⟩ := tx9_can27 H ok hn hw hx
  simp only [fX9_canBe, tn_th H.1, H.g.1, Option.bind_some, tx9_bas H (w := x) (by omega), tx9_hasForms H ok w]
  unfold tn_may
  by_cases c : x = w
  · rw [if_pos c]
    refine ⟨h1, ?_, E1, f1⟩
    rw [e1]
    exact congrArg (fun z => some (z, h1)) (tn_bc ⟨fun y => ⟨fun z => z.1 c, y⟩, fun y => y.2⟩)
  · rw [if_neg c]
    by_cases c2 : C 0 (1 + x).toNat = x
    · rw [if_pos c2]
      by_cases c3 : ∃ v : Int, 0 ≤ v ∧ v < C 0 0 ∧ v ≠ w ∧ C 0 (1 + v).toNat = w
      · refine ⟨h, ?_, H, tn_fr.rf⟩
        rw [tn_b1 c3, if_neg (by omega), tn_b0 (fun y => y.1 ⟨c, Or.inr c3⟩)]
      · refine ⟨h1, ?_, E1, f1⟩
        rw [tn_b0 c3, if_pos rfl, e1]
        exact congrArg (fun z => some (z, h1)) (tn_bc ⟨fun y => ⟨fun z => z.2.elim (fun k => k c2) c3, y⟩, fun y => y.2⟩)
    · refine ⟨h, ?_, H, tn_fr.rf⟩
      rw [if_neg c2, tn_b0 (fun y => y.1 ⟨c, Or.inl c2⟩)]
theorem tx9_setBase (H : tn_E h b C J) (ok : tn_ok (tn_row (C 0) (C 4))) (hn : C 0 307 ≤ 12) (j0 : 0 ≤ J 3 ∧ J 3 ≤ 5) (w x : Int) : ∃ h', fX9_setBase b w x h = some ((sp_base (tn_row (C 0) (C 4)) w x).1, h') ∧ tn_O h' b C J (sp_base (tn_row (C 0) (C 4)) w x).2 ∧ tn_fr b (b + 11) h h' := by
  have n60 : C 0 0 ≤ 60 := ok.2.1
  simp only [fX9_setBase, tn_th H.1, tx9_isWord H ok, Option.bind_some]
  unfold sp_base
  have nd : tn_n (tn_row (C 0) (C 4)) = C 0 0 := rfl
  rw [nd]
  by_cases c1 : 0 ≤ w ∧ w < C 0 0
  · rw [tn_b1 c1, if_neg (by omega)]
    by_cases c2 : 0 ≤ x ∧ x < C 0 0
    · obtain ⟨h0, e0, E0, f0⟩ := tx9_canBe H ok hn c1 c2
      rw [tn_b1 c2, if_neg (by omega), if_pos (show 0 ≤ w ∧ w < C 0 0 ∧ 0 ≤ x ∧ x < C 0 0 by omega), e0, Option.bind_some]
      by_cases c3 : tn_may (tn_row (C 0) (C 4)) w x
      · obtain ⟨h1, P', e1, E1, q1, f1⟩ := tx9_saves E0 (r := b + 1) (k0 := 0) rfl (Or.inl rfl) j0
        obtain ⟨h2, e2, E2, f2⟩ := E1.w0 (i := 1 + w) x (by omega) (by omega)
        rw [tn_b1 c3, if_neg (by omega), if_pos c3, E0.g.1, Option.bind_some, e1, Option.bind_some, E1.g.1, Option.bind_some, tx9_bas E1 (w := w) (by omega), Option.bind_some, Option.bind_some, tm_wr_id (by omega) (by omega), e2, Option.bind_some]
        exact ⟨h2, rfl, tn_F_of q1 E2 rfl rfl rfl rfl (tm_up_self _ _ _) (tn_sim_base ok c1), (f0.tr f1).tr f2⟩
      · rw [tn_b0 c3, if_pos rfl, if_neg c3]
        exact ⟨h0, rfl, E0.O, f0⟩
    · rw [tn_b0 c2, if_pos rfl, if_neg (by omega)]
      exact ⟨h, rfl, H.O, tn_fr.rf⟩
  · rw [tn_b0 c1, if_pos rfl, if_neg (by omega)]
    exact ⟨h, rfl, H.O, tn_fr.rf⟩
end RFQ
