/-! the class reads -/
/-- how wide a term is -/
def tn_w (s : tn_St) (t : Int) : Int := if 0 ≤ t ∧ t < tn_nT s then tn_tl s t else 0
noncomputable def tn_fk (s : tn_St) (d i : Int) : Int := tn_b (tn_mk (tn_L s d) (tn_w s) (tn_tq s) i)
noncomputable def tn_fq (s : tn_St) (d i : Int) : Int := tn_b (tn_be (tn_L s d) (tn_w s) i ∧ tn_L s d i ≠ -99)
noncomputable def tn_fu (s : tn_St) (t d i : Int) : Int := tn_b (tn_us (tn_L s d) (tn_w s) t i)
/-- what is known when the places before (c, p) are laid and those before (c, p') are noted -/
def tn_Rp (h : tm_H) (a : Nat) (s : tn_St) (c p p' : Int) : Prop := ∃ (A B Fi : Int → Nat → Int) (T mC mP mT : Nat → Int), tn_Rr h a A B Fi T mC mP mT (tn_s2 (tn_fk s) (tn_sz s) c p') (tn_s2 (tn_fq s) (tn_sz s) c p') ∧
  (∀ d q : Int, 0 ≤ d → d < 6 → 0 ≤ q → q < tn_sz s d → tn_bf c p d q → A d q.toNat = tn_ov (tn_L s d) (tn_w s) q ∧ B d q.toNat = tn_wh (tn_L s d) (tn_w s) q) ∧
  (∀ t d : Int, 0 ≤ t → t < 13 → 0 ≤ d → d < 6 → tn_ff (if d < c then tn_sz s d else if d = c then p' else 0) (tn_us (tn_L s d) (tn_w s) t) (Fi t d.toNat)) ∧
  (∀ t : Int, 0 ≤ t → t < 13 → T t.toNat = tn_s2 (tn_fu s t) (tn_sz s) c p') ∧
  (∀ d q : Int, 0 ≤ d → d < 6 → 0 ≤ q → q < tn_sz s d → tn_bf c p' d q → tn_mk (tn_L s d) (tn_w s) (tn_tq s) q → mC (tn_s2 (tn_fk s) (tn_sz s) d q).toNat = d ∧ mP (tn_s2 (tn_fk s) (tn_sz s) d q).toNat = q ∧ mT (tn_s2 (tn_fk s) (tn_sz s) d q).toNat = tn_L s d q) ∧
  ∀ m : Int, 0 ≤ m → m < tn_s2 (tn_fk s) (tn_sz s) c p' → ∃ d q : Int, 0 ≤ d ∧ d < 6 ∧ 0 ≤ q ∧ q < tn_sz s d ∧ tn_bf c p' d q ∧ tn_mk (tn_L s d) (tn_w s) (tn_tq s) q ∧ tn_s2 (tn_fk s) (tn_sz s) d q = m
section RDP
variable {h : tm_H} {a : Nat} {s : tn_St} {A B Fi : Int → Nat → Int} {T mC mP mT : Nat → Int} {mc rc : Int}
theorem tx3_forget_l : ∀ (m : Nat) (t c : Int) (h : tm_H) (Fi : Int → Nat → Int) (T : Nat → Int), tn_Rr h a A B Fi T mC mP mT mc rc → (∀ u : Int, 0 ≤ u → u ≤ t → T u.toNat = 0) → (∀ u d : Int, 0 ≤ u → u < 13 → 0 ≤ d → d < 6 → tn_bf t c u d → Fi u d.toNat = -99) → 0 ≤ t → t < 13 → 0 ≤ c → c ≤ 6 → (100 - 7 * t - c).toNat = m → ∃ h' Fi' T', fX3_forget_L17 a t c h = some h' ∧ tn_Rr h' a A B Fi' T' mC mP mT 0 0 ∧ (∀ u : Int, 0 ≤ u → u < 13 → T' u.toNat = 0 ∧ ∀ d : Int, 0 ≤ d → d < 6 → Fi' u d.toNat = -99) ∧ tn_fr a (a + 33) h h' := by
  intro m
  induction m using Nat.strongRecOn with
  | _ m ih =>
    intro t c h Fi T H hT hF t0 t1 c0 c1 hm
    obtain ⟨g0, g1, g2, g3, g4, g5, g6, g7, g8⟩ := H.g
    rw [fX3_forget_L17_eq]
    by_cases c2 : c < 6
    · obtain ⟨h1, e1, H1, f1⟩ := H.wF (-99) ⟨t0, t1⟩ ⟨c0, c2⟩
      rw [if_pos c2, g2, Option.bind_some, H.rF ⟨t0, t1⟩, Option.bind_some, e1, Option.bind_some, tm_wr_id (by omega) (by omega)]
      obtain ⟨h', Fi', T', e2, H2, q2, f2⟩ := ih (100 - 7 * t - (c + 1)).toNat (by omega) t (c + 1) h1 _ T H1 hT (fun u d u0 u1 d0 d1 hb => by
        rw [tn_u2_app c0 d0]
        by_cases k : u = t ∧ d = c
        · rw [if_pos k]
        · rw [if_neg k]
          exact hF u d u0 u1 d0 d1 (by unfold tn_bf at *; omega)) t0 t1 (by omega) (by omega) rfl
      exact ⟨h', Fi', T', e2, H2, q2, f1.tr f2⟩
    · rw [if_neg c2, tm_wr_id (by omega) (by omega), fX3_forget_L2_eq]
      by_cases c3 : t + 1 < 13
      · obtain ⟨h1, e1, H1, f1⟩ := H.wT 0 (t := t + 1) ⟨by omega, c3⟩
        rw [if_pos c3, g3, Option.bind_some, e1, Option.bind_some]
        obtain ⟨h', Fi', T', e2, H2, q2, f2⟩ := ih (100 - 7 * (t + 1) - 0).toNat (by omega) (t + 1) 0 h1 Fi _ H1 (fun u u0 u1 => by
          rw [tm_up_app]
          by_cases k : u = t + 1
          · rw [if_pos (by omega)]
          · rw [if_neg (by omega)]; exact hT u u0 (by omega)) (fun u d u0 u1 d0 d1 hb => hF u d u0 u1 d0 d1 (by unfold tn_bf at *; omega)) (by omega) (by omega) (by omega) (by omega) rfl
        exact ⟨h', Fi', T', e2, H2, q2, f1.tr f2⟩
      · obtain ⟨h1, e1, H1, f1⟩ := H.smc 0
        obtain ⟨h2, e2, H2, f2⟩ := H1.src 0
        rw [if_neg c3, e1, Option.bind_some, e2]
        exact ⟨h2, Fi, T, rfl, H2, fun u u0 u1 => ⟨hT u u0 (by omega), fun d d0 d1 => hF u d u0 u1 d0 d1 (by unfold tn_bf; omega)⟩, f1.tr f2⟩
theorem tx3_forget (H : tn_Rr h a A B Fi T mC mP mT mc rc) : ∃ h', fX3_forget a h = some h' ∧ tn_Rp h' a s 0 0 0 ∧ tn_fr a (a + 33) h h' := by
  obtain ⟨g0, g1, g2, g3, g4, g5, g6, g7, g8⟩ := H.g
  obtain ⟨h1, e1, H1, f1⟩ := H.wT 0 (t := 0) (by omega)
  obtain ⟨h', Fi', T', e2, H2, q2, f2⟩ := tx3_forget_l _ 0 0 h1 Fi _ H1 (fun u u0 u1 => by rw [tm_up_app, if_pos (by omega)]) (fun u d u0 u1 d0 d1 hb => by unfold tn_bf at hb; omega) (by omega) (by omega) (by omega) (by omega) rfl
  refine ⟨h', ?_, ⟨A, B, Fi', T', mC, mP, mT, H2, fun d q d0 d1 q0 q1 hb => by unfold tn_bf at hb; omega, fun t d t0 t1 d0 d1 => ?_, fun t t0 t1 => (q2 t t0 t1).1, fun d q d0 d1 q0 q1 hb => by unfold tn_bf at hb; omega, fun m m0 m1 => by rw [tn_s2_0] at m1; omega⟩, f1.tr f2⟩
  · simp only [fX3_forget, tn_th H.1]
    rw [fX3_forget_L2_eq, if_pos (by omega), g3, Option.bind_some, e1, Option.bind_some]
    exact e2
  · rw [(q2 t t0 t1).2 d d0 d1]
    refine Or.inl ⟨rfl, fun x x0 x1 => ?_⟩
    rw [if_neg (by omega)] at x1
    split at x1 <;> omega
/-- nothing is noted at a place -/
theorem tn_Rp.skip {c p p' : Int} (H : tn_Rp h a s c p p') (hp : 0 ≤ p') (nu : ∀ t : Int, 0 ≤ t → ¬ tn_us (tn_L s c) (tn_w s) t p') (nq : ¬ (tn_be (tn_L s c) (tn_w s) p' ∧ tn_L s c p' ≠ -99)) : tn_Rp h a s c p (p' + 1) := by
  have nk : ¬ tn_mk (tn_L s c) (tn_w s) (tn_tq s) p' := fun k => nq ⟨k.1, k.2.1⟩
  obtain ⟨A, B, Fi, T, mC, mP, mT, H1, H2, H3, H4, H5, H6⟩ := H
  have e1 : tn_s2 (tn_fk s) (tn_sz s) c (p' + 1) = tn_s2 (tn_fk s) (tn_sz s) c p' := by
    rw [tn_s2_p hp, show tn_fk s c p' = 0 from tn_b0 nk, Int.add_zero]
  have e2 : tn_s2 (tn_fq s) (tn_sz s) c (p' + 1) = tn_s2 (tn_fq s) (tn_sz s) c p' := by
    rw [tn_s2_p hp, show tn_fq s c p' = 0 from tn_b0 nq, Int.add_zero]
  refine ⟨A, B, Fi, T, mC, mP, mT, by rw [e1, e2]; exact H1, H2, fun t d t0 t1 d0 d1 => ?_, fun t t0 t1 => ?_, fun d q d0 d1 q0 q1 hb hk => ?_, fun m m0 m1 => ?_⟩
  · have q := H3 t d t0 t1 d0 d1
    by_cases c1 : d < c
    · rw [if_pos c1] at q ⊢; exact q
    · by_cases c2 : d = c
      · rw [if_neg c1, if_pos c2] at q ⊢
        rw [c2] at q ⊢
        exact q.no (nu t t0)
      · rw [if_neg c1, if_neg c2] at q ⊢; exact q
  · rw [H4 t t0 t1, tn_s2_p hp, show tn_fu s t c p' = 0 from tn_b0 (nu t t0), Int.add_zero]
  · by_cases cc : d = c ∧ q = p'
    · obtain ⟨c1, c2⟩ := cc
      rw [c1, c2] at hk
      exact absurd hk nk
    · exact H5 d q d0 d1 q0 q1 (by unfold tn_bf at *; omega) hk
  · rw [e1] at m1
    obtain ⟨d, q, d0, d1, q0, q1, hb, hk, em⟩ := H6 m m0 m1
    exact ⟨d, q, d0, d1, q0, q1, by unfold tn_bf at *; omega, hk, em⟩
theorem tn_fk_rg (s : tn_St) (d i : Int) : 0 ≤ tn_fk s d i ∧ tn_fk s d i ≤ 1 := tn_b_rg _
theorem tn_fq_rg (s : tn_St) (d i : Int) : 0 ≤ tn_fq s d i ∧ tn_fq s d i ≤ 1 := tn_b_rg _
theorem tn_fu_rg (s : tn_St) (t d i : Int) : 0 ≤ tn_fu s t d i ∧ tn_fu s t d i ≤ 1 := tn_b_rg _
/-- room for marks: at a mark there are less than 78 -/
theorem tn_room {c p : Int} (hL : ∀ d p : Int, 0 ≤ d → d < 6 → 0 ≤ p → tn_L s d p = -99 ∨ 0 ≤ tn_L s d p ∧ tn_L s d p < 13) (hs : ∀ d : Int, 0 ≤ d → d < 6 → 0 ≤ tn_sz s d) (hc : 0 ≤ c ∧ c < 6) (hp : 0 ≤ p) (hk : tn_mk (tn_L s c) (tn_w s) (tn_tq s) p) : tn_s2 (tn_fk s) (tn_sz s) c p < 78 := by
  have a := tn_sm_rg (f := fun d => tn_sm (tn_fk s d) (tn_sz s d).toNat) (B := 13) (m := c.toNat) (fun d d0 d1 => tn_km_le (g := tn_L s d) (w := tn_w s) (q := tn_tq s) (N := 13) (fun p p0 => hL d p d0 (by omega) p0) (hs d d0 (by omega)))
  have b := tn_km_lt (g := tn_L s c) (w := tn_w s) (q := tn_tq s) (N := 13) (fun p p0 => hL c p hc.1 hc.2 p0) hp hk
  have b' : tn_sm (tn_fk s c) p.toNat < 13 := b
  unfold tn_s2
  omega
theorem tx3_note {b : Nat} {c p : Int} (H : tn_Rp h a s c p p) (Q : tn_Q h b s) (ok : tn_ok s) (hd : b + 50 ≤ a ∨ a + 33 ≤ b) (hL : ∀ d p : Int, 0 ≤ d → d < 6 → 0 ≤ p → tn_L s d p = -99 ∨ 0 ≤ tn_L s d p ∧ tn_L s d p < tn_nT s) (hc : 0 ≤ c ∧ c < 6) (hp : 0 ≤ p ∧ p < tn_sz s c) (be : tn_be (tn_L s c) (tn_w s) p) : ∃ h', fX3_note a b (tn_L s c p) c p h = some h' ∧ tn_Rp h' a s c p (p + 1) ∧ tn_fr a (a + 33) h h' := by
  have H0 := H
  obtain ⟨A, B, Fi, T, mC, mP, mT, H1, H2, H3, H4, H5, H6⟩ := H
  have hn := Q.2.2.1.rg
  have hsz := ok.c hc
  simp only [fX3_note, tn_th H1.1, (tx4_g Q).2.2.1, Option.bind_some, tx5_has Q.2.2.1]
  rcases hL c p hc.1 hc.2 hp.1 with hl | hl
  · rw [tn_b0 (by omega), if_pos rfl]
    exact ⟨h, rfl, H0.skip hp.1 (fun t t0 k => by have := k.2; omega) (fun k => k.2 hl), tn_fr.rf⟩
  · have qz : ∀ d : Int, 0 ≤ d → d < 6 → 0 ≤ tn_sz s d ∧ tn_sz s d ≤ 40 := fun d d0 d1 => ok.c ⟨d0, d1⟩
    have r1 := tn_s2_rg (f := tn_fu s (tn_L s c p)) (sz := tn_sz s) (c := c) (p := p) (fun d i => tn_fu_rg s _ d i) qz hc.1 (by omega) hp.1
    have r2 := tn_s2_rg (f := tn_fq s) (sz := tn_sz s) (c := c) (p := p) (fun d i => tn_fq_rg s d i) qz hc.1 (by omega) hp.1
    have r3 := tn_s2_rg (f := tn_fk s) (sz := tn_sz s) (c := c) (p := p) (fun d i => tn_fk_rg s d i) qz hc.1 (by omega) hp.1
    rw [tn_b1 hl, if_neg (by omega)]
    have Lt : 0 ≤ tn_L s c p ∧ tn_L s c p < 13 := by omega
    have us : tn_us (tn_L s c) (tn_w s) (tn_L s c p) p := ⟨be, rfl⟩
    obtain ⟨g0, g1, g2, g3, g4, g5, g6, g7, g8⟩ := H1.g
    obtain ⟨hA, eA, HA, fA⟩ := H1.wT (tn_s2 (tn_fu s (tn_L s c p)) (tn_sz s) c p + 1) Lt
    obtain ⟨hB, eB, HB, fB⟩ := HA.src (tn_s2 (tn_fq s) (tn_sz s) c p + 1)
    obtain ⟨k0, k1, k2, k3, k4, k5, k6, k7, k8⟩ := HB.g
    rw [g3, Option.bind_some, H1.lT Lt, Option.bind_some, H4 _ Lt.1 Lt.2, tm_wr_id (z := tn_s2 (tn_fu s (tn_L s c p)) (tn_sz s) c p + 1) (by omega) (by omega), eA, Option.bind_some, HA.g.2.2.2.2.2.2.2.2, Option.bind_some, tm_wr_id (z := tn_s2 (tn_fq s) (tn_sz s) c p + 1) (by omega) (by omega), eB, Option.bind_some, k2, Option.bind_some, HB.rF Lt, Option.bind_some, HB.lF Lt hc, Option.bind_some]
    have eq : tn_s2 (tn_fq s) (tn_sz s) c (p + 1) = tn_s2 (tn_fq s) (tn_sz s) c p + 1 := by
      rw [tn_s2_p hp.1, show tn_fq s c p = 1 from tn_b1 ⟨be, by omega⟩]
    have eT : ∀ t : Int, 0 ≤ t → t < 13 → tm_up T (tn_L s c p).toNat (tn_s2 (tn_fu s (tn_L s c p)) (tn_sz s) c p + 1) t.toNat = tn_s2 (tn_fu s t) (tn_sz s) c (p + 1) := by
      intro t t0 t1
      rw [tm_up_app, tn_s2_p hp.1]
      by_cases ct : t = tn_L s c p
      · rw [if_pos (by omega), ct, show tn_fu s (tn_L s c p) c p = 1 from tn_b1 us]
      · rw [if_neg (by omega), H4 t t0 t1, show tn_fu s t c p = 0 from tn_b0 (fun k => ct k.2.symm), Int.add_zero]
    have f3 := H3 (tn_L s c p) c Lt.1 Lt.2 hc.1 hc.2
    rw [if_neg (by omega), if_pos rfl] at f3
    -- the first use of the other terms
    have other : ∀ (F' : Int → Nat → Int) (t d : Int), 0 ≤ t → t < 13 → 0 ≤ d → d < 6 → ¬ (t = tn_L s c p ∧ d = c) → F' t d.toNat = Fi t d.toNat → tn_ff (if d < c then tn_sz s d else if d = c then p + 1 else 0) (tn_us (tn_L s d) (tn_w s) t) (F' t d.toNat) := by
      intro F' t d t0 t1 d0 d1 ne e
      rw [e]
      have q := H3 t d t0 t1 d0 d1
      by_cases c1 : d < c
      · rw [if_pos c1] at q ⊢; exact q
      · by_cases c2 : d = c
        · rw [if_neg c1, if_pos c2] at q ⊢
          rw [c2] at q ⊢
          exact q.no (fun k => ne ⟨k.2.symm, c2⟩)
        · rw [if_neg c1, if_neg c2] at q ⊢; exact q
    by_cases c1 : Fi (tn_L s c p) c.toNat = -99
    · rw [if_pos c1]
      rw [c1] at f3
      have no : ∀ r : Int, 0 ≤ r → r < p → ¬ tn_us (tn_L s c) (tn_w s) (tn_L s c p) r := by
        rcases f3 with ⟨_, f⟩ | ⟨f, _⟩
        · exact f
        · omega
      obtain ⟨hC, eC, HC, fC⟩ := HB.wF p Lt hc
      have fABC : tn_fr a (a + 33) h hC := (fA.tr fB).tr fC
      have QC : tn_Q hC b s := Q.cg (fABC.off (by omega))
      have eF : ∀ t d : Int, 0 ≤ t → t < 13 → 0 ≤ d → d < 6 → tn_ff (if d < c then tn_sz s d else if d = c then p + 1 else 0) (tn_us (tn_L s d) (tn_w s) t) (tn_u2 Fi (tn_L s c p) c p t d.toNat) := by
        intro t d t0 t1 d0 d1
        by_cases k : t = tn_L s c p ∧ d = c
        · rw [tn_u2_app hc.1 d0, if_pos k, k.1, k.2, if_neg (by omega), if_pos rfl]
          exact f3.new us hp.1
        · exact other _ t d t0 t1 d0 d1 k (by rw [tn_u2_app hc.1 d0, if_neg k])
      rw [Option.bind_some, HB.rF Lt, Option.bind_some, eC, Option.bind_some, (tx4_g QC).2.2.1, Option.bind_some, tx5_isQuiet QC.2.2.1 hl, Option.bind_some]
      by_cases c2 : tn_tq s (tn_L s c p) = 0
      · have mk : tn_mk (tn_L s c) (tn_w s) (tn_tq s) p := ⟨be, by omega, c2, no⟩
        have room := tn_room (fun d p d0 d1 p0 => by have := hL d p d0 d1 p0; omega) (fun d d0 d1 => (qz d d0 d1).1) hc hp.1 mk
        have ek : tn_s2 (tn_fk s) (tn_sz s) c (p + 1) = tn_s2 (tn_fk s) (tn_sz s) c p + 1 := by
          rw [tn_s2_p hp.1, show tn_fk s c p = 1 from tn_b1 mk]
        obtain ⟨hD, eD, HD, fD⟩ := HC.wC c ⟨r3.1, room⟩
        obtain ⟨hE, eE, HE, fE⟩ := HD.wP p ⟨r3.1, room⟩
        obtain ⟨hF, eF', HF, fF⟩ := HE.wM (tn_L s c p) ⟨r3.1, room⟩
        obtain ⟨hG, eG, HG, fG⟩ := HF.smc (tn_s2 (tn_fk s) (tn_sz s) c p + 1)
        rw [tn_b0 (fun k => k c2), if_pos rfl, HC.g.2.2.2.2.2.2.2.1, Option.bind_some, if_pos room, HC.g.2.2.2.2.1, Option.bind_some, Option.bind_some, eD, Option.bind_some, HD.g.2.2.2.2.2.1, Option.bind_some, HD.g.2.2.2.2.2.2.2.1, Option.bind_some, eE, Option.bind_some, HE.g.2.2.2.2.2.2.1, Option.bind_some, HE.g.2.2.2.2.2.2.2.1, Option.bind_some, eF', Option.bind_some, HF.g.2.2.2.2.2.2.2.1, Option.bind_some, tm_wr_id (by omega) (by omega), eG]
        refine ⟨hG, rfl, ⟨A, B, _, _, _, _, _, by rw [ek, eq]; exact HG, H2, eF, eT, fun d q d0 d1 q0 q1 hb hk => ?_, fun m m0 m1 => ?_⟩, ((((fABC.tr fD).tr fE).tr fF).tr fG)⟩
        · simp only [tm_up_app]
          by_cases cc : d = c ∧ q = p
          · obtain ⟨cc1, cc2⟩ := cc
            subst cc1; subst cc2
            simp only [if_true]
            exact ⟨trivial, trivial, trivial⟩
          · have hb' : tn_bf c p d q := by unfold tn_bf at *; omega
            have lt := tn_s2_lt (f := tn_fk s) (sz := tn_sz s) (fun d i => (tn_fk_rg s d i).1) d0 ⟨q0, q1⟩ hp.1 hb' (tn_b1 hk)
            have ge := tn_s2_rg (f := tn_fk s) (sz := tn_sz s) (c := d) (p := q) (fun d i => tn_fk_rg s d i) qz d0 (by omega) q0
            rw [if_neg (by omega), if_neg (by omega), if_neg (by omega)]
            exact H5 d q d0 d1 q0 q1 hb' hk
        · rw [ek] at m1
          by_cases cm : m = tn_s2 (tn_fk s) (tn_sz s) c p
          · exact ⟨c, p, hc.1, hc.2, hp.1, hp.2, Or.inr ⟨rfl, by omega⟩, mk, cm.symm⟩
          · obtain ⟨d, q, d0, d1, q0, q1, hb, hk, em⟩ := H6 m m0 (by omega)
            exact ⟨d, q, d0, d1, q0, q1, by unfold tn_bf at *; omega, hk, em⟩
      · have nk : ¬ tn_mk (tn_L s c) (tn_w s) (tn_tq s) p := fun k => c2 k.2.2.1
        have ek : tn_s2 (tn_fk s) (tn_sz s) c (p + 1) = tn_s2 (tn_fk s) (tn_sz s) c p := by
          rw [tn_s2_p hp.1, show tn_fk s c p = 0 from tn_b0 nk, Int.add_zero]
        rw [tn_b1 c2, if_neg (by omega)]
        refine ⟨hC, rfl, ⟨A, B, _, _, mC, mP, mT, by rw [ek, eq]; exact HC, H2, eF, eT, fun d q d0 d1 q0 q1 hb hk => ?_, fun m m0 m1 => ?_⟩, fABC⟩
        · by_cases cc : d = c ∧ q = p
          · obtain ⟨cc1, cc2⟩ := cc
            rw [cc1, cc2] at hk
            exact absurd hk nk
          · exact H5 d q d0 d1 q0 q1 (by unfold tn_bf at *; omega) hk
        · rw [ek] at m1
          obtain ⟨d, q, d0, d1, q0, q1, hb, hk, em⟩ := H6 m m0 m1
          exact ⟨d, q, d0, d1, q0, q1, by unfold tn_bf at *; omega, hk, em⟩
    · have nk : ¬ tn_mk (tn_L s c) (tn_w s) (tn_tq s) p := fun k => by
        rcases f3 with ⟨f, _⟩ | ⟨f0, f1, f2, _⟩
        · exact c1 f
        · exact k.2.2.2 _ f0 f1 f2
      have ek : tn_s2 (tn_fk s) (tn_sz s) c (p + 1) = tn_s2 (tn_fk s) (tn_sz s) c p := by
        rw [tn_s2_p hp.1, show tn_fk s c p = 0 from tn_b0 nk, Int.add_zero]
      rw [if_neg c1]
      refine ⟨hB, rfl, ⟨A, B, Fi, _, mC, mP, mT, by rw [ek, eq]; exact HB, H2, fun t d t0 t1 d0 d1 => ?_, eT, fun d q d0 d1 q0 q1 hb hk => ?_, fun m m0 m1 => ?_⟩, fA.tr fB⟩
      · by_cases k : t = tn_L s c p ∧ d = c
        · rw [k.1, k.2, if_neg (by omega), if_pos rfl]
          exact f3.old c1
        · exact other Fi t d t0 t1 d0 d1 k rfl
      · by_cases cc : d = c ∧ q = p
        · obtain ⟨cc1, cc2⟩ := cc
          rw [cc1, cc2] at hk
          exact absurd hk nk
        · exact H5 d q d0 d1 q0 q1 (by unfold tn_bf at *; omega) hk
      · rw [ek] at m1
        obtain ⟨d, q, d0, d1, q0, q1, hb, hk, em⟩ := H6 m m0 m1
        exact ⟨d, q, d0, d1, q0, q1, by unfold tn_bf at *; omega, hk, em⟩
theorem tx3_lay {b : Nat} {c p x5 : Int} (H : tn_Rp h a s c p (p + 1)) (ok : tn_ok s) (hc : 0 ≤ c ∧ c < 6) (hp : 0 ≤ p ∧ p < tn_sz s c) : ∃ h', fX3_readChapter_L66 a b c (tn_ov (tn_L s c) (tn_w s) p) (tn_fm (tn_L s c) (tn_w s) p) x5 p h = fX3_readChapter_L12 a b c (tn_ov (tn_L s c) (tn_w s) p) (tn_fm (tn_L s c) (tn_w s) p) x5 (p + 1) h' ∧ tn_Rp h' a s c (p + 1) (p + 1) ∧ tn_fr a (a + 33) h h' := by
  obtain ⟨A, B, Fi, T, mC, mP, mT, H1, H2, H3⟩ := H
  have hsz := ok.c hc
  have hf := tn_fm_rg (g := tn_L s c) (w := tn_w s) hp.1
  obtain ⟨hA, eA, HA, fA⟩ := H1.wA (tn_ov (tn_L s c) (tn_w s) p) hc ⟨hp.1, by omega⟩
  obtain ⟨hB, eB, HB, fB⟩ := HA.wB (tn_wh (tn_L s c) (tn_w s) p) hc ⟨hp.1, show p < 40 by omega⟩
  refine ⟨hB, ?_, ⟨_, _, Fi, T, mC, mP, mT, HB, fun d q d0 d1 q0 q1 hb => ?_, H3⟩, fA.tr fB⟩
  · rw [fX3_readChapter_L66_eq, H1.g.1, Option.bind_some, (H1.rA hc).1, Option.bind_some, eA, Option.bind_some, HA.g.2.1, Option.bind_some, (HA.rA hc).2, Option.bind_some, fX3_readChapter_L100_eq, fX3_readChapter_L100_eq, tm_wr_id (z := p + 1) (by omega) (by omega), tm_wr_id (z := p - tn_fm (tn_L s c) (tn_w s) p) (by omega) (by omega)]
    unfold tn_wh at eB
    by_cases k : tn_ov (tn_L s c) (tn_w s) p = -99
    · rw [if_pos k] at eB
      rw [if_pos k, eB, Option.bind_some]
    · rw [if_neg k] at eB
      rw [if_neg k, eB, Option.bind_some]
  · rw [tn_u2_app hp.1 q0, tn_u2_app hp.1 q0]
    by_cases k : d = c ∧ q = p
    · rw [if_pos k, if_pos k, k.1, k.2]; exact ⟨rfl, rfl⟩
    · rw [if_neg k, if_neg k]
      exact H2 d q d0 d1 q0 q1 (by unfold tn_bf at *; omega)
/-- the longest term at a place, as the state tells it -/
theorem tx4_L {b : Nat} (Q : tn_Q h b s) (ok : tn_ok s) {c p : Int} (hc : 0 ≤ c ∧ c < 6) (hp : 0 ≤ p) : fX4_longestAt b c p h = some (tn_L s c p) ∧ tn_lg (tn_nT s) (fun t => tn_oc s t c p) (tn_tl s) (tn_L s c p) := by
  obtain ⟨r, e, l⟩ := tx4_longestAt Q ok hc hp
  rw [tn_L_eq l]
  exact ⟨e, l⟩
theorem tn_L_rg {b : Nat} (Q : tn_Q h b s) (ok : tn_ok s) : ∀ d p : Int, 0 ≤ d → d < 6 → 0 ≤ p → tn_L s d p = -99 ∨ 0 ≤ tn_L s d p ∧ tn_L s d p < tn_nT s := fun d p d0 d1 p0 => by
  rcases (tx4_L Q ok ⟨d0, d1⟩ p0).2 with ⟨q, _⟩ | ⟨q1, q2, _⟩
  · exact Or.inl q
  · exact Or.inr ⟨q1, q2⟩
theorem tn_w_rg (ok : tn_ok s) (t : Int) : 0 ≤ tn_w s t ∧ tn_w s t ≤ 4 := by
  unfold tn_w
  split
  · rename_i c
    have := ok.t c
    omega
  · omega
theorem tx3_chap_l {b : Nat} {c : Int} (ok : tn_ok s) (hd : b + 50 ≤ a ∨ a + 33 ≤ b) (hc : 0 ≤ c ∧ c < 6) : ∀ (m : Nat) (p x3 : Int) (h : tm_H), tn_Rp h a s c p p → tn_Q h b s → (0 < p → x3 = tn_L s c (tn_rd (tn_L s c) (tn_w s) p.toNat).1) → 0 ≤ p → p ≤ tn_sz s c → (tn_sz s c - p).toNat = m → ∃ h', fX3_readChapter_L12 a b c x3 (tn_rd (tn_L s c) (tn_w s) p.toNat).1 (tn_rd (tn_L s c) (tn_w s) p.toNat).2 p h = some h' ∧ tn_Rp h' a s c (tn_sz s c) (tn_sz s c) ∧ tn_fr a (a + 33) h h' := by
  intro m
  induction m with
  | zero =>
    intro p x3 h H Q hx p0 p1 hm
    have hp : p = tn_sz s c := by omega
    refine ⟨h, ?_, by rw [← hp]; exact H, tn_fr.rf⟩
    rw [fX3_readChapter_L12_eq, (tx4_g Q).2.1, Option.bind_some, tx0_lengthOf Q.2.1 hc, Option.bind_some, if_neg (by omega)]
  | succ m ih =>
    intro p x3 h H Q hx p0 p1 hm
    have hL := tn_L_rg Q ok
    have hsz := ok.c hc
    rw [fX3_readChapter_L12_eq, (tx4_g Q).2.1, Option.bind_some, tx0_lengthOf Q.2.1 hc, Option.bind_some, if_pos (by omega)]
    by_cases c1 : p < (tn_rd (tn_L s c) (tn_w s) p.toNat).2
    · have su : tn_rd (tn_L s c) (tn_w s) (p + 1).toNat = tn_rd (tn_L s c) (tn_w s) p.toNat := by rw [tn_rd_su p0, if_pos c1]
      have pp : 0 < p := by
        by_cases c2 : p = 0
        · rw [c2] at c1; simp [tn_rd] at c1
        · omega
      have fm : (tn_rd (tn_L s c) (tn_w s) p.toNat).1 = tn_fm (tn_L s c) (tn_w s) p := by unfold tn_fm; rw [su]
      have ov : x3 = tn_ov (tn_L s c) (tn_w s) p := by rw [hx pp]; unfold tn_ov; rw [fm]
      have nb : ¬ tn_be (tn_L s c) (tn_w s) p := fun k => k c1
      obtain ⟨h1, e1, H1, f1⟩ := tx3_lay (b := b) (x5 := (tn_rd (tn_L s c) (tn_w s) p.toNat).2) (H.skip p0 (fun t _ k => nb k.1) (fun k => nb k.1)) ok hc ⟨p0, by omega⟩
      obtain ⟨h2, e2, H2, f2⟩ := ih (p + 1) x3 h1 H1 (Q.cg (f1.off (by omega))) (fun _ => by rw [su]; exact hx pp) (by omega) (by omega) (by omega)
      refine ⟨h2, ?_, H2, f1.tr f2⟩
      rw [if_pos c1, ov, fm, e1]
      rw [su, ov, fm] at e2
      exact e2
    · have su : tn_rd (tn_L s c) (tn_w s) (p + 1).toNat = (p, p + tn_w s (tn_L s c p)) := by rw [tn_rd_su p0, if_neg c1]
      have fm : tn_fm (tn_L s c) (tn_w s) p = p := by unfold tn_fm; rw [su]
      have ov : tn_ov (tn_L s c) (tn_w s) p = tn_L s c p := by unfold tn_ov; rw [fm]
      have w1 := tn_w_rg ok (tn_L s c p)
      obtain ⟨h0, e0, H0, f0⟩ := tx3_note H Q ok hd hL hc ⟨p0, by omega⟩ c1
      obtain ⟨h1, e1, H1, f1⟩ := tx3_lay (b := b) (x5 := p + tn_w s (tn_L s c p)) H0 ok hc ⟨p0, by omega⟩
      obtain ⟨h2, e2, H2, f2⟩ := ih (p + 1) (tn_L s c p) h1 H1 (Q.cg ((f0.tr f1).off (by omega))) (fun _ => by rw [su]) (by omega) (by omega) (by omega)
      refine ⟨h2, ?_, H2, (f0.tr f1).tr f2⟩
      rw [if_neg c1, (tx4_L Q ok hc p0).1, Option.bind_some, (tx4_g Q).2.2.1, Option.bind_some, tx5_lengthOf Q.2.2.1, Option.bind_some, e0, Option.bind_some]
      rw [show (if 0 ≤ tn_L s c p ∧ tn_L s c p < tn_nT s then tn_tl s (tn_L s c p) else 0) = tn_w s (tn_L s c p) from rfl, tm_wr_id (by omega) (by omega)]
      rw [fm, ov] at e1
      rw [e1]
      rw [su] at e2
      exact e2
theorem tn_Rp.next {c : Int} (H : tn_Rp h a s c (tn_sz s c) (tn_sz s c)) (ok : tn_ok s) (hc : 0 ≤ c ∧ c < 6) : tn_Rp h a s (c + 1) 0 0 := by
  obtain ⟨A, B, Fi, T, mC, mP, mT, H1, H2, H3, H4, H5, H6⟩ := H
  refine ⟨A, B, Fi, T, mC, mP, mT, by rw [tn_s2_c hc.1, tn_s2_c hc.1]; exact H1, fun d q d0 d1 q0 q1 hb => H2 d q d0 d1 q0 q1 ?_, fun t d t0 t1 d0 d1 => ?_, fun t t0 t1 => by rw [tn_s2_c hc.1]; exact H4 t t0 t1, fun d q d0 d1 q0 q1 hb hk => H5 d q d0 d1 q0 q1 ?_ hk, fun m m0 m1 => ?_⟩
  · unfold tn_bf at *
    by_cases k : d = c
    · subst k; omega
    · omega
  · have q := H3 t d t0 t1 d0 d1
    by_cases c1 : d < c
    · rw [if_pos c1] at q
      rw [if_pos (by omega)]; exact q
    · by_cases c2 : d = c
      · rw [if_neg c1, if_pos c2] at q
        rw [if_pos (by omega), c2]
        rw [c2] at q
        exact q
      · rw [if_neg c1, if_neg c2] at q
        rw [if_neg (by omega)]
        split <;> exact q
  · unfold tn_bf at *
    by_cases k : d = c
    · subst k; omega
    · omega
  · rw [tn_s2_c hc.1] at m1
    obtain ⟨d, q, d0, d1, q0, q1, hb, hk, em⟩ := H6 m m0 m1
    exact ⟨d, q, d0, d1, q0, q1, by unfold tn_bf at *; omega, hk, em⟩
theorem tx3_read_l {b : Nat} (ok : tn_ok s) (hd : b + 50 ≤ a ∨ a + 33 ≤ b) : ∀ (m : Nat) (c : Int) (h : tm_H), tn_Rp h a s c 0 0 → tn_Q h b s → 0 ≤ c → c ≤ 6 → (6 - c).toNat = m → ∃ h', fX3_read_L6 a b c h = some h' ∧ tn_Rp h' a s 6 0 0 ∧ tn_fr a (a + 33) h h' := by
  intro m
  induction m with
  | zero =>
    intro c h H Q c0 c1 hm
    refine ⟨h, ?_, by rw [show (6 : Int) = c by omega]; exact H, tn_fr.rf⟩
    rw [fX3_read_L6_eq, if_neg (by omega)]
  | succ m ih =>
    intro c h H Q c0 c1 hm
    have hc : 0 ≤ c ∧ c < 6 := by omega
    obtain ⟨h1, e1, H1, f1⟩ := tx3_chap_l (b := b) ok hd hc _ 0 (-99) h H Q (fun k => by omega) (by omega) (ok.c hc).1 rfl
    obtain ⟨h2, e2, H2, f2⟩ := ih (c + 1) h1 (H1.next ok hc) (Q.cg (f1.off (by omega))) (by omega) (by omega) (by omega)
    refine ⟨h2, ?_, H2, f1.tr f2⟩
    rw [fX3_read_L6_eq, if_pos hc.2]
    obtain ⟨A, B, Fi, T, mC, mP, mT, g1, g2⟩ := H
    simp only [fX3_readChapter, tn_th g1.1]
    rw [show fX3_readChapter_L12 a b c (-99) 0 0 0 h = some h1 from e1, Option.bind_some, tm_wr_id (by omega) (by omega)]
    exact e2
/-- after reading -/
theorem tx3_read {b : Nat} (H : tn_Rr h a A B Fi T mC mP mT mc rc) (Q : tn_Q h b s) (ok : tn_ok s) (hd : b + 50 ≤ a ∨ a + 33 ≤ b) : ∃ h', fX3_read a b h = some h' ∧ tn_Rp h' a s 6 0 0 ∧ tn_fr a (a + 33) h h' := by
  obtain ⟨h1, e1, H1, f1⟩ := tx3_forget (s := s) H
  obtain ⟨h2, e2, H2, f2⟩ := tx3_read_l (b := b) ok hd _ 0 h1 H1 (Q.cg (f1.off (by omega))) (by omega) (by omega) rfl
  refine ⟨h2, ?_, H2, f1.tr f2⟩
  simp only [fX3_read, tn_th H.1]
  rw [e1, Option.bind_some]
  exact e2
end RDP
