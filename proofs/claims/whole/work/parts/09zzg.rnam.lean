/-! the reference's reading is the state's, under other names of the terms -/
theorem tn_lg_rn {n m r : Int} {P P' : Int → Prop} {len len' : Int → Int} {f : Int → Int} (a : tn_lg n P len r) (f9 : f (-99) = -99) (f1 : ∀ t : Int, 0 ≤ t → t < n → P t → 0 ≤ f t ∧ f t < m ∧ P' (f t) ∧ len' (f t) = len t) (f2 : ∀ t u : Int, 0 ≤ t → t ≤ u → u < n → f t ≤ f u) (f3 : ∀ u : Int, 0 ≤ u → u < m → P' u → ∃ t : Int, 0 ≤ t ∧ t < n ∧ P t ∧ f t = u) : tn_lg m P' len' (f r) := by
  rcases a with ⟨a1, a2⟩ | ⟨a1, a2, a3, a4⟩
  · refine Or.inl ⟨by rw [a1, f9], fun u u0 u1 hu => ?_⟩
    obtain ⟨t, t0, t1, t2, _⟩ := f3 u u0 u1 hu
    exact a2 t t0 t1 t2
  · obtain ⟨b1, b2, b3, b4⟩ := f1 r a1 a2 a3
    refine Or.inr ⟨b1, b2, b3, fun u u0 u1 hu => ?_⟩
    obtain ⟨t, t0, t1, t2, t3⟩ := f3 u u0 u1 hu
    obtain ⟨_, _, _, d4⟩ := f1 t t0 t1 t2
    rw [← t3, d4, b4]
    rcases a4 t t0 t1 t2 with k | ⟨k1, k2⟩
    · exact Or.inl k
    · exact Or.inr ⟨k1, f2 r t a1 k2 t1⟩
theorem tn_L_lg (s : tn_St) (hn : 0 ≤ tn_nT s) (c p : Int) : tn_lg (tn_nT s) (fun t => tn_oc s t c p) (tn_tl s) (tn_L s c p) := by
  have := tn_lg_ex (fun t => tn_oc s t c p) (tn_tl s) (tn_nT s).toNat
  rw [Int.toNat_of_nonneg hn] at this
  exact Classical.epsilon_spec (p := fun r => tn_lg (tn_nT s) (fun t => tn_oc s t c p) (tn_tl s) r) this
theorem tn_L_in (s : tn_St) (hn : 0 ≤ tn_nT s) (c p : Int) : tn_L s c p = -99 ∨ 0 ≤ tn_L s c p ∧ tn_L s c p < tn_nT s := by
  rcases tn_L_lg s hn c p with ⟨a1, a2⟩ | ⟨a1, a2, a3, a4⟩
  · exact Or.inl a1
  · exact Or.inr ⟨a1, a2⟩
/-- f tells under which names the reference knows the terms of s' -/
def tn_nd (C : Nat → Nat → Int) (wo wt : Int) (s' : tn_St) (f : Int → Int) : Prop := 0 ≤ tn_nT s' ∧ f (-99) = -99 ∧ (∀ t : Int, 0 ≤ t → t < tn_nT s' → 0 ≤ f t ∧ f t ≤ 12 ∧ tn_cd C wo wt (f t) ∧ (∀ c p : Int, 0 ≤ c → c < 6 → (tn_or C (f t) c p ↔ tn_oc s' t c p)) ∧ tn_rl C (f t) = tn_tl s' t ∧ (tn_gq C (f t) = 0 ↔ tn_tq s' t = 0)) ∧ (∀ t u : Int, 0 ≤ t → t < u → u < tn_nT s' → f t < f u) ∧ ∀ u : Int, 0 ≤ u → u ≤ 12 → tn_cd C wo wt u → ∃ t : Int, 0 ≤ t ∧ t < tn_nT s' ∧ f t = u
section NDD
variable {C : Nat → Nat → Int} {wo wt : Int} {s' : tn_St} {f : Int → Int}
theorem tn_nd.inj (D : tn_nd C wo wt s' f) {t u : Int} (ht : t = -99 ∨ 0 ≤ t ∧ t < tn_nT s') (hu : u = -99 ∨ 0 ≤ u ∧ u < tn_nT s') : f t = f u ↔ t = u := by
  obtain ⟨d0, d1, d2, d3, d4⟩ := D
  constructor
  · intro e
    rcases ht with a | a
    · rcases hu with k | k
      · omega
      · have := (d2 u k.1 k.2).1
        rw [a, d1] at e
        omega
    · rcases hu with k | k
      · have := (d2 t a.1 a.2).1
        rw [k, d1] at e
        omega
      · by_cases x : t < u
        · have := d3 t u a.1 x k.2
          omega
        · by_cases y : u < t
          · have := d3 u t k.1 y a.2
            omega
          · omega
  · intro e
    rw [e]
theorem tn_nd.g (D : tn_nd C wo wt s' f) {c : Int} (hc : 0 ≤ c ∧ c < 6) (p : Int) : tn_gl C c wo wt p = f (tn_L s' c p) := by
  obtain ⟨d0, d1, d2, d3, d4⟩ := D
  refine (tn_gl_lg C c wo wt p).uq (tn_lg_rn (tn_L_lg s' d0 c p) d1 (fun t t0 t1 ht => ?_) (fun t u t0 tu u1 => ?_) (fun u u0 u1 hu => ?_))
  · obtain ⟨e1, e2, e3, e4, e5, e6⟩ := d2 t t0 t1
    exact ⟨e1, by omega, ⟨e3, (e4 c p hc.1 hc.2).mpr ht⟩, e5⟩
  · by_cases x : t = u
    · rw [x]; exact Int.le_refl _
    · have := d3 t u t0 (by omega) u1
      omega
  · obtain ⟨t, t0, t1, t2⟩ := d4 u u0 (by omega) hu.1
    refine ⟨t, t0, t1, ?_, t2⟩
    rw [← t2] at hu
    exact ((d2 t t0 t1).2.2.2.1 c p hc.1 hc.2).mp hu.2
theorem tn_nd.e1 (D : tn_nd C wo wt s' f) {c : Int} (hc : 0 ≤ c ∧ c < 6) (p : Int) : tn_gw C (tn_gl C c wo wt p) = tn_w s' (tn_L s' c p) := by
  rw [D.g hc]
  unfold tn_gw tn_w
  rcases tn_L_in s' D.1 c p with k | k
  · rw [k, D.2.1, if_pos rfl, if_neg (by omega)]
  · obtain ⟨e1, e2, e3, e4, e5, e6⟩ := D.2.2.1 _ k.1 k.2
    rw [if_neg (by omega), if_pos k, e5]
theorem tn_nd.e2 (D : tn_nd C wo wt s' f) {c : Int} (hc : 0 ≤ c ∧ c < 6) (p : Int) : tn_gl C c wo wt p = -99 ↔ tn_L s' c p = -99 := by
  rw [D.g hc]
  have := D.inj (t := tn_L s' c p) (u := -99) (tn_L_in s' D.1 c p) (Or.inl rfl)
  rw [D.2.1] at this
  exact this
theorem tn_nd.e3 (D : tn_nd C wo wt s' f) {c : Int} (hc : 0 ≤ c ∧ c < 6) (p r : Int) : tn_gl C c wo wt p = tn_gl C c wo wt r ↔ tn_L s' c p = tn_L s' c r := by
  rw [D.g hc, D.g hc]
  exact D.inj (tn_L_in s' D.1 c p) (tn_L_in s' D.1 c r)
theorem tn_nd.e4 (D : tn_nd C wo wt s' f) {c : Int} (hc : 0 ≤ c ∧ c < 6) (p : Int) (hp : tn_L s' c p ≠ -99) : tn_gq C (tn_gl C c wo wt p) = 0 ↔ tn_tq s' (tn_L s' c p) = 0 := by
  rw [D.g hc]
  rcases tn_L_in s' D.1 c p with k | k
  · exact absurd k hp
  · exact (D.2.2.1 _ k.1 k.2).2.2.2.2.2
theorem tn_nd.km (D : tn_nd C wo wt s' f) {c : Int} (hc : 0 ≤ c ∧ c < 6) (p : Int) : tn_km (tn_gl C c wo wt) (tn_gw C) (tn_gq C) p = tn_km (tn_L s' c) (tn_w s') (tn_tq s') p :=
  tn_km_nm (fun p _ => D.e1 hc p) (fun p _ => D.e2 hc p) (fun p r _ _ => D.e3 hc p r) (fun p _ h => D.e4 hc p h) p
end NDD
/-- the marks of a chapter, as the reference counts them -/
noncomputable def tn_mw (C : Nat → Nat → Int) (wo wt d : Int) : Int := tn_km (tn_gl C d wo wt) (tn_gw C) (tn_gq C) (C 0 (61 + 41 * d).toNat)
theorem tn_mw_sc {C C' : Nat → Nat → Int} (hs : tn_sc C C') (wo wt : Int) : tn_mw C' wo wt = tn_mw C wo wt := by
  funext d
  unfold tn_mw
  rw [tn_gl_sc hs, tn_gw_sc hs, tn_gq_sc hs, hs 0 (by omega) (by omega) (by omega)]
theorem tn_mw_rg {C : Nat → Nat → Int} (ok : tn_ok (tn_row (C 0) (C 4))) (wo wt : Int) {d : Int} (hd : 0 ≤ d ∧ d < 6) : 0 ≤ tn_mw C wo wt d ∧ tn_mw C wo wt d ≤ 40 := by
  have sz : 0 ≤ C 0 (61 + 41 * d).toNat ∧ C 0 (61 + 41 * d).toNat ≤ 40 := ⟨(ok.c hd).1, (ok.c hd).2⟩
  have := tn_sm_rg (f := fun i => tn_b (tn_mk (tn_gl C d wo wt) (tn_gw C) (tn_gq C) i)) (B := 1) (m := (C 0 (61 + 41 * d).toNat).toNat) (fun i _ _ => tn_b_rg _)
  unfold tn_mw tn_km
  omega
theorem tn_nd.M {C : Nat → Nat → Int} {wo wt : Int} {s' : tn_St} {f : Int → Int} (D : tn_nd C wo wt s' f) (hz : ∀ d : Int, 0 ≤ d → d < 6 → tn_sz s' d = C 0 (61 + 41 * d).toNat) : tn_sm (tn_mw C wo wt) 6 = tn_M s' := by
  have e : tn_M s' = tn_sm (fun d => tn_km (tn_L s' d) (tn_w s') (tn_tq s') (tn_sz s' d)) 6 := by
    show tn_sm (fun d => tn_km (tn_L s' d) (tn_w s') (tn_tq s') (tn_sz s' d)) 6 + 0 = _
    omega
  rw [e]
  refine tn_sm_cg (fun d d0 d1 => ?_)
  rw [hz d d0 (by omega)]
  exact D.km ⟨d0, by omega⟩ _
/-- the names of the state itself -/
theorem tn_nd_id {C : Nat → Nat → Int} (ok : tn_ok (tn_row (C 0) (C 4))) (hn : C 0 307 ≤ 12) {wo : Int} (hw : wo < 0) : tn_nd C wo 0 (tn_row (C 0) (C 4)) (fun t => t) := by
  have nt : tn_nT (tn_row (C 0) (C 4)) = C 0 307 := rfl
  refine ⟨ok.2.2.2.2.1, rfl, fun t t0 t1 => ?_, fun t u _ h _ => h, fun u u0 u1 hu => ?_⟩
  · rw [nt] at t1
    have t12 : t < 12 := by omega
    show 0 ≤ t ∧ t ≤ 12 ∧ tn_cd C wo 0 t ∧ (∀ c p : Int, 0 ≤ c → c < 6 → (tn_or C t c p ↔ tn_oc (tn_row (C 0) (C 4)) t c p)) ∧ tn_rl C t = tn_tl (tn_row (C 0) (C 4)) t ∧ (tn_gq C t = 0 ↔ tn_tq (tn_row (C 0) (C 4)) t = 0)
    refine ⟨t0, by omega, ?_, fun c p _ _ => tn_or_oc ⟨t0, t12⟩, if_neg (by omega), ?_⟩
    · unfold tn_cd
      rw [if_neg (by omega)]
      exact ⟨t1, by omega⟩
    · have tq : C 0 (313 + 6 * t).toNat = 0 ∨ C 0 (313 + 6 * t).toNat = 1 := (ok.2.2.2.2.2.2.1 t t0 t1).2.2.1
      show tn_gq C t = 0 ↔ C 0 (313 + 6 * t).toNat = 0
      unfold tn_gq
      rcases tq with k | k
      · rw [if_neg (by omega)]
        exact ⟨fun _ => k, fun _ => rfl⟩
      · rw [if_pos ⟨by omega, k⟩, k]
  · unfold tn_cd at hu
    by_cases c12 : u = 12
    · rw [if_pos c12] at hu
      exact absurd rfl hu
    · rw [if_neg c12] at hu
      exact ⟨u, u0, hu.1, rfl⟩
/-- without a term -/
theorem tn_nd_drp {C : Nat → Nat → Int} (ok : tn_ok (tn_row (C 0) (C 4))) (hn : C 0 307 ≤ 12) {d : Int} (hd : 0 ≤ d ∧ d < C 0 307) : tn_nd C d 0 (tn_drp (tn_row (C 0) (C 4)) d) (fun t => if t < d then t else t + 1) := by
  have nt : tn_nT (tn_drp (tn_row (C 0) (C 4)) d) = C 0 307 - 1 := rfl
  refine ⟨by rw [nt]; omega, ?_, fun t t0 t1 => ?_, fun t u t0 h u1 => ?_, fun u u0 u1 hu => ?_⟩
  · show (if (-99 : Int) < d then (-99 : Int) else -99 + 1) = -99
    rw [if_pos (by omega)]
  · rw [nt] at t1
    have k1 : 0 ≤ (if t < d then t else t + 1) ∧ (if t < d then t else t + 1) < C 0 307 ∧ (if t < d then t else t + 1) ≠ d := by split <;> omega
    show 0 ≤ (if t < d then t else t + 1) ∧ (if t < d then t else t + 1) ≤ 12 ∧ tn_cd C d 0 (if t < d then t else t + 1) ∧ (∀ c p : Int, 0 ≤ c → c < 6 → (tn_or C (if t < d then t else t + 1) c p ↔ tn_oc (tn_row (C 0) (C 4)) (if t < d then t else t + 1) c p)) ∧ tn_rl C (if t < d then t else t + 1) = tn_tl (tn_row (C 0) (C 4)) (if t < d then t else t + 1) ∧ (tn_gq C (if t < d then t else t + 1) = 0 ↔ tn_tq (tn_row (C 0) (C 4)) (if t < d then t else t + 1) = 0)
    generalize (if t < d then t else t + 1) = v at k1
    obtain ⟨v0, v1, v2⟩ := k1
    have I := (tn_nd_id ok hn (wo := -1) (by omega)).2.2.1 v v0 v1
    obtain ⟨i1, i2, i3, i4, i5, i6⟩ := I
    refine ⟨i1, i2, ?_, i4, i5, i6⟩
    unfold tn_cd
    rw [if_neg (by omega)]
    exact ⟨v1, v2⟩
  · dsimp only
    split <;> split <;> omega
  · unfold tn_cd at hu
    by_cases c12 : u = 12
    · rw [if_pos c12] at hu
      exact absurd rfl hu
    · rw [if_neg c12] at hu
      by_cases k : u < d
      · exact ⟨u, u0, by rw [nt]; omega, if_pos k⟩
      · refine ⟨u - 1, by omega, by rw [nt]; omega, ?_⟩
        show (if u - 1 < d then u - 1 else u - 1 + 1) = u
        rw [if_neg (by omega)]
        omega
/-- with a term more -/
theorem tn_nd_add {C : Nat → Nat → Int} (ok : tn_ok (tn_row (C 0) (C 4))) (hn : C 0 307 ≤ 12) {K : Int} {W : Int → Int} (hK : C 5 0 = K) (hW : ∀ j : Int, 0 ≤ j → j < K → C 5 (1 + j).toNat = W j) : tn_nd C (-1) 1 (tn_addT (tn_row (C 0) (C 4)) K W) (fun t => if t = C 0 307 then 12 else t) := by
  have nt : tn_nT (tn_addT (tn_row (C 0) (C 4)) K W) = C 0 307 + 1 := rfl
  have n0 : 0 ≤ C 0 307 := ok.2.2.2.2.1
  refine ⟨by rw [nt]; omega, ?_, fun t t0 t1 => ?_, fun t u t0 h u1 => ?_, fun u u0 u1 hu => ?_⟩
  · show (if (-99 : Int) = C 0 307 then (12 : Int) else -99) = -99
    rw [if_neg (by omega)]
  · rw [nt] at t1
    have tl : tn_tl (tn_addT (tn_row (C 0) (C 4)) K W) t = if t = C 0 307 then K else C 0 (308 + 6 * t).toNat := rfl
    have tw : ∀ j, tn_tw (tn_addT (tn_row (C 0) (C 4)) K W) t j = if t = C 0 307 then W j else C 0 (309 + 6 * t + j).toNat := fun j => rfl
    have tq : tn_tq (tn_addT (tn_row (C 0) (C 4)) K W) t = if t = C 0 307 then 0 else C 0 (313 + 6 * t).toNat := rfl
    by_cases k : t = C 0 307
    · rw [if_pos k] at tl tq
      have rl : tn_rl C 12 = K := hK
      have rt : ∀ j : Int, tn_rt C 12 j = C 5 (1 + j).toNat := fun j => rfl
      rw [tl, tq]
      dsimp only
      rw [if_pos k]
      refine ⟨by omega, by omega, ?_, fun c p c0 c1 => ?_, rl, ?_⟩
      · unfold tn_cd
        rw [if_pos rfl]
        omega
      · unfold tn_or tn_oc
        rw [tl, rl]
        refine and_congr Iff.rfl ⟨fun h j j0 j1 => ?_, fun h j j0 j1 => ?_⟩
        · have := h j j0 j1
          rw [rt, hW j j0 j1] at this
          rw [tw, if_pos k]
          exact this
        · have := h j j0 j1
          rw [tw, if_pos k] at this
          rw [rt, hW j j0 j1]
          exact this
      · unfold tn_gq
        rw [if_neg (by omega)]
    · have I := (tn_nd_id ok hn (wo := -1) (by omega)).2.2.1 t t0 (show t < C 0 307 by omega)
      obtain ⟨i1, i2, i3, i4, i5, i6⟩ := I
      rw [if_neg k] at tl tq
      rw [tl, tq]
      dsimp only
      rw [if_neg k]
      refine ⟨i1, i2, ?_, fun c p c0 c1 => (i4 c p c0 c1).trans ?_, i5, i6⟩
      · unfold tn_cd
        rw [if_neg (by omega)]
        exact ⟨by omega, by omega⟩
      · unfold tn_oc
        rw [tl]
        refine and_congr Iff.rfl ⟨fun h j j0 j1 => ?_, fun h j j0 j1 => ?_⟩
        · rw [tw, if_neg k]
          exact h j j0 j1
        · have := h j j0 j1
          rw [tw, if_neg k] at this
          exact this
  · rw [nt] at u1
    dsimp only
    rw [if_neg (by omega)]
    split <;> omega
  · unfold tn_cd at hu
    by_cases c12 : u = 12
    · refine ⟨C 0 307, n0, by rw [nt]; omega, ?_⟩
      show (if C 0 307 = C 0 307 then (12 : Int) else C 0 307) = u
      rw [if_pos rfl, c12]
    · rw [if_neg c12] at hu
      refine ⟨u, u0, by rw [nt]; omega, ?_⟩
      show (if u = C 0 307 then (12 : Int) else u) = u
      rw [if_neg (by omega)]
