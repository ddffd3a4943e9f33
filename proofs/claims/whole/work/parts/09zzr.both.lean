/-! the class and the reference, side by side -/
/-- what a row means depends on its numbers and on the letters of its words -/
theorem tn_sim_pt {N N' Lt Lt' : Nat → Int} {t : tn_St} (e : tn_sim (tn_row N Lt) t) (ok : tn_ok t) (hN : ∀ k : Int, 0 ≤ k → k < 874 → N' k.toNat = N k.toNat) (hL : ∀ i : Int, 0 ≤ i → i < 8 * tn_n t → Lt' i.toNat = Lt i.toNat) : tn_sim (tn_row N' Lt') t := by
  obtain ⟨e1, e2, e3, e4, e5, e6⟩ := e
  have n60 := ok.2.1
  have nT := ok.2.2.2.2.2.1
  refine ⟨(hN 0 (by omega) (by omega)).trans e1, fun w w0 w1 => ⟨(hN _ (by omega) (by omega)).trans (e2 w w0 w1).1, ?_⟩, fun c c0 c1 => ⟨(hN _ (by omega) (by omega)).trans (e3 c c0 c1).1, fun p p0 p1 => ?_⟩, (hN 307 (by omega) (by omega)).trans e4, fun u u0 u1 => ⟨(hN _ (by omega) (by omega)).trans (e5 u u0 u1).1, (hN _ (by omega) (by omega)).trans (e5 u u0 u1).2.1, fun k k0 k1 => ?_⟩, fun z z0 z1 => ⟨(hN _ (by omega) (by omega)).trans (e6 z z0 z1).1, fun tk c c0 c1 => ⟨(hN _ (by omega) (by omega)).trans ((e6 z z0 z1).2 tk c c0 c1).1, fun p p0 p1 => ?_⟩⟩⟩
  · refine Eq.trans ?_ (e2 w w0 w1).2
    show tn_sl Lt' w = tn_sl Lt w
    unfold tn_sl
    refine tn_spl_cg (fun k hk => ?_)
    rw [Int.zero_add]
    exact hL _ (by omega) (by omega)
  · have sz := ok.c (c := c) ⟨c0, c1⟩
    exact (hN _ (by omega) (by omega)).trans ((e3 c c0 c1).2 p p0 p1)
  · have tl := ok.t (t := u) ⟨u0, u1⟩
    exact (hN _ (by omega) (by omega)).trans ((e5 u u0 u1).2.2 k k0 k1)
  · have zs := (ok.2.2.2.2.2.2.2 z z0 z1).2 tk c c0 c1
    exact (hN _ (by omega) (by omega)).trans (((e6 z z0 z1).2 tk c c0 c1).2 p p0 p1)
/-- the i-th row of the past -/
def tn_pw (P : Nat → Int) (i : Int) : Nat → Int := fun k => P (874 * i + (k : Int)).toNat
theorem tn_pw_at {P : Nat → Int} {i k : Int} (hk : 0 ≤ k) : tn_pw P i k.toNat = P (874 * i + k).toNat := by
  unfold tn_pw
  rw [Int.toNat_of_nonneg hk]
def tn_hi (P Lt : Nat → Int) (s : tn_St) (z : Int) (st : Int → tn_St) : Prop := (0 ≤ z ∧ z ≤ 5) ∧ (∀ i : Int, 0 ≤ i → i < z → tn_sim (tn_row (tn_pw P i) Lt) (st i) ∧ tn_ok (st i) ∧ tn_nT (st i) ≤ 12 ∧ tn_n (st i) ≤ tn_n s) ∧ ∀ i j : Int, 0 ≤ i → i ≤ j → j < z → tn_n (st i) ≤ tn_n (st j)
/-- both stand for the same -/
def tn_iv (h : tm_H) (a b : Nat) (s : tn_St) (l : Int) (x : Int → Int) (z : Int) (st : Int → tn_St) (C : Nat → Nat → Int) (J : Nat → Int) : Prop :=
  tn_I h a s l x z st ∧ tn_E h b C J ∧ tn_row (C 0) (C 4) = s ∧ tn_ok s ∧ tn_nT s ≤ 12 ∧ tn_lt C ∧ J 5 = l ∧ J 3 = z ∧ tn_xx l x (C 3) ∧ tn_hi (C 1) (C 4) s z st
def tn_Iv (h : tm_H) (a b : Nat) : Prop := ∃ s l x z st C J, tn_iv h a b s l x z st C J
section BTH
variable {h : tm_H} {a b : Nat} {s : tn_St} {l : Int} {x : Int → Int} {z : Int} {st : Int → tn_St} {C : Nat → Nat → Int} {J : Nat → Int}
theorem tn_iv_mk {s' : tn_St} (I : tn_I h a s' l x z st) (E : tn_E h b C J) (sm : tn_sim (tn_row (C 0) (C 4)) s') (ok : tn_ok s') (nT : tn_nT s' ≤ 12) (lt : tn_lt C) (j5 : J 5 = l) (j3 : J 3 = z) (xx : tn_xx l x (C 3)) (hi : tn_hi (C 1) (C 4) s' z st) : tn_Iv h a b := by
  refine ⟨tn_row (C 0) (C 4), l, x, z, st, C, J, I.ext (I.2.1.sim sm), E, rfl, ok.sim sm, ?_, lt, j5, j3, xx, hi.1, fun i i0 i1 => ?_, hi.2.2⟩
  · rw [sm.2.2.2.1]; exact nT
  · rw [sm.1]; exact hi.2.1 i i0 i1
theorem tn_iv.E1 (V : tn_iv h a b s l x z st C J) {h1 : tm_H} (f : tn_fr a (a + 441) h h1) (hd : a + 441 ≤ b) : tn_E h1 b C J := V.2.1.cg (f.off (Or.inl hd))
theorem tn_iv.okC (V : tn_iv h a b s l x z st C J) : tn_ok (tn_row (C 0) (C 4)) := by rw [V.2.2.1]; exact V.2.2.2.1
theorem tn_iv.hnC (V : tn_iv h a b s l x z st C J) : C 0 307 ≤ 12 := by
  have := V.2.2.2.2.1
  rw [← V.2.2.1] at this
  exact this
theorem tn_iv.n (V : tn_iv h a b s l x z st C J) : C 0 0 = tn_n s := by rw [← V.2.2.1]; rfl
theorem tn_iv.j0 (V : tn_iv h a b s l x z st C J) : 0 ≤ J 3 ∧ J 3 ≤ 5 := by
  rw [V.2.2.2.2.2.2.2.1]; exact V.2.2.2.2.2.2.2.2.2.1
theorem tn_iv.V (V : tn_iv h a b s l x z st C J) {h1 : tm_H} (E : tn_E h1 b C J) : tn_V h1 b C J s C := ⟨V.2.2.1, V.2.2.2.1, V.hnC, E, tn_sc.rf C⟩
/-- a look changes nothing -/
theorem tn_iv.look (V : tn_iv h a b s l x z st C J) (hd : a + 441 ≤ b) {h1 h2 : tm_H} (I : tn_I h1 a s l x z st) (G : tn_G h2 b C J) (f : tn_fr b (b + 11) h1 h2) : tn_Iv h2 a b := by
  obtain ⟨C', J', E', e, j5, j3⟩ := G
  obtain ⟨_, _, v1, v2, v3, v4, v5, v6, v7, v8⟩ := V
  refine tn_iv_mk (I.cg (f.off (by omega))) E' (s' := s) ?_ v2 v3 ?_ (j5.trans v5) (j3.trans v6) ?_ ?_
  · rw [e 0 (by omega) (by omega), e 4 (by omega) (by omega), v1]; exact tn_sim.rf s
  · intro i i0 i1
    rw [e 4 (by omega) (by omega)]; exact v4 i i0 i1
  · rw [e 3 (by omega) (by omega)]; exact v7
  · rw [e 1 (by omega) (by omega), e 4 (by omega) (by omega)]; exact v8
/-- the past with the present at its end -/
theorem tn_hi.put (V : tn_hi (C 1) (C 4) s z st) (es : tn_row (C 0) (C 4) = s) (ok : tn_ok s) (nT : tn_nT s ≤ 12) {P' L' : Nat → Int} {s' : tn_St} (hL : ∀ i : Int, 0 ≤ i → i < 8 * tn_n s → L' i.toNat = C 4 i.toNat) (hn : tn_n s ≤ tn_n s') (q : ∀ i k : Int, 0 ≤ i → i < tn_hz z → 0 ≤ k → k < 874 → P' (874 * i + k).toNat = if z < 5 then (if i = z then C 0 k.toNat else C 1 (874 * i + k).toNat) else (if i = 4 then C 0 k.toNat else C 1 (874 * (i + 1) + k).toNat)) : tn_hi P' L' s' (tn_hz z) (tn_hs z st s) := by
  obtain ⟨⟨z0, z1⟩, v1, v2⟩ := V
  have sn : ∀ i : Int, 0 ≤ i → i < tn_hz z → (∀ k : Int, 0 ≤ k → k < 874 → P' (874 * i + k).toNat = C 0 k.toNat) → tn_sim (tn_row (tn_pw P' i) L') s := fun i i0 i1 e => by
    refine tn_sim_pt (N := C 0) (Lt := C 4) (by rw [es]; exact tn_sim.rf s) ok (fun k k0 k1 => ?_) hL
    rw [tn_pw_at k0]
    exact e k k0 k1
  have so : ∀ i j : Int, 0 ≤ i → i < tn_hz z → 0 ≤ j → j < z → (∀ k : Int, 0 ≤ k → k < 874 → P' (874 * i + k).toNat = C 1 (874 * j + k).toNat) → tn_sim (tn_row (tn_pw P' i) L') (st j) := fun i j i0 i1 j0 j1 e => by
    obtain ⟨w1, w2, w3, w4⟩ := v1 j j0 j1
    refine tn_sim_pt w1 w2 (fun k k0 k1 => ?_) (fun u u0 u1 => hL u u0 (by omega))
    rw [tn_pw_at k0, tn_pw_at k0]
    exact e k k0 k1
  by_cases c : z < 5
  · have hz : tn_hz z = z + 1 := if_pos c
    have hs : ∀ i, tn_hs z st s i = if i = z then s else st i := fun i => if_pos c
    refine ⟨by omega, fun i i0 i1 => ?_, fun i j i0 ij j1 => ?_⟩
    · rw [hs]
      by_cases d : i = z
      · rw [if_pos d]
        exact ⟨sn i i0 i1 (fun k k0 k1 => by rw [q i k i0 i1 k0 k1, if_pos c, if_pos d]), ok, nT, hn⟩
      · rw [if_neg d]
        obtain ⟨w1, w2, w3, w4⟩ := v1 i i0 (by omega)
        exact ⟨so i i i0 i1 i0 (by omega) (fun k k0 k1 => by rw [q i k i0 i1 k0 k1, if_pos c, if_neg d]), w2, w3, by omega⟩
    · rw [hs, hs]
      by_cases d : j = z
      · rw [if_pos d]
        by_cases d' : i = z
        · rw [if_pos d']; exact Int.le_refl _
        · rw [if_neg d']
          exact (v1 i i0 (by omega)).2.2.2
      · rw [if_neg d, if_neg (by omega)]
        exact v2 i j i0 ij (by omega)
  · have hz : tn_hz z = 5 := if_neg c
    have hs : ∀ i, tn_hs z st s i = if i = 4 then s else st (i + 1) := fun i => if_neg c
    refine ⟨by omega, fun i i0 i1 => ?_, fun i j i0 ij j1 => ?_⟩
    · rw [hs]
      by_cases d : i = 4
      · rw [if_pos d]
        exact ⟨sn i i0 i1 (fun k k0 k1 => by rw [q i k i0 i1 k0 k1, if_neg c, if_pos d]), ok, nT, hn⟩
      · rw [if_neg d]
        obtain ⟨w1, w2, w3, w4⟩ := v1 (i + 1) (by omega) (by omega)
        exact ⟨so i (i + 1) i0 i1 (by omega) (by omega) (fun k k0 k1 => by rw [q i k i0 i1 k0 k1, if_neg c, if_neg d]), w2, w3, by omega⟩
    · rw [hs, hs]
      by_cases d : j = 4
      · rw [if_pos d]
        by_cases d' : i = 4
        · rw [if_pos d']; exact Int.le_refl _
        · rw [if_neg d']
          exact (v1 (i + 1) (by omega) (by omega)).2.2.2
      · rw [if_neg d, if_neg (by omega)]
        exact v2 (i + 1) (j + 1) (by omega) (by omega) (by omega)
/-- what is asked of a new state -/
def tn_gd (s : tn_St) (o : Option tn_St) : Prop := ∀ s', o = some s' → tn_ok s' ∧ tn_nT s' ≤ 12 ∧ tn_n s' = tn_n s
theorem tn_gd_no (s : tn_St) : tn_gd s none := fun _ e => by cases e
theorem tn_gd_of {s s' : tn_St} (h : tn_ok s' ∧ tn_nT s' ≤ 12 ∧ tn_n s' = tn_n s) : tn_gd s (some s') := fun _ e => by cases e; exact h
/-- an action of both -/
theorem tn_iv.act (V : tn_iv h a b s l x z st C J) (hd : a + 441 ≤ b) {h1 h2 : tm_H} {o : Option tn_St} (I : tn_J h1 a l x z st s o) (O : tn_O h2 b C J o) (f : tn_fr b (b + 11) h1 h2) (gd : tn_gd s o) : tn_Iv h2 a b := by
  cases o with
  | none => exact V.look hd I O f
  | some s' =>
    obtain ⟨ok', nT', n'⟩ := gd s' rfl
    obtain ⟨C', J', E', c4, c3, j5, j3, q, sm⟩ := O
    obtain ⟨_, _, v1, v2, v3, v4, v5, v6, v7, v8⟩ := V
    have I' : tn_I h1 a s' l x (tn_hz z) (tn_hs z st s) := I
    rw [v6] at q j3
    refine tn_iv_mk (I'.cg (f.off (by omega))) E' sm ok' nT' ?_ (j5.trans v5) j3 ?_ ?_
    · intro i i0 i1
      rw [c4]; exact v4 i i0 i1
    · rw [c3]; exact v7
    · exact v8.put v1 v2 v3 (fun i _ _ => by rw [c4]) (by omega) q
end BTH
section GDS
variable {s : tn_St}
theorem tn_gd_insert (ok : tn_ok s) (nT : tn_nT s ≤ 12) (c p w : Int) : tn_gd s (sp_insert s c p w).2 := by
  unfold sp_insert
  by_cases c1 : 0 ≤ c ∧ c < 6 ∧ 0 ≤ p ∧ p ≤ tn_sz s c ∧ 0 ≤ w ∧ w < tn_n s
  · rw [if_pos c1]
    by_cases c2 : tn_sz s c < 40
    · rw [if_pos c2]
      obtain ⟨h1, h2, h3, h4, h5⟩ := ok
      refine tn_gd_of ⟨⟨h1, h2, h3, fun d d0 d1 => ?_, h5⟩, nT, rfl⟩
      have q := h4 d d0 d1
      have qc := h4 c c1.1 c1.2.1
      show 0 ≤ (if d = c then tn_sz s c + 1 else tn_sz s d) ∧ (if d = c then tn_sz s c + 1 else tn_sz s d) ≤ 40 ∧ ∀ i : Int, 0 ≤ i → i < (if d = c then tn_sz s c + 1 else tn_sz s d) → 0 ≤ (if d = c then (if i < p then tn_wd s c i else if i = p then w else tn_wd s c (i - 1)) else tn_wd s d i) ∧ (if d = c then (if i < p then tn_wd s c i else if i = p then w else tn_wd s c (i - 1)) else tn_wd s d i) < tn_n s
      by_cases y : d = c
      · simp only [if_pos y]
        refine ⟨by omega, by omega, fun i i0 i1 => ?_⟩
        by_cases y1 : i < p
        · simp only [if_pos y1]
          exact qc.2.2 i i0 (by omega)
        · simp only [if_neg y1]
          by_cases y2 : i = p
          · simp only [if_pos y2]
            exact ⟨c1.2.2.2.2.1, c1.2.2.2.2.2⟩
          · simp only [if_neg y2]
            exact qc.2.2 (i - 1) (by omega) (by omega)
      · simp only [if_neg y]
        exact q
    · rw [if_neg c2]; exact tn_gd_no s
  · rw [if_neg c1]; exact tn_gd_no s
theorem tn_gd_delete (ok : tn_ok s) (nT : tn_nT s ≤ 12) (c p e : Int) : tn_gd s (sp_delete s c p e).2 := by
  unfold sp_delete
  by_cases c1 : 0 ≤ c ∧ c < 6 ∧ 0 ≤ p ∧ p ≤ e ∧ e < tn_sz s c
  · rw [if_pos c1]
    obtain ⟨h1, h2, h3, h4, h5⟩ := ok
    refine tn_gd_of ⟨⟨h1, h2, h3, fun d d0 d1 => ?_, h5⟩, nT, rfl⟩
    have q := h4 d d0 d1
    have qc := h4 c c1.1 c1.2.1
    show 0 ≤ (if d = c then tn_sz s c - (e - p + 1) else tn_sz s d) ∧ (if d = c then tn_sz s c - (e - p + 1) else tn_sz s d) ≤ 40 ∧ ∀ i : Int, 0 ≤ i → i < (if d = c then tn_sz s c - (e - p + 1) else tn_sz s d) → 0 ≤ (if d = c then (if i < p then tn_wd s c i else tn_wd s c (i + (e - p + 1))) else tn_wd s d i) ∧ (if d = c then (if i < p then tn_wd s c i else tn_wd s c (i + (e - p + 1))) else tn_wd s d i) < tn_n s
    by_cases y : d = c
    · simp only [if_pos y]
      refine ⟨by omega, by omega, fun i i0 i1 => ?_⟩
      by_cases y1 : i < p
      · simp only [if_pos y1]
        exact qc.2.2 i i0 (by omega)
      · simp only [if_neg y1]
        exact qc.2.2 _ (by omega) (by omega)
    · simp only [if_neg y]
      exact q
  · rw [if_neg c1]; exact tn_gd_no s
theorem tn_gd_replace (ok : tn_ok s) (nT : tn_nT s ≤ 12) (w o : Int) : tn_gd s (sp_replace s w o).2 := by
  unfold sp_replace
  by_cases c1 : 0 ≤ w ∧ w < tn_n s ∧ 0 ≤ o ∧ o < tn_n s ∧ w ≠ o
  · rw [if_pos c1]
    obtain ⟨h1, h2, h3, h4, h5⟩ := ok
    refine tn_gd_of ⟨⟨h1, h2, h3, fun d d0 d1 => ?_, h5⟩, nT, rfl⟩
    have q := h4 d d0 d1
    refine ⟨q.1, q.2.1, fun i i0 i1 => ?_⟩
    show 0 ≤ (if tn_wd s d i = w then o else tn_wd s d i) ∧ (if tn_wd s d i = w then o else tn_wd s d i) < tn_n s
    by_cases y : tn_wd s d i = w
    · simp only [if_pos y]
      exact ⟨c1.2.2.1, c1.2.2.2.1⟩
    · simp only [if_neg y]
      exact q.2.2 i i0 i1
  · rw [if_neg c1]; exact tn_gd_no s
theorem tn_gd_swap (ok : tn_ok s) (nT : tn_nT s ≤ 12) (c d : Int) : tn_gd s (sp_swap s c d).2 := by
  unfold sp_swap
  by_cases c1 : 0 ≤ c ∧ c < 6 ∧ 0 ≤ d ∧ d < 6
  · rw [if_pos c1]
    exact tn_gd_of ⟨ok.swp ⟨c1.1, c1.2.1⟩ c1.2.2, nT, rfl⟩
  · rw [if_neg c1]; exact tn_gd_no s
theorem tn_gd_add (ok : tn_ok s) (a1 a2 a3 a4 : Int) : tn_gd s (sp_add s a1 a2 a3 a4).2 := by
  unfold sp_add
  by_cases c1 : sp_ask s a1 a2 a3 a4 < 0
  · rw [if_pos c1]; exact tn_gd_no s
  · rw [if_neg c1]
    by_cases c2 : tn_nT s < 12
    · rw [if_pos c2]
      exact tn_gd_of ⟨ok.asked (by omega) c1, show tn_nT s + 1 ≤ 12 by omega, rfl⟩
    · rw [if_neg c2]; exact tn_gd_no s
theorem tn_gd_remove (ok : tn_ok s) (nT : tn_nT s ≤ 12) (d : Int) : tn_gd s (sp_remove s d).2 := by
  unfold sp_remove
  by_cases c1 : 0 ≤ d ∧ d < tn_nT s
  · rw [if_pos c1]
    exact tn_gd_of ⟨ok.drp c1, show tn_nT s - 1 ≤ 12 by omega, rfl⟩
  · rw [if_neg c1]; exact tn_gd_no s
theorem tn_gd_quiet (ok : tn_ok s) (nT : tn_nT s ≤ 12) (t v : Int) : tn_gd s (sp_quiet s t v).2 := by
  unfold sp_quiet
  by_cases c1 : 0 ≤ t ∧ t < tn_nT s ∧ 0 ≤ v ∧ v ≤ 1
  · rw [if_pos c1]
    exact tn_gd_of ⟨ok.hsh (by omega), nT, rfl⟩
  · rw [if_neg c1]; exact tn_gd_no s
theorem tn_gd_base (ok : tn_ok s) (nT : tn_nT s ≤ 12) (w v : Int) : tn_gd s (sp_base s w v).2 := by
  unfold sp_base
  by_cases c1 : 0 ≤ w ∧ w < tn_n s ∧ 0 ≤ v ∧ v < tn_n s
  · rw [if_pos c1]
    by_cases c2 : tn_may s w v
    · rw [if_pos c2]
      exact tn_gd_of ⟨ok.setB ⟨c1.2.2.1, c1.2.2.2⟩, nT, rfl⟩
    · rw [if_neg c2]; exact tn_gd_no s
  · rw [if_neg c1]; exact tn_gd_no s
theorem tn_gd_take (ok : tn_ok s) (nT : tn_nT s ≤ 12) (y : Int) : tn_gd s (sp_take s y).2 := by
  unfold sp_take
  by_cases c1 : 0 ≤ y ∧ y < 2
  · rw [if_pos c1]
    obtain ⟨h1, h2, h3, h4, h5, h6, h7, h8⟩ := ok
    refine tn_gd_of ⟨⟨h1, h2, h3, h4, h5, h6, h7, fun u u0 u1 => ?_⟩, nT, rfl⟩
    have q := h8 u u0 u1
    show ((if u = y then 1 else tn_tk s u) = 0 ∨ (if u = y then 1 else tn_tk s u) = 1) ∧ ((if u = y then 1 else tn_tk s u) = 1 → ∀ c : Int, 0 ≤ c → c < 6 → 0 ≤ (if u = y then tn_sz s else tn_zs s u) c ∧ (if u = y then tn_sz s else tn_zs s u) c ≤ 40 ∧ ∀ p : Int, 0 ≤ p → p < (if u = y then tn_sz s else tn_zs s u) c → 0 ≤ (if u = y then tn_wd s else tn_zw s u) c p ∧ (if u = y then tn_wd s else tn_zw s u) c p < tn_n s)
    by_cases k : u = y
    · simp only [if_pos k]
      exact ⟨Or.inr trivial, fun _ c c0 c2 => h4 c c0 c2⟩
    · simp only [if_neg k]
      exact q
  · rw [if_neg c1]; exact tn_gd_no s
theorem tn_gd_restore (ok : tn_ok s) (nT : tn_nT s ≤ 12) (y : Int) : tn_gd s (sp_restore s y).2 := by
  unfold sp_restore
  by_cases c1 : 0 ≤ y ∧ y < 2
  · rw [if_pos c1]
    by_cases c2 : tn_tk s y = 0
    · rw [if_pos c2]; exact tn_gd_no s
    · rw [if_neg c2]
      obtain ⟨h1, h2, h3, h4, h5⟩ := ok
      have q := h5.2.2.2 y c1.1 c1.2
      exact tn_gd_of ⟨⟨h1, h2, h3, fun c c0 c2 => q.2 (by omega) c c0 c2, h5⟩, nT, rfl⟩
  · rw [if_neg c1]; exact tn_gd_no s
end GDS
