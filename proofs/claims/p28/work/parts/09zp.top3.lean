/-! terms that are asked for, and the beginning -/
/-- how many words are asked for, and whether they are words -/
def tn_aK (b c d : Int) : Int := if b = -1 then 1 else if c = -1 then 2 else if d = -1 then 3 else 4
def tn_aV (n a b c d : Int) : Prop := (0 ≤ a ∧ a < n) ∧ (b = -1 ∧ c = -1 ∧ d = -1 ∨ (0 ≤ b ∧ b < n) ∧ (c = -1 ∧ d = -1 ∨ (0 ≤ c ∧ c < n) ∧ (d = -1 ∨ 0 ≤ d ∧ d < n)))
def tn_aW (a b c d : Int) : Int → Int := fun j => if j = 0 then a else if j = 1 then b else if j = 2 then c else d
theorem tn_aK_rg (b c d : Int) : 1 ≤ tn_aK b c d ∧ tn_aK b c d ≤ 4 := by
  unfold tn_aK
  split
  · omega
  · split
    · omega
    · split <;> omega
theorem tn_aW_in {n a b c d : Int} (V : tn_aV n a b c d) : ∀ j : Int, 0 ≤ j → j < tn_aK b c d → 0 ≤ tn_aW a b c d j ∧ tn_aW a b c d j < n := by
  intro j j0 j1
  unfold tn_aV at V
  unfold tn_aK at j1
  unfold tn_aW
  split
  · omega
  · split
    · split at j1
      · omega
      · omega
    · split
      · split at j1
        · omega
        · split at j1
          · omega
          · omega
      · split at j1
        · omega
        · split at j1
          · omega
          · split at j1
            · omega
            · omega
/-- what asking answers -/
noncomputable def sp_ask (s : tn_St) (a b c d : Int) : Int := @ite _ (tn_aV (tn_n s) a b c d) (Classical.propDecidable _) (@ite _ (tn_lik s (tn_aK b c d) (tn_aW a b c d)) (Classical.propDecidable _) (-2) (tn_aK b c d)) (-1)
noncomputable def sp_add (s : tn_St) (a b c d : Int) : tn_An := if sp_ask s a b c d < 0 then (sp_ask s a b c d, none) else if tn_nT s < 12 then (tn_nT s, some (tn_addT s (sp_ask s a b c d) (tn_aW a b c d))) else (-3, none)
noncomputable def sp_gain (s : tn_St) (a b c d : Int) : Int := if sp_ask s a b c d < 0 then sp_ask s a b c d else 100 + tn_M (tn_addT s (sp_ask s a b c d) (tn_aW a b c d)) - tn_M s
noncomputable def tn_gr (s : tn_St) : Nat → Int × Int
  | 0 => (-99, -1)
  | m + 1 => if (tn_gr s m).2 < tn_M (tn_drp s m) then ((m : Int), tn_M (tn_drp s m)) else tn_gr s m
theorem tn_M_rg {s : tn_St} (ok : tn_ok s) : 0 ≤ tn_M s ∧ tn_M s ≤ 240 := by
  have := tn_s2_rg (f := tn_fk s) (sz := tn_sz s) (c := 6) (p := 0) (fun d i => tn_fk_rg s d i) (fun d d0 d1 => ok.c ⟨d0, d1⟩) (by omega) (by omega) (by omega)
  unfold tn_M; omega
section TOR
variable {h : tm_H} {o : Nat} {s : tn_St} {l : Int} {x : Int → Int} {z : Int} {st : Int → tn_St}
theorem tn_I.setA {h' : tm_H} {g : Nat → Int} (H : tn_I h o s l x z st) (e : h' (o + 440) = some (.inr (0, 4, .inl g))) (f : ∀ q, q ≠ o + 440 → h' q = h q) : tn_I h' o s l x z st := by
  obtain ⟨h1, h2, ⟨s2, h3⟩, h4, ⟨s5, g5, t5, n5, h5⟩, ⟨A, B, Fi, T, mC, mP, mT, mc, rc, h6⟩, ⟨g, h7⟩⟩ := H
  exact ⟨by rw [f _ (by omega)]; exact h1, h2.cg (fun q _ _ => f q (by omega)), ⟨s2, h3.cg (fun q _ _ => f q (by omega))⟩, h4.cg (fun q _ _ => f q (by omega)), ⟨s5, g5, t5, n5, h5.cg (fun q _ _ => f q (by omega))⟩, ⟨A, B, Fi, T, mC, mP, mT, mc, rc, h6.cg (fun q _ _ => f q (by omega))⟩, ⟨_, e⟩⟩
theorem tx8_len {a b c d : Int} {g : Nat → Int} (H : tn_I h o s l x z st) (e : h (o + 440) = some (.inr (0, 4, .inl g))) (g0 : g 0 = a) (g1 : g 1 = b) (g2 : g 2 = c) (g3 : g 3 = d) : fX8_askedLength o h = some (@ite _ (tn_aV (tn_n s) a b c d) (Classical.propDecidable _) (tn_aK b c d) (-1)) := by
  have n0 : 0 ≤ tn_n s ∧ tn_n s ≤ 60 := by
    obtain ⟨S, B, h1, h2, h3, h4, h5, h6⟩ := H.2.1.1
    exact ⟨h4, h5⟩
  have stp : ∀ (len i v : Int), 0 ≤ i → i < 4 → 0 ≤ len → len ≤ 4 → g i.toNat = v → fX8_askedLength_L4 o h len i = if v = -1 then fX8_askedLength_L4 o h len (i + 1) else if 0 ≤ v ∧ v < tn_n s ∧ i ≤ len then fX8_askedLength_L4 o h (len + 1) (i + 1) else some (-1) := by
    intro len i v i0 i1 l0 l1 hv
    rw [fX8_askedLength_L4_eq, if_pos i1, H.gr.2.2.2.2.2, Option.bind_some, tn_lI e i0 (by omega), Option.bind_some, hv, H.gr.1, Option.bind_some, H.g4.1, Option.bind_some, Option.bind_some, tn_lI e i0 (by omega), Option.bind_some, hv, tx7_has H.2.1.1, Option.bind_some, fX8_askedLength_L51_eq, fX8_askedLength_L51_eq, tm_wr_id (z := i + 1) (by omega) (by omega), tm_wr_id (z := len + 1) (by omega) (by omega)]
    by_cases c1 : v = -1
    · rw [if_pos c1, if_pos c1]
    · rw [if_neg c1, if_neg c1]
      by_cases c2 : 0 ≤ v ∧ v < tn_n s
      · rw [tn_b1 c2, if_neg (by omega)]
        by_cases c3 : len < i
        · rw [if_pos c3, if_neg (by omega)]
        · rw [if_neg c3, if_pos (by omega)]
      · rw [tn_b0 c2, if_pos rfl, if_neg (by omega)]
  have fin : ∀ len : Int, fX8_askedLength_L4 o h len (0 + 1 + 1 + 1 + 1) = if len = 0 then some (-1) else some len := by
    intro len
    rw [fX8_askedLength_L4_eq, if_neg (by omega)]
  simp only [fX8_askedLength, tn_th H.1]
  -- one asked word after another
  rw [stp 0 0 a (by omega) (by omega) (by omega) (by omega) g0]
  have s1 : ∀ len : Int, 0 ≤ len → len ≤ 1 → fX8_askedLength_L4 o h len (0 + 1) = _ := fun len l0 l1 => stp len (0 + 1) b (by omega) (by omega) l0 (by omega) g1
  have s2 : ∀ len : Int, 0 ≤ len → len ≤ 2 → fX8_askedLength_L4 o h len (0 + 1 + 1) = _ := fun len l0 l1 => stp len (0 + 1 + 1) c (by omega) (by omega) l0 (by omega) g2
  have s3 : ∀ len : Int, 0 ≤ len → len ≤ 3 → fX8_askedLength_L4 o h len (0 + 1 + 1 + 1) = _ := fun len l0 l1 => stp len (0 + 1 + 1 + 1) d (by omega) (by omega) l0 (by omega) g3
  have r3 : ∀ len : Int, 0 ≤ len → len ≤ 3 → fX8_askedLength_L4 o h len (0 + 1 + 1 + 1) = some (if d = -1 then (if len = 0 then -1 else len) else if 0 ≤ d ∧ d < tn_n s ∧ 3 ≤ len then len + 1 else -1) := by
    intro len l0 l1
    rw [s3 len l0 l1]
    by_cases c1 : d = -1
    · rw [if_pos c1, if_pos c1, fin]
      split <;> rfl
    · rw [if_neg c1, if_neg c1]
      by_cases c2 : 0 ≤ d ∧ d < tn_n s ∧ 3 ≤ len
      · rw [if_pos (by omega), if_pos c2, fin, if_neg (by omega)]
      · rw [if_neg (by omega), if_neg c2]
  have r2 : ∀ len : Int, 0 ≤ len → len ≤ 2 → fX8_askedLength_L4 o h len (0 + 1 + 1) = some (if c = -1 then (if d = -1 then (if len = 0 then -1 else len) else -1) else if 0 ≤ c ∧ c < tn_n s ∧ 2 ≤ len then (if d = -1 then 3 else if 0 ≤ d ∧ d < tn_n s then 4 else -1) else -1) := by
    intro len l0 l1
    rw [s2 len l0 l1]
    by_cases c1 : c = -1
    · rw [if_pos c1, if_pos c1, r3 len l0 (by omega), if_neg (show ¬ (0 ≤ d ∧ d < tn_n s ∧ 3 ≤ len) by omega)]
    · rw [if_neg c1, if_neg c1]
      by_cases c2 : 0 ≤ c ∧ c < tn_n s ∧ 2 ≤ len
      · rw [if_pos (by omega), if_pos c2, r3 (len + 1) (by omega) (by omega)]
        have : len = 2 := by omega
        subst this
        by_cases c3 : d = -1
        · rw [if_pos c3, if_pos c3, if_neg (by omega)]; rfl
        · rw [if_neg c3, if_neg c3]
          by_cases c4 : 0 ≤ d ∧ d < tn_n s
          · rw [if_pos (by omega), if_pos c4]; rfl
          · rw [if_neg (by omega), if_neg c4]
      · rw [if_neg (by omega), if_neg c2]
  have r1 : ∀ len : Int, 0 ≤ len → len ≤ 1 → fX8_askedLength_L4 o h len (0 + 1) = some (if b = -1 then (if c = -1 ∧ d = -1 then (if len = 0 then -1 else len) else -1) else if 0 ≤ b ∧ b < tn_n s ∧ 1 ≤ len then (if c = -1 then (if d = -1 then 2 else -1) else if 0 ≤ c ∧ c < tn_n s then (if d = -1 then 3 else if 0 ≤ d ∧ d < tn_n s then 4 else -1) else -1) else -1) := by
    intro len l0 l1
    rw [s1 len l0 l1]
    by_cases c1 : b = -1
    · rw [if_pos c1, if_pos c1, r2 len l0 (by omega), if_neg (show ¬ (0 ≤ c ∧ c < tn_n s ∧ 2 ≤ len) by omega)]
      by_cases c2 : c = -1
      · rw [if_pos c2]
        by_cases c3 : d = -1
        · rw [if_pos c3, if_pos (show c = -1 ∧ d = -1 from ⟨c2, c3⟩)]
        · rw [if_neg c3, if_neg (fun k => c3 k.2)]
      · rw [if_neg c2, if_neg (fun k => c2 k.1)]
    · rw [if_neg c1, if_neg c1]
      by_cases c2 : 0 ≤ b ∧ b < tn_n s ∧ 1 ≤ len
      · rw [if_pos (by omega), if_pos c2, r2 (len + 1) (by omega) (by omega)]
        have : len = 1 := by omega
        subst this
        by_cases c3 : c = -1
        · rw [if_pos c3, if_pos c3]; rfl
        · rw [if_neg c3, if_neg c3]
          by_cases c4 : 0 ≤ c ∧ c < tn_n s
          · rw [if_pos (by omega), if_pos c4]
          · rw [if_neg (by omega), if_neg c4]
      · rw [if_neg (by omega), if_neg c2]
  have c5 : ¬ (0 ≤ (-1 : Int)) := by omega
  by_cases V : tn_aV (tn_n s) a b c d
  · rw [if_pos V]
    unfold tn_aV at V
    unfold tn_aK
    rw [if_neg (by omega), if_pos (by omega), r1 (0 + 1) (by omega) (by omega)]
    by_cases c1 : b = -1
    · rw [if_pos c1, if_pos c1, if_pos (by omega)]; rfl
    · rw [if_neg c1, if_neg c1, if_pos (by omega)]
      by_cases c2 : c = -1
      · rw [if_pos c2, if_pos c2, if_pos (by omega)]
      · rw [if_neg c2, if_neg c2, if_pos (by omega)]
        by_cases c3 : d = -1
        · rw [if_pos c3, if_pos c3]
        · rw [if_neg c3, if_neg c3, if_pos (by omega)]
  · rw [if_neg V]
    unfold tn_aV at V
    by_cases ca : a = -1
    · rw [if_pos ca, r1 0 (by omega) (by omega)]
      congr 1
      split
      · split
        · rfl
        · rfl
      · rw [if_neg (by omega)]
    · rw [if_neg ca]
      by_cases cb : 0 ≤ a ∧ a < tn_n s
      · rw [if_pos (by omega), r1 (0 + 1) (by omega) (by omega)]
        congr 1
        by_cases c1 : b = -1
        · rw [if_pos c1, if_neg (by omega)]
        · rw [if_neg c1]
          by_cases c2 : 0 ≤ b ∧ b < tn_n s
          · rw [if_pos (by omega)]
            by_cases c3 : c = -1
            · rw [if_pos c3, if_neg (by omega)]
            · rw [if_neg c3]
              by_cases c4 : 0 ≤ c ∧ c < tn_n s
              · rw [if_pos c4, if_neg (by omega), if_neg (by omega)]
              · rw [if_neg c4]
          · rw [if_neg (by omega)]
      · rw [if_neg (by omega)]
theorem tx8_ask (H : tn_I h o s l x z st) (ok : tn_ok s) (a b c d : Int) : ∃ (h' : tm_H) (g : Nat → Int), fX8_ask o a b c d h = some (sp_ask s a b c d, h') ∧ tn_I h' o s l x z st ∧ h' (o + 440) = some (.inr (0, 4, .inl g)) ∧ (∀ j : Int, 0 ≤ j → j < 4 → g j.toNat = tn_aW a b c d j) ∧ tn_fr o (o + 441) h h' := by
  obtain ⟨g, hg⟩ := H.2.2.2.2.2.2
  obtain ⟨h1, e1, p1, o1⟩ := tn_WI (i := 0) a hg (by omega) (by omega)
  have H1 := H.setA p1 o1
  obtain ⟨h2, e2, p2, o2⟩ := tn_WI (i := 1) b p1 (by omega) (by omega)
  have H2 := H1.setA p2 o2
  obtain ⟨h3, e3, p3, o3⟩ := tn_WI (i := 2) c p2 (by omega) (by omega)
  have H3 := H2.setA p3 o3
  obtain ⟨h4, e4, p4, o4⟩ := tn_WI (i := 3) d p3 (by omega) (by omega)
  have H4 := H3.setA p4 o4
  refine ⟨h4, _, ?_, H4, p4, fun j j0 j1 => ?_, fun q hq => by rw [o4 q (by omega), o3 q (by omega), o2 q (by omega), o1 q (by omega)]⟩
  · have ln := tx8_len H4 (a := a) (b := b) (c := c) (d := d) p4 rfl rfl rfl rfl
    simp only [fX8_ask, tn_th H.1, H.gr.2.2.2.2.2, Option.bind_some, e1, H1.gr.2.2.2.2.2, e2, H2.gr.2.2.2.2.2, e3, H3.gr.2.2.2.2.2, e4, ln]
    unfold sp_ask
    by_cases V : tn_aV (tn_n s) a b c d
    · have K := tn_aK_rg b c d
      have hW := tn_aW_in V
      have gj : ∀ j : Int, 0 ≤ j → j < 4 → tm_up (tm_up (tm_up (tm_up g (Int.toNat 0) a) (Int.toNat 1) b) (Int.toNat 2) c) (Int.toNat 3) d j.toNat = tn_aW a b c d j := by
        intro j j0 j1
        have : j = 0 ∨ j = 1 ∨ j = 2 ∨ j = 3 := by omega
        rcases this with k | k | k | k <;> subst k <;> rfl
      have lk := tx5_hasLike H4.2.1.1 H4.2.1.2.2.1 ok.w p4 (l := tn_aK b c d) K.2 (fun j j0 j1 => by rw [gj j j0 (by omega)]; exact hW j j0 j1)
      have lk2 : (∃ u : Int, 0 ≤ u ∧ u < tn_nT s ∧ tn_tl s u = tn_aK b c d ∧ ∀ k : Int, 0 ≤ k → k < tn_aK b c d → tn_bs s (tn_tw s u k) = tn_bs s (tm_up (tm_up (tm_up (tm_up g (Int.toNat 0) a) (Int.toNat 1) b) (Int.toNat 2) c) (Int.toNat 3) d k.toNat)) ↔ tn_lik s (tn_aK b c d) (tn_aW a b c d) := by
        unfold tn_lik
        exact ⟨fun ⟨u, u0, u1, u2, u3⟩ => ⟨u, u0, u1, u2, fun j j0 j1 => by rw [← gj j j0 (by omega)]; exact u3 j j0 j1⟩, fun ⟨u, u0, u1, u2, u3⟩ => ⟨u, u0, u1, u2, fun j j0 j1 => by rw [gj j j0 (by omega)]; exact u3 j j0 j1⟩⟩
      rw [if_pos V, if_pos V, if_pos (by omega)]
      rw [H4.gr.1, Option.bind_some, H4.g4.2.2, Option.bind_some, Option.bind_some, H4.g4.1, Option.bind_some, H4.gr.2.2.2.2.2, Option.bind_some, lk, Option.bind_some, tn_bc lk2]
      by_cases k : tn_lik s (tn_aK b c d) (tn_aW a b c d)
      · rw [tn_b1 k, if_neg (by omega), if_pos k]
      · rw [tn_b0 k, if_pos rfl, if_neg k]
    · rw [if_neg V, if_neg V, if_neg (by omega)]
  · have : j = 0 ∨ j = 1 ∨ j = 2 ∨ j = 3 := by omega
    rcases this with k | k | k | k <;> subst k <;> rfl
/-- an answer that is no error is a number of words -/
theorem sp_ask_ok {a b c d : Int} (h : ¬ sp_ask s a b c d < 0) : tn_aV (tn_n s) a b c d ∧ sp_ask s a b c d = tn_aK b c d ∧ ¬ tn_lik s (tn_aK b c d) (tn_aW a b c d) := by
  unfold sp_ask at *
  by_cases V : tn_aV (tn_n s) a b c d
  · rw [if_pos V] at *
    by_cases k : tn_lik s (tn_aK b c d) (tn_aW a b c d)
    · rw [if_pos k] at h; exact absurd (by omega) h
    · rw [if_neg k] at *
      exact ⟨V, rfl, k⟩
  · rw [if_neg V] at h; exact absurd (by omega) h
theorem tn_ok.asked (ok : tn_ok s) {a b c d : Int} (hn : tn_nT s < 13) (h : ¬ sp_ask s a b c d < 0) : tn_ok (tn_addT s (sp_ask s a b c d) (tn_aW a b c d)) := by
  obtain ⟨V, e, _⟩ := sp_ask_ok h
  rw [e]
  exact ok.addT (tn_aK_rg b c d) hn (tn_aW_in V)
theorem tx8_addQ {p : Nat} {g : Nat → Int} {a b c d : Int} (Q : tn_Q h p s) (e : h (o + 440) = some (.inr (0, 4, .inl g))) (hg : ∀ j : Int, 0 ≤ j → j < 4 → g j.toNat = tn_aW a b c d j) (hp : p + 50 ≤ o + 440 ∨ o + 441 ≤ p) (hn : tn_nT s < 13) (ha : ¬ sp_ask s a b c d < 0) : ∃ h', fX5_add (p + 13) (o + 440) (sp_ask s a b c d) h = some h' ∧ tn_Q h' p (tn_addT s (sp_ask s a b c d) (tn_aW a b c d)) ∧ tn_fr (p + 13) (p + 13 + 17) h h' := by
  obtain ⟨V, ea, _⟩ := sp_ask_ok ha
  have K := tn_aK_rg b c d
  obtain ⟨h1, e1, T1, f1⟩ := tx5_add Q.2.2.1 (b := o + 440) (l := sp_ask s a b c d) (by omega) e (by omega) hn
  refine ⟨h1, e1, Q.setT (T1.ext (fun t t0 t1 => ⟨rfl, rfl, fun k k0 k1 => ?_⟩)) f1, f1⟩
  by_cases c : t = tn_nT s
  · simp only [if_pos c] at k1 ⊢
    exact (hg k k0 (by omega)).symm
  · simp only [if_neg c]
theorem tx8_addTerm (H : tn_I h o s l x z st) (ok : tn_ok s) (a b c d : Int) : ∃ h', fX8_addTerm o a b c d h = some ((sp_add s a b c d).1, h') ∧ tn_J h' o l x z st s (sp_add s a b c d).2 ∧ tn_fr o (o + 441) h h' := by
  obtain ⟨h1, g, e1, H1, p1, hg, f1⟩ := tx8_ask H ok a b c d
  simp only [fX8_addTerm, tn_th H.1, e1, Option.bind_some, H1.gr.1, H1.g4.2.2, tx5_size H1.2.1.2.2.1, H1.gr.2.2.1]
  unfold sp_add
  by_cases c1 : sp_ask s a b c d < 0
  · rw [if_pos c1, if_pos c1]
    exact ⟨h1, rfl, H1, f1⟩
  · rw [if_neg c1, if_neg c1]
    by_cases c2 : tn_nT s < 12
    · obtain ⟨h2, e2, H2, f2⟩ := tx8_keep H1
      obtain ⟨h2', e2', Y2', f2'⟩ := tx1_keep H1.2.2.2.1 H1.2.1 (by omega)
      have hh : h2' = h2 := by rw [e2] at e2'; exact (Option.some.inj e2').symm
      rw [hh] at f2'
      obtain ⟨h3, e3, Q3, f3⟩ := tx8_addQ H2.2.1 ((f2' _ (by omega)).trans p1) hg (by omega) (by omega) c1
      have H3 := H2.setS Q3 (f3.wide (by omega) (by omega))
      have hn := H2.2.1.2.2.1.rg
      rw [if_pos c2, if_pos c2, e2, Option.bind_some, H2.gr.1, Option.bind_some, H2.g4.2.2, Option.bind_some, H2.gr.2.2.2.2.2, Option.bind_some, e3, Option.bind_some, H3.gr.1, Option.bind_some, H3.g4.2.2, Option.bind_some, tx5_size H3.2.1.2.2.1, Option.bind_some]
      refine ⟨h3, ?_, H3, (f1.tr f2).tr (f3.wide (by omega) (by omega))⟩
      show some (tm_wr (tn_nT s + 1 - 1), h3) = some (tn_nT s, h3)
      rw [tm_wr_id (by omega) (by omega), Int.add_sub_cancel]
    · rw [if_neg c2, if_neg c2]
      exact ⟨h1, rfl, H1, f1⟩
/-- the trial state is read -/
theorem tx8_try {s' : tn_St} {p : Nat} (H : tn_I h o s l x z st) (hp : p = o + 51) (Q : tn_Q h p s') (ok : tn_ok s') : ∃ h', fX3_read (o + 407) p h = some h' ∧ tn_I h' o s l x z st ∧ tn_Rp h' (o + 407) s' 6 0 0 ∧ tn_fr o (o + 441) h h' := by
  obtain ⟨A, B, Fi, T, mC, mP, mT, mc, rc, h6⟩ := H.2.2.2.2.2.1
  obtain ⟨h', e, R, f⟩ := tx3_read h6 Q ok (by omega)
  exact ⟨h', e, H.setR R f, R, f.wide (by omega) (by omega)⟩
theorem tx8_gain (H : tn_I h o s l x z st) (ok : tn_ok s) (hn : tn_nT s ≤ 12) (a b c d : Int) : ∃ h', fX8_gain o a b c d h = some (sp_gain s a b c d, h') ∧ tn_I h' o s l x z st ∧ tn_fr o (o + 441) h h' := by
  obtain ⟨h1, g, e1, H1, p1, hg, f1⟩ := tx8_ask H ok a b c d
  simp only [fX8_gain, tn_th H.1, e1, Option.bind_some]
  unfold sp_gain
  by_cases c1 : sp_ask s a b c d < 0
  · rw [if_pos c1, if_pos c1]
    exact ⟨h1, rfl, H1, f1⟩
  · obtain ⟨A, B, Fi, T, mC, mP, mT, mc, rc, h6⟩ := H1.2.2.2.2.2.1
    obtain ⟨h2, e2, R2, f2⟩ := tx3_read h6 H1.2.1 ok (by omega)
    have H2 := H1.setR R2 f2
    have rn : fX8_readNow o h1 = some (o + 407, h2) := by
      simp only [fX8_readNow, tn_th H1.1, H1.gr.1, H1.gr.2.2.2.2.1, Option.bind_some, e2, H2.gr.2.2.2.2.1]
    obtain ⟨s3, Q3⟩ := H2.2.2.1
    obtain ⟨h3, e3, Q3', f3⟩ := tx4_copyFrom Q3 H2.2.1 (by omega)
    have H3 := H2.setT Q3' f3
    obtain ⟨h4, e4, Q4, f4⟩ := tx8_addQ (o := o) Q3' (by rw [f3 _ (by omega), f2 _ (by omega)]; exact p1) hg (by omega) (by omega) c1
    have H4 := H3.setT Q4 (f4.wide (by omega) (by omega))
    have ok4 := ok.asked (a := a) (b := b) (c := c) (d := d) (by omega) c1
    obtain ⟨h5, e5, H5, R5, f5⟩ := tx8_try H4 rfl Q4 ok4
    have m1 := tn_M_rg ok
    have m2 := tn_M_rg ok4
    rw [if_neg c1, if_neg c1, rn, Option.bind_some]
    dsimp only
    rw [tx3_markCount R2, Option.bind_some, H2.gr.2.1, Option.bind_some, H2.gr.1, Option.bind_some, e3, Option.bind_some, H3.gr.2.1, Option.bind_some, (tx4_g Q3').2.2.1, Option.bind_some, H3.gr.2.2.2.2.2, Option.bind_some, e4, Option.bind_some, H4.gr.2.2.2.2.1, Option.bind_some, H4.gr.2.1, Option.bind_some, e5, Option.bind_some, H5.gr.2.2.2.2.1, Option.bind_some, tx3_markCount R5, Option.bind_some]
    refine ⟨h5, ?_, H5, (f1.tr (f2.wide (by omega) (by omega))).tr (((f3.wide (by omega) (by omega)).tr (f4.wide (by omega) (by omega))).tr f5)⟩
    change some (tm_wr (tm_wr (100 + tn_M (tn_addT s (sp_ask s a b c d) (tn_aW a b c d))) - tn_M s), h5) = _
    rw [tm_wr_id (z := 100 + tn_M (tn_addT s (sp_ask s a b c d) (tn_aW a b c d))) (by omega) (by omega), tm_wr_id (by omega) (by omega)]
theorem tx8_greedy_l (ok : tn_ok s) : ∀ (m : Nat) (k : Int) (h : tm_H), tn_I h o s l x z st → 0 ≤ k → k ≤ tn_nT s → (tn_nT s - k).toNat = m → ∃ h', fX8_greediest_L7 o (tn_gr s k.toNat).1 (tn_gr s k.toNat).2 k h = some ((tn_gr s (tn_nT s).toNat).1, h') ∧ tn_I h' o s l x z st ∧ tn_fr o (o + 441) h h' := by
  intro m
  induction m with
  | zero =>
    intro k h H k0 k1 hm
    rw [fX8_greediest_L7_eq, H.gr.1, Option.bind_some, H.g4.2.2, Option.bind_some, tx5_size H.2.1.2.2.1, Option.bind_some, if_neg (by omega), show k = tn_nT s by omega]
    exact ⟨h, rfl, H, tn_fr.rf⟩
  | succ m ih =>
    intro k h H k0 k1 hm
    have hn := H.2.1.2.2.1.rg
    obtain ⟨s1, Q1⟩ := H.2.2.1
    obtain ⟨h1, e1, Q1', f1⟩ := tx4_copyFrom Q1 H.2.1 (by omega)
    have H1 := H.setT Q1' f1
    obtain ⟨h2, e2, T2, f2⟩ := tx5_drop Q1'.2.2.1 (d := k) (by omega)
    have Q2 : tn_Q h2 (o + 51) (tn_drp s k) := Q1'.setT T2 f2
    have H2 := H1.setT Q2 (f2.wide (by omega) (by omega))
    obtain ⟨h3, e3, H3, R3, f3⟩ := tx8_try H2 rfl Q2 (ok.drp (d := k) (by omega))
    have su : tn_gr s (k + 1).toNat = if (tn_gr s k.toNat).2 < tn_M (tn_drp s k) then (k, tn_M (tn_drp s k)) else tn_gr s k.toNat := by
      rw [show (k + 1).toNat = k.toNat + 1 by omega]
      simp only [tn_gr]
      rw [Int.toNat_of_nonneg k0]
    obtain ⟨h4, e4, H4, f4⟩ := ih (k + 1) h3 H3 (by omega) (by omega) (by omega)
    refine ⟨h4, ?_, H4, (((f1.wide (by omega) (by omega)).tr (f2.wide (by omega) (by omega))).tr f3).tr f4⟩
    rw [fX8_greediest_L7_eq, H.gr.1, Option.bind_some, H.g4.2.2, Option.bind_some, tx5_size H.2.1.2.2.1, Option.bind_some, if_pos (by omega), H.gr.2.1, Option.bind_some, Option.bind_some, e1, Option.bind_some, H1.gr.2.1, Option.bind_some, (tx4_g Q1').2.2.1, Option.bind_some, e2, Option.bind_some, H2.gr.2.2.2.2.1, Option.bind_some, H2.gr.2.1, Option.bind_some, e3, Option.bind_some, H3.gr.2.2.2.2.1, Option.bind_some, tx3_markCount R3, Option.bind_some, Option.bind_some, tx3_markCount R3, Option.bind_some, fX8_greediest_L75_eq, fX8_greediest_L75_eq, tm_wr_id (by omega) (by omega)]
    rw [su] at e4
    change (if (tn_gr s k.toNat).2 < tn_M (tn_drp s k) then fX8_greediest_L7 o k (tn_M (tn_drp s k)) (k + 1) h3 else fX8_greediest_L7 o (tn_gr s k.toNat).1 (tn_gr s k.toNat).2 (k + 1) h3) = _
    by_cases c : (tn_gr s k.toNat).2 < tn_M (tn_drp s k)
    · rw [if_pos c]
      rw [if_pos c] at e4
      exact e4
    · rw [if_neg c]
      rw [if_neg c] at e4
      exact e4
theorem tx8_greediest (H : tn_I h o s l x z st) (ok : tn_ok s) : ∃ h', fX8_greediest o h = some ((tn_gr s (tn_nT s).toNat).1, h') ∧ tn_I h' o s l x z st ∧ tn_fr o (o + 441) h h' := by
  obtain ⟨h1, e1, H1, f1⟩ := tx8_greedy_l ok _ 0 h H (by omega) H.2.1.2.2.1.rg.1 rfl
  refine ⟨h1, ?_, H1, f1⟩
  simp only [fX8_greediest, tn_th H.1]
  exact e1
theorem tx8_init {v0 v1 v2 v3 v4 v5 : tm_Fv} (e : h o = some (.inl (8, [v0, v1, v2, v3, v4, v5]))) : ∃ h', fX8_init o h (o + 1) = some (h', o + 441) ∧ tn_I h' o tn_s0 0 (fun _ => 0) 0 (fun _ => tn_s0) ∧ tn_fr o (o + 441) h h' := by
  obtain ⟨h1, e1, p1, o1⟩ := tn_NW h (o + 1) (.inl (4, [.inr none, .inr none, .inr none, .inr none, .inr none]))
  obtain ⟨h2, e2, Q2, f2⟩ := tx4_init p1
  obtain ⟨h3, e3, p3, o3⟩ := tn_SF (k := 0) ((f2 o (by omega)).trans ((o1 o (by omega)).trans e)) (.inr (some (o + 1))) (by simp)
  obtain ⟨h4, e4, p4, o4⟩ := tn_NW h3 (o + 51) (.inl (4, [.inr none, .inr none, .inr none, .inr none, .inr none]))
  obtain ⟨h5, e5, Q5, f5⟩ := tx4_init p4
  obtain ⟨h6, e6, p6, o6⟩ := tn_SF (k := 1) ((f5 o (by omega)).trans ((o4 o (by omega)).trans p3)) (.inr (some (o + 51))) (by simp)
  obtain ⟨h7, e7, p7, o7⟩ := tn_NW h6 (o + 101) (.inl (1, [.inr none, .inl 0]))
  obtain ⟨h8, e8, Y8, f8⟩ := tx1_init p7
  obtain ⟨h9, e9, p9, o9⟩ := tn_SF (k := 2) ((f8 o (by omega)).trans ((o7 o (by omega)).trans p6)) (.inr (some (o + 101))) (by simp)
  obtain ⟨h10, e10, p10, o10⟩ := tn_NW h9 (o + 353) (.inl (2, [.inr none, .inr none, .inr none, .inl 0, .inl 0]))
  obtain ⟨h11, e11, D11, f11⟩ := tx2_init p10
  obtain ⟨h12, e12, p12, o12⟩ := tn_SF (k := 3) ((f11 o (by omega)).trans ((o10 o (by omega)).trans p9)) (.inr (some (o + 353))) (by simp)
  obtain ⟨h13, e13, p13, o13⟩ := tn_NW h12 (o + 407) (.inl (3, [.inr none, .inr none, .inr none, .inr none, .inr none, .inr none, .inr none, .inl 0, .inl 0]))
  obtain ⟨h14, e14, R14, f14⟩ := tx3_init p13
  obtain ⟨h15, e15, p15, o15⟩ := tn_SF (k := 4) ((f14 o (by omega)).trans ((o13 o (by omega)).trans p12)) (.inr (some (o + 407))) (by simp)
  obtain ⟨h16, e16, p16, o16⟩ := tn_NW h15 (o + 440) (.inr (0, 4, .inl (fun _ => 0)))
  obtain ⟨h17, e17, p17, o17⟩ := tn_SF (k := 5) ((o16 o (by omega)).trans p15) (.inr (some (o + 440))) (by simp)
  refine ⟨h17, ?_, ⟨p17, Q2.cg (fun q q0 q1 => ?_), ⟨_, Q5.cg (fun q q0 q1 => ?_)⟩, Y8.cg (fun q q0 q1 => ?_), ⟨_, _, _, _, D11.cg (fun q q0 q1 => ?_)⟩, ⟨_, _, _, _, _, _, _, _, _, R14.cg (fun q q0 q1 => ?_)⟩, ⟨_, (o17 _ (by omega)).trans p16⟩⟩, fun q hq => ?_⟩
  · simp only [fX8_init, tn_th e, e1, Option.bind_some, e2, e3, e4, e5, e6, e7, e8, e9, e10, e11, e12, e13, e14, e15, e16, e17]
  · rw [o17 q (by omega), o16 q (by omega), o15 q (by omega), f14 q (by omega), o13 q (by omega), o12 q (by omega), f11 q (by omega), o10 q (by omega), o9 q (by omega), f8 q (by omega), o7 q (by omega), o6 q (by omega), f5 q (by omega), o4 q (by omega), o3 q (by omega)]
  · rw [o17 q (by omega), o16 q (by omega), o15 q (by omega), f14 q (by omega), o13 q (by omega), o12 q (by omega), f11 q (by omega), o10 q (by omega), o9 q (by omega), f8 q (by omega), o7 q (by omega), o6 q (by omega)]
  · rw [o17 q (by omega), o16 q (by omega), o15 q (by omega), f14 q (by omega), o13 q (by omega), o12 q (by omega), f11 q (by omega), o10 q (by omega), o9 q (by omega)]
  · rw [o17 q (by omega), o16 q (by omega), o15 q (by omega), f14 q (by omega), o13 q (by omega), o12 q (by omega)]
  · rw [o17 q (by omega), o16 q (by omega), o15 q (by omega)]
  · rw [o17 q (by omega), o16 q (by omega), o15 q (by omega), f14 q (by omega), o13 q (by omega), o12 q (by omega), f11 q (by omega), o10 q (by omega), o9 q (by omega), f8 q (by omega), o7 q (by omega), o6 q (by omega), f5 q (by omega), o4 q (by omega), o3 q (by omega), f2 q (by omega), o1 q (by omega)]
end TOR
