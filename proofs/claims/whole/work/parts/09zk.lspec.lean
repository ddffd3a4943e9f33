/-! what loading is: l the text's length, x its characters -/
abbrev tn_isl (v : Int) : Prop := 97 ≤ v ∧ v ≤ 122
/-- the character at a place, 0 behind the last -/
def tn_ch (l : Int) (x : Int → Int) (i : Int) : Int := if 0 ≤ i ∧ i < l then x i else 0
def tn_t1 (l : Int) (x : Int → Int) : Nat → Int → Int
  | 0, e => e
  | m + 1, e => if e < l ∧ x e = 32 then tn_t1 l x m (e + 1) else e
def tn_t2 (l : Int) (x : Int → Int) : Nat → Int → Int
  | 0, e => e
  | m + 1, e => if e < l ∧ tn_isl (x e) then tn_t2 l x m (e + 1) else e
/-- where the next token begins, where it ends -/
def tn_ts (l : Int) (x : Int → Int) (e : Int) : Int := tn_t1 l x (l - e).toNat e
def tn_tl2 (l : Int) (x : Int → Int) (s : Int) : Int := tn_t2 l x (l - s).toNat s
def tn_te (l : Int) (x : Int → Int) (s : Int) : Int := if tn_tl2 l x s = s ∧ s < l then s + 1 else tn_tl2 l x s
section LSP
variable {l : Int} {x : Int → Int}
theorem tn_ts_eq (e : Int) : tn_ts l x e = if e < l ∧ x e = 32 then tn_ts l x (e + 1) else e := by
  unfold tn_ts
  by_cases c : e < l
  · obtain ⟨m, hm⟩ : ∃ m, (l - e).toNat = m + 1 := ⟨(l - e).toNat - 1, by omega⟩
    rw [hm, show (l - (e + 1)).toNat = m by omega]
    rfl
  · rw [show (l - e).toNat = 0 by omega, if_neg (fun k => c k.1)]
    rfl
theorem tn_tl2_eq (e : Int) : tn_tl2 l x e = if e < l ∧ tn_isl (x e) then tn_tl2 l x (e + 1) else e := by
  unfold tn_tl2
  by_cases c : e < l
  · obtain ⟨m, hm⟩ : ∃ m, (l - e).toNat = m + 1 := ⟨(l - e).toNat - 1, by omega⟩
    rw [hm, show (l - (e + 1)).toNat = m by omega]
    rfl
  · rw [show (l - e).toNat = 0 by omega, if_neg (fun k => c k.1)]
    rfl
theorem tn_t1_rg : ∀ (m : Nat) (e : Int), e ≤ l → e ≤ tn_t1 l x m e ∧ tn_t1 l x m e ≤ l
  | 0, e, h => ⟨Int.le_refl _, h⟩
  | m + 1, e, h => by
    simp only [tn_t1]
    split
    · rename_i c
      have := tn_t1_rg m (e + 1) (by omega)
      omega
    · exact ⟨Int.le_refl _, h⟩
theorem tn_t2_rg : ∀ (m : Nat) (e : Int), e ≤ l → e ≤ tn_t2 l x m e ∧ tn_t2 l x m e ≤ l
  | 0, e, h => ⟨Int.le_refl _, h⟩
  | m + 1, e, h => by
    simp only [tn_t2]
    split
    · rename_i c
      have := tn_t2_rg m (e + 1) (by omega)
      omega
    · exact ⟨Int.le_refl _, h⟩
theorem tn_ts_rg {e : Int} (h : e ≤ l) : e ≤ tn_ts l x e ∧ tn_ts l x e ≤ l := tn_t1_rg _ _ h
theorem tn_tl2_rg {e : Int} (h : e ≤ l) : e ≤ tn_tl2 l x e ∧ tn_tl2 l x e ≤ l := tn_t2_rg _ _ h
theorem tn_te_rg {e : Int} (h : e ≤ l) : e ≤ tn_te l x e ∧ tn_te l x e ≤ l ∧ (e < l → e < tn_te l x e) := by
  have q := tn_tl2_rg (l := l) (x := x) h
  unfold tn_te
  split
  · omega
  · omega
/-- a token that begins with a letter is all letters -/
theorem tn_t2_le : ∀ (m : Nat) (e : Int), ∀ i, e ≤ i → i < tn_t2 l x m e → tn_isl (x i) ∧ i < l
  | 0, e, i, h1, h2 => by simp only [tn_t2] at h2; omega
  | m + 1, e, i, h1, h2 => by
    simp only [tn_t2] at h2
    split at h2
    · rename_i c
      by_cases k : i = e
      · rw [k]; exact ⟨c.2, c.1⟩
      · exact tn_t2_le m (e + 1) i (by omega) h2
    · omega
theorem tn_te_run {s : Int} (h : s < l) (c : tn_isl (x s)) : tn_te l x s = tn_tl2 l x s ∧ ∀ i, s ≤ i → i < tn_te l x s → tn_isl (x i) ∧ i < l := by
  have q : tn_tl2 l x s = tn_tl2 l x (s + 1) := by rw [tn_tl2_eq, if_pos ⟨h, c⟩]
  have r := tn_tl2_rg (l := l) (x := x) (e := s + 1) (by omega)
  have e : tn_te l x s = tn_tl2 l x s := by
    unfold tn_te
    rw [if_neg (by omega)]
  refine ⟨e, fun i i0 i1 => ?_⟩
  rw [e] at i1
  exact tn_t2_le _ _ i i0 i1
theorem tn_te_one {s : Int} (h : s < l) (c : ¬ tn_isl (x s)) : tn_te l x s = s + 1 := by
  have q : tn_tl2 l x s = s := by rw [tn_tl2_eq, if_neg (fun k => c k.2)]
  unfold tn_te
  rw [if_pos ⟨q, h⟩]
theorem tn_te_end : tn_te l x l = l := by
  have q : tn_tl2 l x l = l := by rw [tn_tl2_eq, if_neg (by omega)]
  unfold tn_te
  rw [q, if_neg (by omega)]
end LSP
/-- the spelling of m characters from st on -/
def tn_spl (x : Int → Int) (st : Int) : Nat → Int64
  | 0 => 0
  | m + 1 => tn_spl x st m ||| (tm_lshl (tm_i2l (x (st + m))) (tm_wr ((m : Int) * 8)))
noncomputable def tn_fd (s : tn_St) (S : Int64) : Int := Classical.epsilon (fun r => tn_ff (tn_n s) (fun w => tn_sp s w = S) r)
theorem tn_fd_eq {s : tn_St} {S : Int64} {r : Int} (H : tn_ff (tn_n s) (fun w => tn_sp s w = S) r) : tn_fd s S = r := (Classical.epsilon_spec (p := fun r => tn_ff (tn_n s) (fun w => tn_sp s w = S) r) ⟨r, H⟩).uq H (fun _ _ _ => Iff.rfl)
/-- a word comes -/
def tn_ad (s : tn_St) (S : Int64) : tn_St := ((tn_n s + 1, ((fun w => if w = tn_n s then tn_n s else tn_bs s w), (fun w => if w = tn_n s then S else tn_sp s w))), s.2)
noncomputable def tn_wn (s : tn_St) (S : Int64) : Int := if tn_fd s S ≠ -99 then tn_fd s S else if tn_n s < 60 then tn_n s else -99
noncomputable def tn_ws (s : tn_St) (S : Int64) : tn_St := if tn_fd s S ≠ -99 then s else if tn_n s < 60 then tn_ad s S else s
/-- a run is read as a word, -99 if it can't be one -/
noncomputable def tn_rw (l : Int) (x : Int → Int) (s : tn_St) (st en : Int) : Int := if tn_isl (tn_ch l x st) ∧ en - st ≤ 8 then tn_wn s (tn_spl x st (en - st).toNat) else -99
noncomputable def tn_rs (x : Int → Int) (s : tn_St) (st en : Int) : tn_St := tn_ws s (tn_spl x st (en - st).toNat)
abbrev tn_Ret : Type := Int ⊕ (tn_St × (Int × Int))
abbrev tn_Rew : Type := Int ⊕ (tn_St × (Int × (Int × ((Int → Int) × Int))))
/-- words up to another token, k at most; what is told: where it stops, or the state, the token, the words and their number -/
noncomputable def tn_tk2 (l : Int) (x : Int → Int) : Nat → tn_St → Int → Int → (Int → Int) → Int → tn_Rew
  | 0, s, st, en, W, i => if tn_isl (tn_ch l x st) then .inl st else .inr (s, (st, (en, (W, i))))
  | k + 1, s, st, en, W, i => if tn_isl (tn_ch l x st) then (if tn_rw l x s st en = -99 then .inl st else tn_tk2 l x k (tn_rs x s st en) (tn_ts l x en) (tn_te l x (tn_ts l x en)) (fun j => if j = i then tn_rw l x s st en else W j) (i + 1)) else .inr (s, (st, (en, (W, i))))
noncomputable def tn_tok (l : Int) (x : Int → Int) (s : tn_St) (e : Int) : tn_Ret := .inr (s, (tn_ts l x e, tn_te l x (tn_ts l x e)))
def tn_setC (s : tn_St) (c k : Int) (W : Int → Int) : tn_St := (s.1, (((fun d => if d = c then k else tn_sz s d), (fun d i => if d = c then W i else tn_wd s d i)), s.2.2))
noncomputable def tn_iC2 (l : Int) (x : Int → Int) (c : Int) : tn_Rew → tn_Ret
  | .inl f => .inl f
  | .inr (s, (st, (en, (W, k)))) => if tn_ch l x st = 59 then tn_tok l x (tn_setC s c k W) en else .inl st
noncomputable def tn_iC (l : Int) (x : Int → Int) (s : tn_St) (en : Int) : tn_Ret :=
  if ¬ (0 ≤ tn_ch l x (tn_ts l x en) - 48 ∧ tn_ch l x (tn_ts l x en) - 48 < 6) then .inl (tn_ts l x en)
  else if tn_ch l x (tn_ts l x (tn_te l x (tn_ts l x en))) ≠ 58 then .inl (tn_ts l x (tn_te l x (tn_ts l x en)))
  else tn_iC2 l x (tn_ch l x (tn_ts l x en) - 48) (tn_tk2 l x 40 s (tn_ts l x (tn_te l x (tn_ts l x (tn_te l x (tn_ts l x en))))) (tn_te l x (tn_ts l x (tn_te l x (tn_ts l x (tn_te l x (tn_ts l x en)))))) (fun _ => 0) 0)
/-- a term is like one that is there -/
def tn_lik (s : tn_St) (k : Int) (W : Int → Int) : Prop := ∃ u : Int, 0 ≤ u ∧ u < tn_nT s ∧ tn_tl s u = k ∧ ∀ j : Int, 0 ≤ j → j < k → tn_bs s (tn_tw s u j) = tn_bs s (W j)
def tn_addT (s : tn_St) (k : Int) (W : Int → Int) : tn_St := (s.1, (s.2.1, ((tn_nT s + 1, ((fun t => if t = tn_nT s then k else tn_tl s t), ((fun t j => if t = tn_nT s then W j else tn_tw s t j), (fun t => if t = tn_nT s then 0 else tn_tq s t)))), s.2.2.2)))
noncomputable def tn_iT2 (l : Int) (x : Int → Int) : tn_Rew → tn_Ret
  | .inl f => .inl f
  | .inr (s, (st, (en, (W, k)))) => @ite _ (k = 0 ∨ tn_ch l x st ≠ 59 ∨ 12 ≤ tn_nT s ∨ tn_lik s k W) (Classical.propDecidable _) (.inl st) (tn_tok l x (tn_addT s k W) en)
noncomputable def tn_iT (l : Int) (x : Int → Int) (s : tn_St) (en : Int) : tn_Ret := tn_iT2 l x (tn_tk2 l x 4 s (tn_ts l x en) (tn_te l x (tn_ts l x en)) (fun _ => 0) 0)
def tn_setB (s : tn_St) (w b : Int) : tn_St := ((tn_n s, ((fun v => if v = w then b else tn_bs s v), tn_sp s)), s.2)
/-- the second word of a form item, its token from st to en; w is the first -/
noncomputable def tn_iF2 (l : Int) (x : Int → Int) (s : tn_St) (w st en : Int) : tn_Ret :=
  if tn_rw l x s st en = -99 then .inl st
  else if tn_ch l x (tn_ts l x en) ≠ 59 then .inl (tn_ts l x en)
  else @ite _ (tn_may (tn_rs x s st en) w (tn_bs (tn_rs x s st en) (tn_rw l x s st en))) (Classical.propDecidable _) (tn_tok l x (tn_setB (tn_rs x s st en) w (tn_bs (tn_rs x s st en) (tn_rw l x s st en))) (tn_te l x (tn_ts l x en))) (.inl (tn_ts l x en))
noncomputable def tn_iF1 (l : Int) (x : Int → Int) (s : tn_St) (st en : Int) : tn_Ret :=
  if tn_rw l x s st en = -99 then .inl st
  else if tn_ch l x (tn_ts l x en) ≠ 61 then .inl (tn_ts l x en)
  else tn_iF2 l x (tn_rs x s st en) (tn_rw l x s st en) (tn_ts l x (tn_te l x (tn_ts l x en))) (tn_te l x (tn_ts l x (tn_te l x (tn_ts l x en))))
noncomputable def tn_iF (l : Int) (x : Int → Int) (s : tn_St) (en : Int) : tn_Ret := tn_iF1 l x s (tn_ts l x en) (tn_te l x (tn_ts l x en))
/-- the token is a word of n letters -/
def tn_nm (l : Int) (x : Int → Int) (st en n : Int) (f : Int → Int) : Prop := en - st = n ∧ ∀ i : Int, 0 ≤ i → i < n → tn_ch l x (st + i) = f i
def tn_c0 (i : Int) : Int := if i = 0 then 99 else 104
def tn_c1 (i : Int) : Int := if i = 0 then 116 else if i = 1 then 101 else if i = 2 then 114 else 109
def tn_c2 (i : Int) : Int := if i = 0 then 102 else if i = 1 then 111 else if i = 2 then 114 else 109
noncomputable def tn_it (l : Int) (x : Int → Int) (s : tn_St) (st en : Int) : tn_Ret :=
  @ite _ (tn_nm l x st en 2 tn_c0) (Classical.propDecidable _) (tn_iC l x s en) (@ite _ (tn_nm l x st en 4 tn_c1) (Classical.propDecidable _) (tn_iT l x s en) (@ite _ (tn_nm l x st en 4 tn_c2) (Classical.propDecidable _) (tn_iF l x s en) (.inl st)))
/-- all items, one after another -/
noncomputable def tn_ld (l : Int) (x : Int → Int) : Nat → tn_St → Int → Int → Int → Int ⊕ (Int × tn_St)
  | 0, _, st, _, _ => .inl st
  | m + 1, s, st, en, i => if st < l then (match tn_it l x s st en with
    | .inl f => .inl f
    | .inr (s', (st', en')) => tn_ld l x m s' st' en' (i + 1)) else .inr (i, s)
