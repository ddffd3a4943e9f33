/-! THE PURE MODEL: integers with wrap-around, a heap as a function from addresses, loops -/
def tm_wr (z : Int) : Int := (z + 2147483648) % 4294967296 - 2147483648
def tm_rg (z : Int) : Prop := -2147483648 ≤ z ∧ z < 2147483648
theorem tm_wr_rg (z : Int) : tm_rg (tm_wr z) := by unfold tm_rg tm_wr; omega
theorem tm_wr_id {z : Int} (h1 : -2147483648 ≤ z) (h2 : z < 2147483648) : tm_wr z = z := by unfold tm_wr; omega
abbrev tm_Fv : Type := Int ⊕ Option Nat
abbrev tm_Ar : Type := (Nat → Int) ⊕ ((Nat → Int64) ⊕ (Nat → Option Nat))
abbrev tm_Ob : Type := (Nat × List tm_Fv) ⊕ (Nat × (Nat × tm_Ar))
abbrev tm_H : Type := Nat → Option tm_Ob
def tm_up {α : Type} (f : Nat → α) (k : Nat) (v : α) : Nat → α := fun j => if j = k then v else f j
theorem tm_up_self {α : Type} (f : Nat → α) (k : Nat) (v : α) : tm_up f k v k = v := if_pos rfl
theorem tm_up_ne {α : Type} {f : Nat → α} {k j : Nat} {v : α} (h : j ≠ k) : tm_up f k v j = f j := if_neg h
theorem tm_up_app {α : Type} (f : Nat → α) (k : Nat) (v : α) (j : Nat) : tm_up f k v j = if j = k then v else f j := rfl
/-- an object of class c stands at a -/
def tm_is (h : tm_H) (c a : Nat) : Prop := ∃ fs : List tm_Fv, h a = some (.inl (c, fs))
/-- k, where an object of class c stands at a -/
def tm_th {α : Type} (h : tm_H) (c a : Nat) (k : Option α) : Option α := match h a with
  | some (.inl (c', _)) => if c' = c then k else none
  | _ => none
theorem tm_th_is {α : Type} {h : tm_H} {c a : Nat} {k : Option α} {x : α} (e : tm_th h c a k = some x) : tm_is h c a ∧ k = some x := by
  unfold tm_th at e
  split at e
  · rename_i c' fs heq
    split at e
    · rename_i hc
      subst hc
      exact ⟨⟨fs, heq⟩, e⟩
    · cases e
  · cases e
theorem tm_th_of {α : Type} {h : tm_H} {c a : Nat} {k : Option α} (e : tm_is h c a) : tm_th h c a k = k := by
  obtain ⟨fs, e⟩ := e
  simp [tm_th, e]
/-- fields -/
def tm_gI (h : tm_H) (c k a : Nat) : Option Int := match h a with
  | some (.inl (c', fs)) => if c' = c then (match fs[k]? with
    | some (.inl v) => some v
    | _ => none) else none
  | _ => none
def tm_gR (h : tm_H) (c k a : Nat) : Option Nat := match h a with
  | some (.inl (c', fs)) => if c' = c then (match fs[k]? with
    | some (.inr (some v)) => some v
    | _ => none) else none
  | _ => none
def tm_sF (h : tm_H) (c k a : Nat) (v : tm_Fv) : Option tm_H := match h a with
  | some (.inl (c', fs)) => if c' = c ∧ k < fs.length then some (tm_up h a (some (.inl (c, fs.set k v)))) else none
  | _ => none
/-- arrays: of ints (t = 0), of booleans (t = 2), of longs (t = 1), of references -/
def tm_len (h : tm_H) (t a : Nat) : Option Int := match h a with
  | some (.inr (t', n, _)) => if t' = t then some (n : Int) else none
  | _ => none
def tm_lI (h : tm_H) (t a : Nat) (i : Int) : Option Int := match h a with
  | some (.inr (t', n, .inl f)) => if t' = t ∧ 0 ≤ i ∧ i < n then some (f i.toNat) else none
  | _ => none
def tm_lL (h : tm_H) (t a : Nat) (i : Int) : Option Int64 := match h a with
  | some (.inr (t', n, .inr (.inl f))) => if t' = t ∧ 0 ≤ i ∧ i < n then some (f i.toNat) else none
  | _ => none
def tm_lR (h : tm_H) (t a : Nat) (i : Int) : Option Nat := match h a with
  | some (.inr (t', n, .inr (.inr f))) => if t' = t ∧ 0 ≤ i ∧ i < n then f i.toNat else none
  | _ => none
def tm_wI (h : tm_H) (t a : Nat) (i v : Int) : Option tm_H := match h a with
  | some (.inr (t', n, .inl f)) => if t' = t ∧ 0 ≤ i ∧ i < n then some (tm_up h a (some (.inr (t, n, .inl (tm_up f i.toNat v))))) else none
  | _ => none
def tm_wZ (h : tm_H) (t a : Nat) (i v : Int) : Option tm_H := if v = 0 ∨ v = 1 then tm_wI h t a i v else none
def tm_wL (h : tm_H) (t a : Nat) (i : Int) (v : Int64) : Option tm_H := match h a with
  | some (.inr (t', n, .inr (.inl f))) => if t' = t ∧ 0 ≤ i ∧ i < n then some (tm_up h a (some (.inr (t, n, .inr (.inl (tm_up f i.toNat v)))))) else none
  | _ => none
/-- a reference into an array of references: to an object of class c (c < 100), or to an array of kind c - 100 -/
def tm_kd (h : tm_H) (c b : Nat) : Bool := match h b with
  | some (.inl (c', _)) => c' == c
  | some (.inr (t', _)) => t' + 100 == c
  | _ => false
def tm_wR (h : tm_H) (t a : Nat) (i : Int) (c b : Nat) : Option tm_H := match h a with
  | some (.inr (t', n, .inr (.inr f))) => if t' = t ∧ 0 ≤ i ∧ i < n ∧ tm_kd h c b = true then some (tm_up h a (some (.inr (t, n, .inr (.inr (tm_up f i.toNat (some b))))))) else none
  | _ => none
def tm_cy {α : Type} (f g : Nat → α) (sp dp n : Nat) : Nat → α := fun k => if dp ≤ k ∧ k < dp + n then f (sp + (k - dp)) else g k
def tm_cpI (h : tm_H) (t : Nat) (a : Nat) (sp : Int) (b : Nat) (dp n : Int) : Option tm_H := match h a, h b with
  | some (.inr (t1, n1, .inl f)), some (.inr (t2, n2, .inl g)) => if t1 = t ∧ t2 = t ∧ a ≠ b ∧ 0 ≤ sp ∧ 0 ≤ dp ∧ 0 ≤ n ∧ sp + n ≤ n1 ∧ dp + n ≤ n2 then some (tm_up h b (some (.inr (t, n2, .inl (tm_cy f g sp.toNat dp.toNat n.toNat))))) else none
  | _, _ => none
def tm_cpL (h : tm_H) (t : Nat) (a : Nat) (sp : Int) (b : Nat) (dp n : Int) : Option tm_H := match h a, h b with
  | some (.inr (t1, n1, .inr (.inl f))), some (.inr (t2, n2, .inr (.inl g))) => if t1 = t ∧ t2 = t ∧ a ≠ b ∧ 0 ≤ sp ∧ 0 ≤ dp ∧ 0 ≤ n ∧ sp + n ≤ n1 ∧ dp + n ≤ n2 then some (tm_up h b (some (.inr (t, n2, .inr (.inl (tm_cy f g sp.toNat dp.toNat n.toNat)))))) else none
  | _, _ => none
/-- new objects and arrays, at the heap's end n -/
def tm_nw (h : tm_H) (n : Nat) (o : tm_Ob) : Option tm_H := some (tm_up h n (some o))
def tm_nm (h : tm_H) (n N K : Nat) : Option tm_H := some (fun q => if q = n then some (.inr (5, N, .inr (.inr (fun i => if i < N then some (n + 1 + i) else none)))) else if n < q ∧ q ≤ n + N then some (.inr (0, K, .inl (fun _ => 0))) else h q)
/-- booleans as a method answers them -/
def tm_zr (v : Int) : Option Int := if v = 0 ∨ v = 1 then some v else none
def tm_and (x y : Int) : Int := (Int32.ofInt x &&& Int32.ofInt y).toInt
def tm_or (x y : Int) : Int := (Int32.ofInt x ||| Int32.ofInt y).toInt
def tm_shl (x y : Int) : Int := (Int32.ofInt x <<< (Int32.ofInt y &&& 31)).toInt
def tm_shr (x y : Int) : Int := (Int32.ofInt x >>> (Int32.ofInt y &&& 31)).toInt
def tm_i2l (x : Int) : Int64 := (Int32.ofInt x).toInt64
def tm_l2i (x : Int64) : Int := x.toInt32.toInt
def tm_lshl (x : Int64) (y : Int) : Int64 := x <<< ((Int32.ofInt y).toInt64 &&& 63)
def tm_lushr (x : Int64) (y : Int) : Int64 := (x.toUInt64 >>> ((Int32.ofInt y).toInt64.toUInt64 &&& Int64.toUInt64 63)).toInt64
theorem tm_i32_rg (x : Int32) : tm_rg x.toInt := by
  have h1 := x.toInt_lt
  have h2 := x.le_toInt
  unfold tm_rg
  omega
/-- loops: f says the next state, or the answer -/
def tm_wit {S R : Type} (f : S → Option (S ⊕ R)) : Nat → S → Option R
  | 0, _ => none
  | n + 1, s => match f s with
    | none => none
    | some (.inl s') => tm_wit f n s'
    | some (.inr r) => some r
def tm_fin {S R : Type} (f : S → Option (S ⊕ R)) (n : Nat) : S ⊕ R → Option R
  | .inl s' => tm_wit f n s'
  | .inr r => some r
theorem tm_wit_succ {S R : Type} {f : S → Option (S ⊕ R)} {n : Nat} {s : S} {r : R} (h : tm_wit f (n + 1) s = some r) : ∃ x, f s = some x ∧ tm_fin f n x = some r := by
  unfold tm_wit at h
  cases hf : f s with
  | none => rw [hf] at h; cases h
  | some x => rw [hf] at h; exact ⟨x, rfl, by cases x <;> exact h⟩
theorem tm_wit_le {S R : Type} {f : S → Option (S ⊕ R)} : ∀ {n m : Nat} {s : S} {r : R}, tm_wit f n s = some r → n ≤ m → tm_wit f m s = some r
  | 0, _, _, _, h, _ => by cases h
  | n + 1, 0, _, _, _, hm => absurd hm (Nat.not_succ_le_zero n)
  | n + 1, m + 1, s, r, h, hm => by
    unfold tm_wit at h ⊢
    cases hf : f s with
    | none => rw [hf] at h; cases h
    | some x =>
      rw [hf] at h
      cases x with
      | inl s' => exact tm_wit_le (n := n) (m := m) h (Nat.le_of_succ_le_succ hm)
      | inr r' => exact h

noncomputable def tm_wl {S R : Type} (f : S → Option (S ⊕ R)) (s : S) : Option R :=
  @dite _ (∃ n r, tm_wit f n s = some r) (Classical.propDecidable _) (fun h => some (Classical.choose (Classical.choose_spec h))) (fun _ => none)
theorem tm_wl_iff {S R : Type} {f : S → Option (S ⊕ R)} {s : S} {r : R} : tm_wl f s = some r ↔ ∃ n, tm_wit f n s = some r := by
  unfold tm_wl
  constructor
  · intro h
    by_cases hx : ∃ n r, tm_wit f n s = some r
    · rw [dif_pos hx] at h
      cases h
      exact ⟨_, Classical.choose_spec (Classical.choose_spec hx)⟩
    · rw [dif_neg hx] at h
      cases h
  · rintro ⟨n, h⟩
    have hx : ∃ n r, tm_wit f n s = some r := ⟨n, r, h⟩
    rw [dif_pos hx]
    have h2 := Classical.choose_spec (Classical.choose_spec hx)
    have a := tm_wit_le h (Nat.le_max_left n (Classical.choose hx))
    have b := tm_wit_le h2 (Nat.le_max_right n (Classical.choose hx))
    exact b.symm.trans a
noncomputable def tm_go {S R : Type} (f : S → Option (S ⊕ R)) : Option (S ⊕ R) → Option R
  | none => none
  | some (.inl s') => tm_wl f s'
  | some (.inr r) => some r
theorem tm_wl_eq {S R : Type} (f : S → Option (S ⊕ R)) (s : S) : tm_wl f s = tm_go f (f s) := by
  apply Option.ext
  intro r
  rw [tm_wl_iff]
  constructor
  · rintro ⟨n, h⟩
    cases n with
    | zero => cases h
    | succ n =>
      obtain ⟨x, hx, hf⟩ := tm_wit_succ h
      rw [hx]
      cases x with
      | inl s' => exact tm_wl_iff.mpr ⟨n, hf⟩
      | inr r' => exact hf
  · intro h
    cases hf : f s with
    | none => rw [hf] at h; cases h
    | some x =>
      rw [hf] at h
      cases x with
      | inl s' =>
        obtain ⟨n, hn⟩ := tm_wl_iff.mp h
        exact ⟨n + 1, by unfold tm_wit; rw [hf]; exact hn⟩
      | inr r' => exact ⟨1, by unfold tm_wit; rw [hf]; exact h⟩
def tm_out {S R : Type} (o : Option R) : Option (S ⊕ R) := o.map Sum.inr
theorem tm_out_some {S R : Type} {o : Option R} {x : S ⊕ R} (h : tm_out o = some x) : ∃ r, o = some r ∧ x = .inr r := by
  unfold tm_out at h
  cases o with
  | none => cases h
  | some r => cases h; exact ⟨r, rfl, rfl⟩
theorem tm_go_inl {S R : Type} (f : S → Option (S ⊕ R)) (s : S) : tm_go f (some (.inl s)) = tm_wl f s := rfl
theorem tm_go_inr {S R : Type} (f : S → Option (S ⊕ R)) (r : R) : tm_go f (some (.inr r)) = some r := rfl
theorem tm_go_out {S R : Type} (f : S → Option (S ⊕ R)) (o : Option R) : tm_go f (tm_out o) = o := by cases o <;> rfl
theorem tm_go_ite {S R : Type} (f : S → Option (S ⊕ R)) (c : Prop) {i : Decidable c} (a b : Option (S ⊕ R)) : tm_go f (@ite _ c i a b) = @ite _ c i (tm_go f a) (tm_go f b) := by
  by_cases h : c
  · rw [if_pos h, if_pos h]
  · rw [if_neg h, if_neg h]
theorem tm_go_bind {S R α : Type} (f : S → Option (S ⊕ R)) (o : Option α) (k : α → Option (S ⊕ R)) : tm_go f (o.bind k) = o.bind (fun v => tm_go f (k v)) := by cases o <;> rfl
theorem tm_go_th {S R : Type} (f : S → Option (S ⊕ R)) (h : tm_H) (c a : Nat) (k : Option (S ⊕ R)) : tm_go f (tm_th h c a k) = tm_th h c a (tm_go f k) := by
  unfold tm_th
  split
  · split <;> rfl
  · rfl
