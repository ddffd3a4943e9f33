/-! THE MACHINE'S ROWS, said of the pure model's heap -/
def tw_I (z : Int) : Int32 := Int32.ofInt z
theorem tw_I_wr (z : Int) : tw_I (tm_wr z) = tw_I z := by
  have h : tm_wr z = z + 4294967296 * (-((z + 2147483648) / 4294967296)) := by unfold tm_wr; omega
  unfold tw_I
  rw [h, Int32.ofInt_add, Int32.ofInt_mul, show Int32.ofInt 4294967296 = 0 by decide, Int32.zero_mul, Int32.add_zero]
theorem tw_I_toInt {z : Int} (h : tm_rg z) : (tw_I z).toInt = z := by
  unfold tm_rg at h
  exact Int32.toInt_ofInt_of_le (by omega) (by omega)
theorem tw_I_of (x : Int32) : tw_I x.toInt = x := Int32.ofInt_toInt x
theorem tw_I_add (x y : Int) : tw_I x + tw_I y = tw_I (tm_wr (x + y)) := by rw [tw_I_wr]; exact (Int32.ofInt_add x y).symm
theorem tw_I_sub (x y : Int) : tw_I x - tw_I y = tw_I (tm_wr (x - y)) := by rw [tw_I_wr]; exact (Int32.ofInt_sub x y).symm
theorem tw_I_mul (x y : Int) : tw_I x * tw_I y = tw_I (tm_wr (x * y)) := by rw [tw_I_wr]; exact (Int32.ofInt_mul x y).symm
theorem tw_I_lt {x y : Int} (hx : tm_rg x) (hy : tm_rg y) : tw_I x < tw_I y ↔ x < y := by rw [Int32.lt_iff_toInt_lt, tw_I_toInt hx, tw_I_toInt hy]
theorem tw_I_le {x y : Int} (hx : tm_rg x) (hy : tm_rg y) : tw_I x ≤ tw_I y ↔ x ≤ y := by rw [Int32.le_iff_toInt_le, tw_I_toInt hx, tw_I_toInt hy]
theorem tw_I_eq {x y : Int} (hx : tm_rg x) (hy : tm_rg y) : tw_I x = tw_I y ↔ x = y := by
  constructor
  · intro h
    rw [← tw_I_toInt hx, ← tw_I_toInt hy, h]
  · intro h
    rw [h]
theorem tw_rg0 : tm_rg 0 := by unfold tm_rg; omega
theorem tw_I_zero : tw_I 0 = 0 := by decide
theorem tw_clamp {i : Int} {n : Nat} (h0 : 0 ≤ i) (h1 : i < n) (hn : n < 2147483648) : (tw_I i).toNatClampNeg = i.toNat := by
  exact Int32.toNatClampNeg_ofInt_of_le (by omega) (by omega)
theorem tw_in {i : Int} {n : Nat} (h0 : 0 ≤ i) (h1 : i < n) (hn : n < 2147483648) : vp_in (tw_I i) n := by
  intro h
  rw [tw_clamp h0 h1 hn] at h
  rcases h with h | h
  · rw [← tw_I_zero, tw_I_lt (by unfold tm_rg; omega) tw_rg0] at h
    omega
  · omega
def tw_fv (v : tm_Fv) : Value := match v with
  | .inl z => .int (tw_I z)
  | .inr r => va_rf r
def tw_fg (v : tm_Fv) : Prop := match v with
  | .inl z => tm_rg z
  | .inr _ => True
/-- where the classes' and arrays' numbers are, the first address, the heap below it, the script's address, length and ints -/
abbrev tw_G : Type := va_G × ((Nat → ClassId) × (Nat × (Heap × ((Nat × Nat) × (Nat → Int32)))))
abbrev tw_tys (G : tw_G) : List (ClassId × FieldType) := [(G.2.1 0, .int), (G.2.1 1, .long), (G.2.1 2, .boolean), (G.2.1 3, .object "TermMarks$Chapters"), (G.2.1 4, .object "TermMarks$State"), (G.2.1 5, .array .int)]
def tw_xb (G : tw_G) : Nat := G.2.2.2.2.1.1
def tw_xs (G : tw_G) : tm_Xs := (fun j => (G.2.2.2.2.2 j).toInt, G.2.2.2.2.1.2)
def tw_str (G : tw_G) (U : State) : Prop := va_X (tw_xb G) G.2.2.2.2.1.2 G.2.2.2.2.2 U G.2.2.2.1 ∧ tw_xb G < G.2.2.1 ∧ tm_rg (G.2.2.2.2.1.2 : Int)
/-- the class of int[][] is over that of int[] -/
def tw_A5 (G : tw_G) (U : State) : Prop := ∃ kA : Class, U.vm.classes[G.2.1 5]? = some kA ∧ kA.kind = .array (G.2.1 0) (.array .int)
theorem tw_A5.moved {G : tw_G} {u U : State} (hvm : u.vm.Alike U.vm) (h : tw_A5 G u) : tw_A5 G U := by
  obtain ⟨kA, h1, h2⟩ := h
  obtain ⟨k', hk', he⟩ := hvm.2.2 _ _ h1
  exact ⟨k', hk', by rw [he]; exact h2⟩
/-- arrays of references can be made -/
def tw_AO (U : State) : Prop := va_AO "TermMarks$Chapters" U ∧ va_AO "TermMarks$State" U ∧ (Cond.arrayOver (.array .int)).before #[] U = true
theorem tw_AO.moved {u U : State} (hvm : u.vm.Alike U.vm) (h : tw_AO u) : tw_AO U := ⟨h.1.moved hvm, h.2.1.moved hvm, over_moved hvm h.2.2⟩
def tw_TB : List Cond := lw_tbl.filter goodWord
theorem tw_in_TB {w : Cond} (i : Nat) (h : lw_tbl[i]? = some w) (g : goodWord w = true) : w ∈ tw_TB := List.mem_filter.mpr ⟨List.mem_of_getElem? h, g⟩
def tw_isN : Cond → Bool
  | .fieldLinkNest .. => true
  | .methodLinkNest .. => true
  | _ => false
def tw_NB : List Cond := lw_tbl.filter tw_isN
theorem tw_in_NB {w : Cond} (i : Nat) (h : lw_tbl[i]? = some w) (g : tw_isN w = true) : w ∈ tw_NB := List.mem_filter.mpr ⟨List.mem_of_getElem? h, g⟩
/-- the words of the nest's private members -/
def tw_NK (U : State) : Prop := ∀ w ∈ tw_NB, va_Nw w U
theorem tw_NK.warm {s U : State} (hW : s.WarmedH U.vm) (h : tw_NK s) : tw_NK U := by
  intro w hw
  have h1 := h w hw
  have h2 := (List.mem_filter.mp hw).2
  cases w <;> first | exact h1.warmF hW | exact h1.warmM hW | (cases h2)
theorem tw_NK.same {u U : State} (hv : U.vm = u.vm) (h : tw_NK u) : tw_NK U := by
  intro w hw
  have h1 := h w hw
  have h2 := (List.mem_filter.mp hw).2
  cases w <;> first | exact h1.same rfl hv.symm | (cases h2)
def tw_K (G : tw_G) (U : State) : Prop := va_K G.1 vwCl (tw_tys G) U ∧ tw_A5 G U ∧ tw_str G U ∧ tw_AO U ∧ tw_NK U
theorem tw_str.warm {G : tw_G} {s U : State} (hW : s.WarmedH U.vm) (h : tw_str G s) : tw_str G U := ⟨h.1.moved hW.alike, h.2⟩
theorem tw_str.same {G : tw_G} {u U : State} (hv : U.vm = u.vm) (h : tw_str G u) : tw_str G U := by
  have ha : u.vm.Alike U.vm := by rw [hv]; exact Vm.Alike.refl _
  exact ⟨h.1.moved ha, h.2⟩
theorem tw_K.warm {G : tw_G} {s U : State} (hW : s.WarmedH U.vm) (h : tw_K G s) : tw_K G U :=
  ⟨h.1.moved hW.alike, h.2.1.moved hW.alike, h.2.2.1.warm hW, h.2.2.2.1.moved hW.alike, h.2.2.2.2.warm hW⟩
theorem tw_K.same {G : tw_G} {u U : State} (hv : U.vm = u.vm) (h : tw_K G u) : tw_K G U := by
  have ha : u.vm.Alike U.vm := by rw [hv]; exact Vm.Alike.refl _
  exact ⟨h.1.moved ha, h.2.1.moved ha, h.2.2.1.same hv, h.2.2.2.1.moved ha, h.2.2.2.2.same hv⟩
def tw_cell (G : tw_G) (a : Nat) (o : tm_Ob) (H : Heap) : Prop := match o with
  | .inl (c, fs) => va_at G.1 vwCl (a, .inr (c, fs.map tw_fv)) H ∧ ∀ v ∈ fs, tw_fg v
  | .inr (t, n, .inl f) => H[a]? = some (vp_cell (G.2.1 t) (n, .inl (fun j => tw_I (f j)))) ∧ n < 2147483648 ∧ (t = 0 ∨ t = 2) ∧ (∀ j, tm_rg (f j)) ∧ (t = 2 → ∀ j, f j = 0 ∨ f j = 1)
  | .inr (t, n, .inr (.inl f)) => H[a]? = some (vp_cell (G.2.1 t) (n, .inr (.inl f))) ∧ n < 2147483648 ∧ t = 1
  | .inr (t, n, .inr (.inr f)) => H[a]? = some (vp_cell (G.2.1 t) (n, .inr (.inr (.inr (.inr f))))) ∧ n < 2147483648 ∧ (t = 3 ∨ t = 4 ∨ t = 5)
theorem tw_cell.kept {G : tw_G} {a : Nat} {o : tm_Ob} {H H1 : Heap} (h : tw_cell G a o H) (hq : H1[a]? = H[a]?) : tw_cell G a o H1 := by
  obtain ⟨c, fs⟩ | ⟨t, n, f | f | f⟩ := o
  · exact ⟨h.1.kept hq, h.2⟩
  · exact ⟨hq.trans h.1, h.2⟩
  · exact ⟨hq.trans h.1, h.2⟩
  · exact ⟨hq.trans h.1, h.2⟩
theorem tw_cell.lt {G : tw_G} {a : Nat} {o : tm_Ob} {H : Heap} (h : tw_cell G a o H) : a < H.size := by
  obtain ⟨c, fs⟩ | ⟨t, n, f | f | f⟩ := o
  · exact h.1.lt
  · exact (Array.getElem?_eq_some_iff.mp h.1).1
  · exact (Array.getElem?_eq_some_iff.mp h.1).1
  · exact (Array.getElem?_eq_some_iff.mp h.1).1
/-- the heap as the pure model has it -/
def tw_Rel (G : tw_G) (sz : Nat) (h : tm_H) (H : Heap) : Prop := H.size = sz ∧ G.2.2.1 ≤ sz ∧ (∀ q, q < G.2.2.1 → H[q]? = G.2.2.2.1[q]?) ∧ ∀ a o, h a = some o → G.2.2.1 ≤ a ∧ tw_cell G a o H
theorem tw_Rel.set {G : tw_G} {sz : Nat} {h : tm_H} {H H1 : Heap} {a : Nat} {o o0 : tm_Ob} (hR : tw_Rel G sz h H) (ha : h a = some o0) (e : tw_cell G a o H1) (z : H1.size = H.size) (oq : ∀ q : Nat, q ≠ a → H1[q]? = H[q]?) : tw_Rel G sz (tm_up h a (some o)) H1 := by
  obtain ⟨r1, r2, r3, r4⟩ := hR
  have hba := (r4 a o0 ha).1
  refine ⟨z.trans r1, r2, fun q hq => (oq q (by omega)).trans (r3 q hq), fun b o' hb => ?_⟩
  by_cases hab : b = a
  · subst hab
    rw [tm_up_self] at hb
    cases hb
    exact ⟨hba, e⟩
  · rw [tm_up_ne hab] at hb
    exact ⟨(r4 b o' hb).1, (r4 b o' hb).2.kept (oq b hab)⟩
def tw_WS (y : MethodName) (b : ByteArray) (n : Nat) (r : Option FieldType) : List Cond := .code y b n r :: tw_TB
theorem tw_good (y : MethodName) (b : ByteArray) (n : Nat) (r : Option FieldType) (h : Cond.code y b n r ∈ tw_TB) : GoodIn tw_TB (tw_WS y b n r) := by
  have k : ∀ w ∈ tw_TB, w ∈ tw_TB ∧ ((w.onTables && w.keeps) = true ∨ ∃ ty, w = .arrayClass ty) := fun w hw => ⟨hw, good_of_word (List.mem_filter.mp hw).2⟩
  intro w hw
  rcases List.mem_cons.mp hw with e | e
  · rw [e]
    exact k _ h
  · exact k _ e
def tw_Pre (G : tw_G) (sz : Nat) (h : tm_H) (U : State) : Prop := tw_Rel G sz h U.heap ∧ tw_K G U
def tw_F (G : tw_G) : Nat → Prop := fun q => G.2.2.1 ≤ q
def tw_L (G : tw_G) (locs : List Loc) : Prop := ∀ q ∈ locs, G.2.2.1 ≤ q.base
def tw_C (G : tw_G) (p : Program) (s : State) (m : MethodId) (args : Array Value) (meth : Method) (c : Code) (own : String) (cc : ByteArray) (nL : Nat) (ret : Option FieldType) : Prop :=
  p.tables.exec = Jvm.exec ∧ c.code = cc ∧ c.maxLocals = nL ∧ s.vm.findClass own = some m.cls ∧ (∀ w ∈ tw_TB, w.before args s = true) ∧ meth.sig.returnType = ret ∧ meth.locks = false ∧ tw_K G s
def tw_Qi (G : tw_G) (sz : Nat) (r : Int) (h : tm_H) : Array Value → State → Outcome → State → Prop := fun _ _ o t => o = .returned (some (.int (tw_I r))) ∧ tm_rg r ∧ tw_Rel G sz h t.heap
def tw_Ql (G : tw_G) (sz : Nat) (r : Int64) (h : tm_H) : Array Value → State → Outcome → State → Prop := fun _ _ o t => o = .returned (some (.long r)) ∧ tw_Rel G sz h t.heap
def tw_Qr (G : tw_G) (sz : Nat) (r : Nat) (h : tm_H) : Array Value → State → Outcome → State → Prop := fun _ _ o t => o = .returned (some (.ref r)) ∧ tw_Rel G sz h t.heap
def tw_Qv (G : tw_G) (sz : Nat) (h : tm_H) : Array Value → State → Outcome → State → Prop := fun _ _ o t => o = .returned none ∧ tw_Rel G sz h t.heap
theorem tw_met {l : Launch} {y : MethodName} {cc : ByteArray} {maxL : Nat} {ret : Option FieldType} {rm : Room} {G : tw_G} {sz : Nat} {h : tm_H} {av : List Value} {Qc : Array Value → State → Outcome → State → Prop} {mc ms : Nat}
    (hpl : plainName y.cls = true) (hsl : (lg_sl av).length ≤ maxL)
    (body : ∀ (p : Program) (e : Env) (s : State) (m : MethodId) (args : Array Value) (below : List Frame) (meth : Method) (c : Code) (H : Heap) (ls : Array Slot), tw_C G p s m args meth c y.cls cc maxL ret → meth.name = y.name → tw_Rel G sz h H → lv_has ls maxL (lv_args 0 av) →
      W p l e rm s m args below meth c H [] 0 0 (MQ below Qc args s mc ms (tw_F G)) (F0 m 0 ls [])) : Met l y (tw_WS y cc maxL ret) rm (va_Pc av (tw_Pre G sz h)) Qc mc ms (tw_F G) := by
  refine Met.ofW (cc := cc) (maxL := maxL) (ret := ret) hpl rfl ?_
  intro p e s m args below meth c s₁ B hml hv
  obtain ⟨rfl, hR, hK⟩ := hv
  have hts := atoms_spec (ws := tw_WS y cc maxL ret) B.pre
  have hl := lv_entry av (n := maxL) hsl
  rw [lg_entry_eq]
  exact body p e s m _ below meth c s.heap _ ⟨B.exec, B.bytes, hml, findClass_of_methodNamed B.named, fun w hw => hts w (List.mem_cons_of_mem _ hw), B.returns, B.notSynchronized, hK⟩ (name_of_methodNamed B.named B.method).1 hR hl
/-! fields: what the tables say of an instruction that reads or writes one -/
def tw_fl (own : String) (idx ci k : Nat) : Prop := ∃ (C : String) (T : u_T) (N : Nat), vwCl[ci]? = some (C, T, N) ∧ k < N ∧ (∀ w ∈ u_ws C T N, w ∈ tw_TB) ∧ (Cond.fieldLink own idx (T k).1 (T k).2.1 (T k).2.2.1 ∈ tw_TB ∨ ∃ host, Cond.fieldLinkNest own idx (T k).1 (T k).2.1 (T k).2.2.1 host ∈ tw_NB)
def tw_fp (own : String) (idx ci k : Nat) (fin : Bool) (ty : FieldType) : Prop := ∃ (C : String) (T : u_T) (N : Nat) (ty0 : Nat → FieldType), vwCl[ci]? = some (C, T, N) ∧ k < N ∧ (∀ w ∈ u_ws C T N, w ∈ tw_TB) ∧ (∀ j, j < N → parseFieldDescriptor (T j).2.2.1 = some (ty0 j)) ∧ (∀ a, a < N → ∀ b, b < N → a ≠ b → (T a).2.1 ≠ (T b).2.1) ∧ Cond.fieldLink own idx (T k).1 (T k).2.1 (T k).2.2.1 ∈ tw_TB ∧ (T k).2.2.2 = fin ∧ parseFieldDescriptor (T k).2.2.1 = some ty ∧ (fin = true → (T k).1 = own)
theorem tm_gI_some {h : tm_H} {c k a : Nat} {v : Int} (e : tm_gI h c k a = some v) : ∃ fs, h a = some (.inl (c, fs)) ∧ fs[k]? = some (.inl v) := by
  unfold tm_gI at e
  split at e
  · rename_i c' fs heq
    split at e
    · rename_i hc
      subst hc
      split at e
      · rename_i v' h2
        cases e
        exact ⟨fs, heq, h2⟩
      · cases e
    · cases e
  · cases e
theorem tm_gR_some {h : tm_H} {c k a : Nat} {v : Nat} (e : tm_gR h c k a = some v) : ∃ fs, h a = some (.inl (c, fs)) ∧ fs[k]? = some (.inr (some v)) := by
  unfold tm_gR at e
  split at e
  · rename_i c' fs heq
    split at e
    · rename_i hc
      subst hc
      split at e
      · rename_i v' h2
        cases e
        exact ⟨fs, heq, h2⟩
      · cases e
    · cases e
  · cases e
theorem tm_sF_some {h h' : tm_H} {c k a : Nat} {v : tm_Fv} (e : tm_sF h c k a v = some h') : ∃ fs, h a = some (.inl (c, fs)) ∧ k < fs.length ∧ h' = tm_up h a (some (.inl (c, fs.set k v))) := by
  unfold tm_sF at e
  split at e
  · rename_i c' fs heq
    split at e
    · rename_i hc
      obtain ⟨hc, hk⟩ := hc
      subst hc
      cases e
      exact ⟨fs, heq, hk, rfl⟩
    · cases e
  · cases e
theorem tm_lI_some {h : tm_H} {t a : Nat} {i v : Int} (e : tm_lI h t a i = some v) : ∃ n f, h a = some (.inr (t, n, .inl f)) ∧ 0 ≤ i ∧ i < n ∧ v = f i.toNat := by
  unfold tm_lI at e
  split at e
  · rename_i t' n f heq
    split at e
    · rename_i hc
      obtain ⟨rfl, h0, h1⟩ := hc
      cases e
      exact ⟨n, f, heq, h0, h1, rfl⟩
    · cases e
  · cases e
theorem tm_lL_some {h : tm_H} {t a : Nat} {i : Int} {v : Int64} (e : tm_lL h t a i = some v) : ∃ n f, h a = some (.inr (t, n, .inr (.inl f))) ∧ 0 ≤ i ∧ i < n ∧ v = f i.toNat := by
  unfold tm_lL at e
  split at e
  · rename_i t' n f heq
    split at e
    · rename_i hc
      obtain ⟨rfl, h0, h1⟩ := hc
      cases e
      exact ⟨n, f, heq, h0, h1, rfl⟩
    · cases e
  · cases e
theorem tm_lR_some {h : tm_H} {t a : Nat} {i : Int} {v : Nat} (e : tm_lR h t a i = some v) : ∃ n f, h a = some (.inr (t, n, .inr (.inr f))) ∧ 0 ≤ i ∧ i < n ∧ f i.toNat = some v := by
  unfold tm_lR at e
  split at e
  · rename_i t' n f heq
    split at e
    · rename_i hc
      obtain ⟨rfl, h0, h1⟩ := hc
      exact ⟨n, f, heq, h0, h1, e⟩
    · cases e
  · cases e
theorem tm_wI_some {h h' : tm_H} {t a : Nat} {i v : Int} (e : tm_wI h t a i v = some h') : ∃ n f, h a = some (.inr (t, n, .inl f)) ∧ 0 ≤ i ∧ i < n ∧ h' = tm_up h a (some (.inr (t, n, .inl (tm_up f i.toNat v)))) := by
  unfold tm_wI at e
  split at e
  · rename_i t' n f heq
    split at e
    · rename_i hc
      obtain ⟨rfl, h0, h1⟩ := hc
      cases e
      exact ⟨n, f, heq, h0, h1, rfl⟩
    · cases e
  · cases e
theorem tm_wL_some {h h' : tm_H} {t a : Nat} {i : Int} {v : Int64} (e : tm_wL h t a i v = some h') : ∃ n f, h a = some (.inr (t, n, .inr (.inl f))) ∧ 0 ≤ i ∧ i < n ∧ h' = tm_up h a (some (.inr (t, n, .inr (.inl (tm_up f i.toNat v))))) := by
  unfold tm_wL at e
  split at e
  · rename_i t' n f heq
    split at e
    · rename_i hc
      obtain ⟨rfl, h0, h1⟩ := hc
      cases e
      exact ⟨n, f, heq, h0, h1, rfl⟩
    · cases e
  · cases e
theorem tm_wR_some {h h' : tm_H} {t a c b : Nat} {i : Int} (e : tm_wR h t a i c b = some h') : ∃ n f, h a = some (.inr (t, n, .inr (.inr f))) ∧ 0 ≤ i ∧ i < n ∧ tm_kd h c b = true ∧ h' = tm_up h a (some (.inr (t, n, .inr (.inr (tm_up f i.toNat (some b)))))) := by
  unfold tm_wR at e
  split at e
  · rename_i t' n f heq
    split at e
    · rename_i hc
      obtain ⟨rfl, h0, h1, h2⟩ := hc
      cases e
      exact ⟨n, f, heq, h0, h1, h2, rfl⟩
    · cases e
  · cases e
theorem tm_len_some {h : tm_H} {t a : Nat} {v : Int} (e : tm_len h t a = some v) : ∃ n f, h a = some (.inr (t, n, f)) ∧ v = n := by
  unfold tm_len at e
  split at e
  · rename_i t' n f heq
    split at e
    · rename_i hc
      subst hc
      cases e
      exact ⟨n, f, heq, rfl⟩
    · cases e
  · cases e
section TW
variable {p : Program} {l : Launch} {e : Env} {R : Room} {s : State} {m : MethodId} {args : Array Value} {below : List Frame} {meth : Method} {c : Code} {H : Heap} {locs : List Loc} {cells slots : Nat} {Q : State → Prop}
variable {cc : ByteArray} {pc nL : Nat} {ls : Array Slot} {rest : List Value} {a : Nat} {G : tw_G} {sz : Nat} {h : tm_H} {own : String} {ret : Option FieldType} {α : Type} {x : α}
theorem tw_one {q : Nat × va_E} {D : va_G} {cl : List vw_C} (h : va_at D cl q H) : va_P D cl [q] H := by
  intro k q' hk
  cases k with
  | zero => cases hk; exact h
  | succ k => cases hk
theorem tw_getV (C : tw_C G p s m args meth c own cc nL ret) (hR : tw_Rel G sz h H) {ci k idx : Nat} {fs : List tm_Fv} (ha : h a = some (.inl (ci, fs))) {v : tm_Fv} (hv : fs[k]? = some v) (S : tw_fl own idx ci k) (hdg : decode cc pc = .ok (.getfield idx, 3))
    (kk : tw_fg v → W p l e R s m args below meth c H locs cells slots Q (F0 m (pc + 3) ls (tw_fv v :: rest))) : W p l e R s m args below meth c H locs cells slots Q (F0 m pc ls (.ref a :: rest)) := by
  obtain ⟨hx, hb, -, hown, hts, -, -, hK, -, -, -, hN⟩ := C
  obtain ⟨hat, hfg⟩ := (hR.2.2.2 a _ ha).2
  obtain ⟨Cn, T, N, hc, hkN, hin, hlink⟩ := S
  have hfs : (fs.map tw_fv)[k]? = some (tw_fv v) := by rw [List.getElem?_map, hv]; rfl
  have hg := kk (hfg v (List.mem_of_getElem? hv))
  rcases hlink with hl | ⟨host, hl⟩
  · exact va_get (T := T) (N := N) (ci := ci) (C := Cn) hx hb hts hin hown hK (tw_one hat) 0 rfl hc k hkN (hts _ hl) (fun _ z => z) hfs hdg hg
  · exact va_getN (T := T) (N := N) (ci := ci) (C := Cn) hx hb hts hin hown hK (tw_one hat) 0 rfl hc k hkN ((hN _ hl).use rfl) (fun _ z => z) hfs hdg hg
theorem tw_getI (C : tw_C G p s m args meth c own cc nL ret) (hR : tw_Rel G sz h H) {ci k idx : Nat} {F : Int → Option α} (hk : (tm_gI h ci k a).bind F = some x) (S : tw_fl own idx ci k) (hdg : decode cc pc = .ok (.getfield idx, 3))
    (kk : ∀ v, tm_rg v → F v = some x → W p l e R s m args below meth c H locs cells slots Q (F0 m (pc + 3) ls (.int (tw_I v) :: rest))) : W p l e R s m args below meth c H locs cells slots Q (F0 m pc ls (.ref a :: rest)) := by
  obtain ⟨v, hv, hF⟩ := Option.bind_eq_some_iff.mp hk
  obtain ⟨fs, ha, hfv⟩ := tm_gI_some hv
  exact tw_getV C hR ha hfv S hdg (fun g => kk v g hF)
theorem tw_getR (C : tw_C G p s m args meth c own cc nL ret) (hR : tw_Rel G sz h H) {ci k idx : Nat} {F : Nat → Option α} (hk : (tm_gR h ci k a).bind F = some x) (S : tw_fl own idx ci k) (hdg : decode cc pc = .ok (.getfield idx, 3))
    (kk : ∀ v, F v = some x → W p l e R s m args below meth c H locs cells slots Q (F0 m (pc + 3) ls (.ref v :: rest))) : W p l e R s m args below meth c H locs cells slots Q (F0 m pc ls (.ref a :: rest)) := by
  obtain ⟨v, hv, hF⟩ := Option.bind_eq_some_iff.mp hk
  obtain ⟨fs, ha, hfv⟩ := tm_gR_some hv
  exact tw_getV C hR ha hfv S hdg (fun g => kk v hF)
theorem tw_map_set (fs : List tm_Fv) (k : Nat) (v : tm_Fv) : (fs.set k v).map tw_fv = (fs.map tw_fv).set k (tw_fv v) := List.map_set
theorem tw_putV (C : tw_C G p s m args meth c own cc nL ret) (hR : tw_Rel G sz h H) (hL : tw_L G locs) {ci k idx : Nat} {fin : Bool} {ty : FieldType} {v : tm_Fv} (hfin : fin = true → meth.name = "<init>") (hg : tw_fg v) (hn : narrow ty (tw_fv v) = tw_fv v) (hfit : fits ty (tw_fv v) = true) {F : tm_H → Option α} (hk : (tm_sF h ci k a v).bind F = some x) (S : tw_fp own idx ci k fin ty) (hdg : decode cc pc = .ok (.putfield idx, 3))
    (kk : ∀ (h1 : tm_H) (H1 : Heap) (locs1 : List Loc), tw_Rel G sz h1 H1 → tw_L G locs1 → F h1 = some x → W p l e R s m args below meth c H1 locs1 cells slots Q (F0 m (pc + 3) ls rest)) : W p l e R s m args below meth c H locs cells slots Q (F0 m pc ls (tw_fv v :: .ref a :: rest)) := by
  obtain ⟨h1, hv, hF⟩ := Option.bind_eq_some_iff.mp hk
  obtain ⟨fs, ha, hkl, rfl⟩ := tm_sF_some hv
  obtain ⟨hx, hb, -, hown, hts, -, -, hK, -⟩ := C
  obtain ⟨hba, hat, hfg⟩ := hR.2.2.2 a _ ha
  obtain ⟨Cn, T, N, ty0, hc, hkN, hin, hty, hnm, hlink, hf, hd, hdecl⟩ := S
  have hP := tw_one hat
  have hap := va_apart (own := own) (N := N) (T := T) hts hin ty0 hty hnm hK hc
  obtain ⟨r, e1, cell, q1, q2, q3, q4⟩ := hat
  have hr : r = (Cn, T, N) := Option.some.inj (e1.symm.trans hc)
  subst hr
  obtain ⟨hS, hfc, kC, hkC, hkind⟩ := hK.1 ci _ hc
  obtain ⟨cf, kf, fi, f, hi, hsl⟩ := hS k hkN
  have hlay := hts _ (hin _ (u_in_lay hkN))
  have hst := (u_facts hfc hkC (u_lays hts hin hkN) hi).1
  have hl : k < (fs.map tw_fv).length := by rw [List.length_map]; exact hkl
  have fin2 : ∀ H' : Heap, H'[a]? = some (cell.setSlot (G.1.2 ci k) (tw_fv v)) → H'.size = H.size → (∀ q, q ≠ a → H'[q]? = H[q]?) → W p l e R s m args below meth c H' (locs ++ [⟨a, G.1.2 ci k⟩]) cells slots Q (F0 m (pc + 3) ls rest) := by
    intro H' g1 g2 g3
    refine kk _ H' _ (hR.set (o := .inl (ci, fs.set k v)) ha ⟨?_, ?_⟩ g2 g3) ?_ hF
    · rw [tw_map_set]
      exact ⟨_, hc, t_OB.to (V := updV (vp_V (fs.map tw_fv)) k (tw_fv v)) ⟨_, g1, q2, q3, t_set q4 hap hkN (tw_fv v)⟩ (fun j _ => vp_updV_set hl (tw_fv v) j)⟩
    · intro w hw
      rcases List.mem_or_eq_of_mem_set hw with z | z
      · exact hfg w z
      · rw [z]; exact hg
    · intro q hq
      rcases List.mem_append.mp hq with z | z
      · exact hL q z
      · rw [List.mem_singleton.mp z]; exact hba
  unfold u_lay at hlay
  by_cases hff : (T k).2.2.2 = true
  · rw [if_pos hff] at hlay
    have hft : fin = true := hf.symm.trans hff
    have hcf : m.cls = cf := by
      obtain ⟨_, _, c', _, _, _, -, -, hf', -, -, -, hown2, -⟩ := Cond.laysFinal_spec hlay
      have e2 : c' = cf := by have := hi.symm.trans hf'; simp at this; exact this.1.symm
      rw [hdecl hft] at hown2
      rw [← e2]; exact Option.some.inj (hown.symm.trans hown2)
    have h6 := u_fits hfc hkC hkind (Or.inr hlay) hi hd hn hfit
    refine W.putFinK hx hb hown (hts _ hlink) hi hst hcf (hfin hft) (by rw [q2]; exact h6) q1 q3 (by rw [hsl]; exact k2_hasslot (q4 k hkN)) rfl rfl hdg fun H' g1 g2 g3 => ?_
    rw [hsl] at g1 ⊢
    exact fin2 H' g1 g2 g3
  · rw [if_neg hff] at hlay
    have h6 := u_store hfc hkC hkind hlay hi hd hn hfit
    refine W.putK hx hb (f := f) ⟨hown, hts _ hlink, ⟨_, _, _, hi⟩, hst⟩ (by rw [q2]; exact h6) q1 q3 (by rw [hsl]; exact k2_hasslot (q4 k hkN)) rfl rfl hdg fun H' g1 g2 g3 => ?_
    rw [hsl] at g1 ⊢
    exact fin2 H' g1 g2 g3
theorem tw_putI (C : tw_C G p s m args meth c own cc nL ret) (hR : tw_Rel G sz h H) (hL : tw_L G locs) {ci k idx : Nat} {v : Int} (hg : tm_rg v) {F : tm_H → Option α} (hk : (tm_sF h ci k a (.inl v)).bind F = some x) (S : tw_fp own idx ci k false .int) (hdg : decode cc pc = .ok (.putfield idx, 3))
    (kk : ∀ (h1 : tm_H) (H1 : Heap) (locs1 : List Loc), tw_Rel G sz h1 H1 → tw_L G locs1 → F h1 = some x → W p l e R s m args below meth c H1 locs1 cells slots Q (F0 m (pc + 3) ls rest)) : W p l e R s m args below meth c H locs cells slots Q (F0 m pc ls (.int (tw_I v) :: .ref a :: rest)) :=
  tw_putV (v := .inl v) C hR hL (fun z => by cases z) hg rfl rfl hk S hdg kk
theorem tw_putR (C : tw_C G p s m args meth c own cc nL ret) (hR : tw_Rel G sz h H) (hL : tw_L G locs) (hin : meth.name = "<init>") {ci k idx b : Nat} {fin : Bool} {ty : FieldType} (hn : narrow ty (.ref b) = .ref b) (hfit : fits ty (.ref b) = true) {F : tm_H → Option α} (hk : (tm_sF h ci k a (.inr (some b))).bind F = some x) (S : tw_fp own idx ci k fin ty) (hdg : decode cc pc = .ok (.putfield idx, 3))
    (kk : ∀ (h1 : tm_H) (H1 : Heap) (locs1 : List Loc), tw_Rel G sz h1 H1 → tw_L G locs1 → F h1 = some x → W p l e R s m args below meth c H1 locs1 cells slots Q (F0 m (pc + 3) ls rest)) : W p l e R s m args below meth c H locs cells slots Q (F0 m pc ls (.ref b :: .ref a :: rest)) :=
  tw_putV (v := .inr (some b)) C hR hL (fun _ => hin) trivial hn hfit hk S hdg kk
/-! arrays -/
theorem tw_iald (C : tw_C G p s m args meth c own cc nL ret) (hR : tw_Rel G sz h H) {i : Int} {F : Int → Option α} (hk : (tm_lI h 0 a i).bind F = some x) (hdg : decode cc pc = .ok (.iaload, 1))
    (kk : ∀ v, tm_rg v → F v = some x → W p l e R s m args below meth c H locs cells slots Q (F0 m (pc + 1) ls (.int (tw_I v) :: rest))) : W p l e R s m args below meth c H locs cells slots Q (F0 m pc ls (.int (tw_I i) :: .ref a :: rest)) := by
  obtain ⟨v, hv, hF⟩ := Option.bind_eq_some_iff.mp hk
  obtain ⟨n, f, ha, h0, h1, rfl⟩ := tm_lI_some hv
  obtain ⟨hx, hb, -, hown, hts, -, -, hK, -⟩ := C
  obtain ⟨hba, hat, hn, ht, hg, -⟩ := hR.2.2.2 a _ ha
  have hw := kk _ (hg i.toNat) hF
  refine va_iald (f := fun j => tw_I (f j)) (n := n) (cA := G.2.1 0) hx hb hK (tw_one (q := (a, .inl (G.2.1 0, n, .inl (fun j => tw_I (f j))))) hat) 0 0 rfl rfl (tw_in h0 h1 hn) hdg ?_
  rw [tw_clamp h0 h1 hn]
  exact hw
theorem tw_zald (C : tw_C G p s m args meth c own cc nL ret) (hR : tw_Rel G sz h H) {i : Int} {F : Int → Option α} (hk : (tm_lI h 2 a i).bind F = some x) (hdg : decode cc pc = .ok (.baload, 1))
    (kk : ∀ v, tm_rg v → F v = some x → W p l e R s m args below meth c H locs cells slots Q (F0 m (pc + 1) ls (.int (tw_I v) :: rest))) : W p l e R s m args below meth c H locs cells slots Q (F0 m pc ls (.int (tw_I i) :: .ref a :: rest)) := by
  obtain ⟨v, hv, hF⟩ := Option.bind_eq_some_iff.mp hk
  obtain ⟨n, f, ha, h0, h1, rfl⟩ := tm_lI_some hv
  obtain ⟨hx, hb, -, hown, hts, -, -, hK, -⟩ := C
  obtain ⟨hba, hat, hn, ht, hg, -⟩ := hR.2.2.2 a _ ha
  have hw := kk _ (hg i.toNat) hF
  refine va_zald (f := fun j => tw_I (f j)) (n := n) (cA := G.2.1 2) hx hb hK (tw_one (q := (a, .inl (G.2.1 2, n, .inl (fun j => tw_I (f j))))) hat) 0 2 rfl rfl (tw_in h0 h1 hn) hdg ?_
  rw [tw_clamp h0 h1 hn]
  exact hw
theorem tw_lald (C : tw_C G p s m args meth c own cc nL ret) (hR : tw_Rel G sz h H) {i : Int} {F : Int64 → Option α} (hk : (tm_lL h 1 a i).bind F = some x) (hdg : decode cc pc = .ok (.laload, 1))
    (kk : ∀ v, F v = some x → W p l e R s m args below meth c H locs cells slots Q (F0 m (pc + 1) ls (.long v :: rest))) : W p l e R s m args below meth c H locs cells slots Q (F0 m pc ls (.int (tw_I i) :: .ref a :: rest)) := by
  obtain ⟨v, hv, hF⟩ := Option.bind_eq_some_iff.mp hk
  obtain ⟨n, f, ha, h0, h1, rfl⟩ := tm_lL_some hv
  obtain ⟨hx, hb, -, hown, hts, -, -, hK, -⟩ := C
  obtain ⟨hba, hat, hn, ht⟩ := hR.2.2.2 a _ ha
  have hw := kk _ hF
  refine va_lald (f := f) (n := n) (cA := G.2.1 1) hx hb hK (tw_one (q := (a, .inl (G.2.1 1, n, .inr (.inl f)))) hat) 0 1 rfl rfl (tw_in h0 h1 hn) hdg ?_
  rw [tw_clamp h0 h1 hn]
  exact hw
/-- the kinds of arrays of references -/
theorem tw_kinds {t : Nat} (ht : t = 3 ∨ t = 4 ∨ t = 5) : ∃ ty : FieldType, (tw_tys G)[t]? = some (G.2.1 t, ty) ∧ ty.isReference = true := by
  rcases ht with rfl | rfl | rfl
  · exact ⟨_, rfl, rfl⟩
  · exact ⟨_, rfl, rfl⟩
  · exact ⟨_, rfl, rfl⟩
theorem tw_aald (C : tw_C G p s m args meth c own cc nL ret) (hR : tw_Rel G sz h H) {t : Nat} {i : Int} {F : Nat → Option α} (hk : (tm_lR h t a i).bind F = some x) (hdg : decode cc pc = .ok (.aaload, 1))
    (kk : ∀ v, F v = some x → W p l e R s m args below meth c H locs cells slots Q (F0 m (pc + 1) ls (.ref v :: rest))) : W p l e R s m args below meth c H locs cells slots Q (F0 m pc ls (.int (tw_I i) :: .ref a :: rest)) := by
  obtain ⟨v, hv, hF⟩ := Option.bind_eq_some_iff.mp hk
  obtain ⟨n, f, ha, h0, h1, hfi⟩ := tm_lR_some hv
  obtain ⟨hx, hb, -, hown, hts, -, -, hK, -⟩ := C
  obtain ⟨hba, hat, hn, ht⟩ := hR.2.2.2 a _ ha
  obtain ⟨ty, hty, href⟩ := tw_kinds (G := G) ht
  have hlt : i.toNat < n := by omega
  refine W.aald (v := .ref v) (ty := ty) hx hb hat ((hK.2 t _ hty).1 n (fun j => va_rf (f j))) href (fun q => by cases q) (by show ¬ (_ ∨ (arrV _ _ _).slots.size ≤ _); rw [arrV_size]; exact tw_in h0 h1 hn) (by show (arrV _ _ _).slots[_]? = _; rw [tw_clamp h0 h1 hn, arrV_read _ _ hlt, hfi]; rfl) rfl rfl hdg (kk v hF)
theorem tw_alen (C : tw_C G p s m args meth c own cc nL ret) (hR : tw_Rel G sz h H) {t : Nat} {F : Int → Option α} (hk : (tm_len h t a).bind F = some x) (hdg : decode cc pc = .ok (.arraylength, 1))
    (kk : ∀ v, tm_rg v → F v = some x → W p l e R s m args below meth c H locs cells slots Q (F0 m (pc + 1) ls (.int (tw_I v) :: rest))) : W p l e R s m args below meth c H locs cells slots Q (F0 m pc ls (.ref a :: rest)) := by
  obtain ⟨v, hv, hF⟩ := Option.bind_eq_some_iff.mp hk
  obtain ⟨n, f, ha, rfl⟩ := tm_len_some hv
  obtain ⟨hx, hb, -, hown, hts, -, -, hK, -⟩ := C
  have hI : Int32.ofNat n = tw_I (n : Int) := (Int32.ofInt_eq_ofNat).symm
  obtain ⟨hba, hat⟩ := hR.2.2.2 a _ ha
  obtain f | f | f := f
  · obtain ⟨hat, hn, ht, -⟩ := hat
    have hw := kk (n : Int) (by unfold tm_rg; omega) hF
    rcases ht with rfl | rfl
    · exact va_alen (v := tw_I (n : Int)) hx hb hK (tw_one (q := (a, .inl (G.2.1 0, n, .inl (fun j => tw_I (f j))))) hat) 0 0 rfl rfl hI hdg hw
    · exact va_alen (v := tw_I (n : Int)) hx hb hK (tw_one (q := (a, .inl (G.2.1 2, n, .inl (fun j => tw_I (f j))))) hat) 0 2 rfl rfl hI hdg hw
  · obtain ⟨hat, hn, rfl⟩ := hat
    have hw := kk (n : Int) (by unfold tm_rg; omega) hF
    exact va_alen (v := tw_I (n : Int)) hx hb hK (tw_one (q := (a, .inl (G.2.1 1, n, .inr (.inl f)))) hat) 0 1 rfl rfl hI hdg hw
  · obtain ⟨hat, hn, ht⟩ := hat
    have hw := kk (n : Int) (by unfold tm_rg; omega) hF
    obtain ⟨ty, hty, href⟩ := tw_kinds (G := G) ht
    exact va_alen (v := tw_I (n : Int)) (ty := ty) hx hb hK (tw_one (q := (a, .inl (G.2.1 t, n, .inr (.inr (.inr (.inr f)))))) hat) 0 t rfl hty hI hdg hw
theorem tw_iast (C : tw_C G p s m args meth c own cc nL ret) (hR : tw_Rel G sz h H) (hL : tw_L G locs) {i v : Int} (hg : tm_rg v) {F : tm_H → Option α} (hk : (tm_wI h 0 a i v).bind F = some x) (hdg : decode cc pc = .ok (.iastore, 1))
    (kk : ∀ (h1 : tm_H) (H1 : Heap) (locs1 : List Loc), tw_Rel G sz h1 H1 → tw_L G locs1 → F h1 = some x → W p l e R s m args below meth c H1 locs1 cells slots Q (F0 m (pc + 1) ls rest)) : W p l e R s m args below meth c H locs cells slots Q (F0 m pc ls (.int (tw_I v) :: .int (tw_I i) :: .ref a :: rest)) := by
  obtain ⟨h1, hv, hF⟩ := Option.bind_eq_some_iff.mp hk
  obtain ⟨n, f, ha, h0, h1', rfl⟩ := tm_wI_some hv
  obtain ⟨hx, hb, -, hown, hts, -, -, hK, -⟩ := C
  obtain ⟨hba, hat, hn, ht, hgf, hz⟩ := hR.2.2.2 a _ ha
  refine W.iast hx hb hat ((hK.2 0 _ rfl).1 n (fun j => .int (tw_I (f j)))) (fun q => by cases q) (by show ¬ (_ ∨ (arrV _ _ _).slots.size ≤ _); rw [arrV_size]; exact tw_in h0 h1' hn) rfl rfl hdg fun H1 e1 z oq => ?_
  refine kk _ H1 _ (hR.set (o := .inr (0, n, .inl (tm_up f i.toNat v))) ha ⟨?_, hn, ht, ?_, fun z => by cases z⟩ z oq) ?_ hF
  · rw [e1, vp_cell_i, vp_cell_i, arrV_store, tw_clamp h0 h1' hn]
    congr 2
    funext q
    by_cases hq : q = i.toNat
    · subst hq
      simp [updV, tm_up]
    · simp [updV, tm_up, hq]
  · intro j
    by_cases hq : j = i.toNat
    · rw [hq, tm_up_self]; exact hg
    · rw [tm_up_ne hq]; exact hgf j
  · intro q hq
    rcases List.mem_append.mp hq with z | z
    · exact hL q z
    · rw [List.mem_singleton.mp z]; exact hba
theorem tw_zast (C : tw_C G p s m args meth c own cc nL ret) (hR : tw_Rel G sz h H) (hL : tw_L G locs) {i v : Int} {F : tm_H → Option α} (hk : (tm_wZ h 2 a i v).bind F = some x) (hdg : decode cc pc = .ok (.bastore, 1))
    (kk : ∀ (h1 : tm_H) (H1 : Heap) (locs1 : List Loc), tw_Rel G sz h1 H1 → tw_L G locs1 → F h1 = some x → W p l e R s m args below meth c H1 locs1 cells slots Q (F0 m (pc + 1) ls rest)) : W p l e R s m args below meth c H locs cells slots Q (F0 m pc ls (.int (tw_I v) :: .int (tw_I i) :: .ref a :: rest)) := by
  obtain ⟨h1, hv, hF⟩ := Option.bind_eq_some_iff.mp hk
  unfold tm_wZ at hv
  by_cases hb01 : v = 0 ∨ v = 1
  · rw [if_pos hb01] at hv
    obtain ⟨n, f, ha, h0, h1', rfl⟩ := tm_wI_some hv
    obtain ⟨hx, hb, -, hown, hts, -, -, hK, -⟩ := C
    obtain ⟨hba, hat, hn, ht, hgf, hz⟩ := hR.2.2.2 a _ ha
    have hnar : narrow .boolean (.int (tw_I v)) = .int (tw_I v) := by rcases hb01 with rfl | rfl <;> decide +kernel
    refine W.zast hx hb hat ((hK.2 2 _ rfl).1 n (fun j => .int (tw_I (f j)))) (fun q => by cases q) (by show ¬ (_ ∨ (arrV _ _ _).slots.size ≤ _); rw [arrV_size]; exact tw_in h0 h1' hn) rfl rfl hdg fun H1 e1 z oq => ?_
    refine kk _ H1 _ (hR.set (o := .inr (2, n, .inl (tm_up f i.toNat v))) ha ⟨?_, hn, ht, ?_, fun _ => ?_⟩ z oq) ?_ hF
    · rw [e1, hnar, vp_cell_i, vp_cell_i, arrV_store, tw_clamp h0 h1' hn]
      congr 2
      funext q
      by_cases hq : q = i.toNat
      · subst hq
        simp [updV, tm_up]
      · simp [updV, tm_up, hq]
    · intro j
      by_cases hq : j = i.toNat
      · rw [hq, tm_up_self]; rcases hb01 with rfl | rfl <;> (unfold tm_rg; omega)
      · rw [tm_up_ne hq]; exact hgf j
    · intro j
      by_cases hq : j = i.toNat
      · rw [hq, tm_up_self]; exact hb01
      · rw [tm_up_ne hq]; exact hz rfl j
    · intro q hq
      rcases List.mem_append.mp hq with z | z
      · exact hL q z
      · rw [List.mem_singleton.mp z]; exact hba
  · rw [if_neg hb01] at hv
    cases hv
theorem tw_last (C : tw_C G p s m args meth c own cc nL ret) (hR : tw_Rel G sz h H) (hL : tw_L G locs) {i : Int} {v : Int64} {F : tm_H → Option α} (hk : (tm_wL h 1 a i v).bind F = some x) (hdg : decode cc pc = .ok (.lastore, 1))
    (kk : ∀ (h1 : tm_H) (H1 : Heap) (locs1 : List Loc), tw_Rel G sz h1 H1 → tw_L G locs1 → F h1 = some x → W p l e R s m args below meth c H1 locs1 cells slots Q (F0 m (pc + 1) ls rest)) : W p l e R s m args below meth c H locs cells slots Q (F0 m pc ls (.long v :: .int (tw_I i) :: .ref a :: rest)) := by
  obtain ⟨h1, hv, hF⟩ := Option.bind_eq_some_iff.mp hk
  obtain ⟨n, f, ha, h0, h1', rfl⟩ := tm_wL_some hv
  obtain ⟨hx, hb, -, hown, hts, -, -, hK, -⟩ := C
  obtain ⟨hba, hat, hn, ht⟩ := hR.2.2.2 a _ ha
  refine W.last hx hb hat ((hK.2 1 _ rfl).1 n (fun j => .long (f j))) (fun q => by cases q) (by show ¬ (_ ∨ (arrV _ _ _).slots.size ≤ _); rw [arrV_size]; exact tw_in h0 h1' hn) rfl rfl hdg fun H1 e1 z oq => ?_
  refine kk _ H1 _ (hR.set (o := .inr (1, n, .inr (.inl (tm_up f i.toNat v)))) ha ⟨?_, hn, ht⟩ z oq) ?_ hF
  · rw [e1, vp_cell_l, vp_cell_l, arrV_store, tw_clamp h0 h1' hn]
    congr 2
    funext q
    by_cases hq : q = i.toNat
    · subst hq
      simp [updV, tm_up]
    · simp [updV, tm_up, hq]
  · intro q hq
    rcases List.mem_append.mp hq with z | z
    · exact hL q z
    · rw [List.mem_singleton.mp z]; exact hba
/-- what may stand in an array of references of kind t -/
def tw_ks (t c : Nat) : Prop := (t = 3 ∧ c = 0) ∨ (t = 4 ∧ c = 4) ∨ (t = 5 ∧ c = 100)
theorem tw_any (hK : va_K G.1 vwCl (tw_tys G) s) (h5 : tw_A5 G s) (hR : tw_Rel G sz h H) {t k b : Nat} (hs : tw_ks t k) (hk : tm_kd h k b = true) : ∃ (ty : FieldType) (cellV : Cell) (kA : Class) (comp : ClassId) (kE : Class) (kC : Class), (tw_tys G)[t]? = some (G.2.1 t, ty) ∧ ty.isReference = true ∧ H[b]? = some cellV ∧ cellV.vm = .none ∧ s.vm.classes[G.2.1 t]? = some kA ∧ kA.kind = .array comp ty ∧ s.vm.classes[comp]? = some kE ∧ s.vm.classes[cellV.cls]? = some kC ∧ s.vm.assignable cellV.cls comp = true := by
  have ob : ∀ {ci : Nat} {C : String} {T : u_T} {N : Nat}, vwCl[ci]? = some (C, T, N) → t = 3 ∨ t = 4 → (tw_tys G)[t]? = some (G.2.1 t, .object C) → (∃ fs, h b = some (.inl (ci, fs))) → ∃ (ty : FieldType) (cellV : Cell) (kA : Class) (comp : ClassId) (kE : Class) (kC : Class), (tw_tys G)[t]? = some (G.2.1 t, ty) ∧ ty.isReference = true ∧ H[b]? = some cellV ∧ cellV.vm = .none ∧ s.vm.classes[G.2.1 t]? = some kA ∧ kA.kind = .array comp ty ∧ s.vm.classes[comp]? = some kE ∧ s.vm.classes[cellV.cls]? = some kC ∧ s.vm.assignable cellV.cls comp = true := by
    intro ci C T N hc _ hty ⟨fs, hb⟩
    obtain ⟨-, ⟨r, e1, cellV, g1, g2, g3, -⟩, -⟩ := hR.2.2.2 b _ hb
    have hr : r = (C, T, N) := Option.some.inj (e1.symm.trans hc)
    subst hr
    have hcls := (hK.1 ci _ hc).2
    obtain ⟨kA, comp, k1, k2, k3, -⟩ := (hK.2 t _ hty).2
    have hcomp : comp = G.1.1 ci := Option.some.inj (k3.symm.trans hcls.1)
    subst hcomp
    obtain ⟨kC, hkC, -⟩ := hcls.2
    exact ⟨_, cellV, kA, _, kC, kC, hty, rfl, g1, g3, k1, k2, hkC, by rw [g2]; exact hkC, by rw [g2]; exact va_assign hcls⟩
  unfold tm_kd at hk
  rcases hs with ⟨rfl, rfl⟩ | ⟨rfl, rfl⟩ | ⟨rfl, rfl⟩
  · split at hk
    · rename_i c' fs heq
      have : c' = 0 := by simpa using hk
      subst this
      exact ob (ci := 0) rfl (Or.inl rfl) rfl ⟨fs, heq⟩
    · simp at hk
    · cases hk
  · split at hk
    · rename_i c' fs heq
      have : c' = 4 := by simpa using hk
      subst this
      exact ob (ci := 4) rfl (Or.inr rfl) rfl ⟨fs, heq⟩
    · simp at hk
    · cases hk
  · split at hk
    · rename_i c' fs heq
      have hc' : c' = 100 := by simpa using hk
      subst hc'
      obtain ⟨-, ⟨r, e1, -⟩, -⟩ := hR.2.2.2 b _ heq
      simp [vwCl] at e1
    · rename_i t' z heq
      have ht' : t' = 0 := by simpa using hk
      subst ht'
      obtain ⟨n, f | f | f⟩ := z
      · obtain ⟨-, hat, -⟩ := hR.2.2.2 b _ heq
        obtain ⟨kA, hkA, hkind⟩ := h5
        obtain ⟨-, k0, hk0, -⟩ := (hK.2 0 _ rfl).1 0 (fun _ => .null)
        exact ⟨.array .int, _, kA, G.2.1 0, k0, k0, rfl, rfl, hat, rfl, hkA, hkind, hk0, hk0, va_asg _ _⟩
      · obtain ⟨-, -, -, z⟩ := hR.2.2.2 b _ heq
        cases z
      · obtain ⟨-, -, -, z⟩ := hR.2.2.2 b _ heq
        rcases z with z | z | z <;> cases z
    · cases hk
theorem tw_aast (C : tw_C G p s m args meth c own cc nL ret) (hR : tw_Rel G sz h H) (hL : tw_L G locs) {t k b : Nat} {i : Int} (hs : tw_ks t k) {F : tm_H → Option α} (hk : (tm_wR h t a i k b).bind F = some x) (hdg : decode cc pc = .ok (.aastore, 1))
    (kk : ∀ (h1 : tm_H) (H1 : Heap) (locs1 : List Loc), tw_Rel G sz h1 H1 → tw_L G locs1 → F h1 = some x → W p l e R s m args below meth c H1 locs1 cells slots Q (F0 m (pc + 1) ls rest)) : W p l e R s m args below meth c H locs cells slots Q (F0 m pc ls (.ref b :: .int (tw_I i) :: .ref a :: rest)) := by
  obtain ⟨h1, hv, hF⟩ := Option.bind_eq_some_iff.mp hk
  obtain ⟨n, f, ha, h0, h1', hkd, rfl⟩ := tm_wR_some hv
  obtain ⟨hx, hb, -, hown, hts, -, -, hK, h5, -⟩ := C
  obtain ⟨hba, hat, hn, ht⟩ := hR.2.2.2 a _ ha
  obtain ⟨ty, cellV, kA, comp, kE, kC, e1, e2, e3, e4, e5, e6, e7, e8, e9⟩ := tw_any hK h5 hR hs hkd
  have hvi := tw_in h0 h1' hn
  refine W.aast hx hb hat (fun q z => by cases z) (fun z => by cases z) e5 e6 e2 e7 ⟨fun z => hvi (Or.inl z), by show _ < (arrV _ _ _).slots.size; rw [arrV_size, tw_clamp h0 h1' hn]; omega⟩ e3 (fun q z => by rw [e4] at z; cases z) e8 e9 rfl rfl hdg fun H1 g1 z oq => ?_
  refine kk _ H1 _ (hR.set (o := .inr (t, n, .inr (.inr (tm_up f i.toNat (some b))))) ha ⟨?_, hn, ht⟩ z oq) ?_ hF
  · rw [g1, vp_cell_q, vp_cell_q, arrV_store, tw_clamp h0 h1' hn]
    congr 2
    funext q
    by_cases hq : q = i.toNat
    · subst hq
      simp [updV, tm_up, va_rf]
    · simp [updV, tm_up, hq]
  · intro q hq
    rcases List.mem_append.mp hq with z | z
    · exact hL q z
    · rw [List.mem_singleton.mp z]; exact hba
end TW
