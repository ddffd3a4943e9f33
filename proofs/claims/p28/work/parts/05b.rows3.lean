/-! new objects and arrays, copies -/
theorem tm_cpI_some {h h' : tm_H} {t a b : Nat} {sp dp n : Int} (e : tm_cpI h t a sp b dp n = some h') : ∃ n1 f n2 g, h a = some (.inr (t, n1, .inl f)) ∧ h b = some (.inr (t, n2, .inl g)) ∧ a ≠ b ∧ 0 ≤ sp ∧ 0 ≤ dp ∧ 0 ≤ n ∧ sp + n ≤ n1 ∧ dp + n ≤ n2 ∧ h' = tm_up h b (some (.inr (t, n2, .inl (tm_cy f g sp.toNat dp.toNat n.toNat)))) := by
  unfold tm_cpI at e
  split at e
  · rename_i t1 n1 f t2 n2 g e1 e2
    split at e
    · rename_i hc
      obtain ⟨rfl, rfl, h1, h2, h3, h4, h5, h6⟩ := hc
      cases e
      exact ⟨n1, f, n2, g, e1, e2, h1, h2, h3, h4, h5, h6, rfl⟩
    · cases e
  · cases e
theorem tm_cpL_some {h h' : tm_H} {t a b : Nat} {sp dp n : Int} (e : tm_cpL h t a sp b dp n = some h') : ∃ n1 f n2 g, h a = some (.inr (t, n1, .inr (.inl f))) ∧ h b = some (.inr (t, n2, .inr (.inl g))) ∧ a ≠ b ∧ 0 ≤ sp ∧ 0 ≤ dp ∧ 0 ≤ n ∧ sp + n ≤ n1 ∧ dp + n ≤ n2 ∧ h' = tm_up h b (some (.inr (t, n2, .inr (.inl (tm_cy f g sp.toNat dp.toNat n.toNat))))) := by
  unfold tm_cpL at e
  split at e
  · rename_i t1 n1 f t2 n2 g e1 e2
    split at e
    · rename_i hc
      obtain ⟨rfl, rfl, h1, h2, h3, h4, h5, h6⟩ := hc
      cases e
      exact ⟨n1, f, n2, g, e1, e2, h1, h2, h3, h4, h5, h6, rfl⟩
    · cases e
  · cases e
theorem tm_nw_some {h h' : tm_H} {n : Nat} {o : tm_Ob} (e : tm_nw h n o = some h') : h' = tm_up h n (some o) := by unfold tm_nw at e; cases e; rfl
theorem tw_Rel.push {G : tw_G} {sz : Nat} {h : tm_H} {H H1 : Heap} {o : tm_Ob} (hR : tw_Rel G sz h H) (e : tw_cell G sz o H1) (z : H1.size = sz + 1) (oq : ∀ q : Nat, q < sz → H1[q]? = H[q]?) : tw_Rel G (sz + 1) (tm_up h sz (some o)) H1 := by
  obtain ⟨r1, r2, r3, r4⟩ := hR
  refine ⟨z, by omega, fun q hq => (oq q (by omega)).trans (r3 q hq), fun b o' hb => ?_⟩
  by_cases hab : b = sz
  · subst hab
    rw [tm_up_self] at hb
    cases hb
    exact ⟨r2, e⟩
  · rw [tm_up_ne hab] at hb
    have hl := (r4 b o' hb).2.lt
    exact ⟨(r4 b o' hb).1, (r4 b o' hb).2.kept (oq b (by omega))⟩
def tw_nwS (own : String) (idx ci N : Nat) (fs : List tm_Fv) : Prop := ∃ (C : String) (T : u_T) (ty : Nat → FieldType), vwCl[ci]? = some (C, T, N) ∧ (∀ w ∈ u_ws C T N, w ∈ tw_TB) ∧ (∀ k, k < N → parseFieldDescriptor (T k).2.2.1 = some (ty k)) ∧ Cond.classLink own idx C ∈ tw_TB ∧ Cond.instantiable C N ∈ tw_TB ∧ Cond.initialized C ∈ tw_TB ∧ (∀ j, j < N → defaultValue (ty j) = vp_V (fs.map tw_fv) j) ∧ ∀ v ∈ fs, tw_fg v
theorem tw_cons {a b : Nat} {P : tm_Fv → Prop} {v : tm_Fv} {l : List tm_Fv} (h : P v) (t : ∀ w ∈ l, P w) : ∀ w ∈ v :: l, P w := List.forall_mem_cons.mpr ⟨h, t⟩
section TW4
variable {p : Program} {l : Launch} {e : Env} {R : Room} {s : State} {m : MethodId} {args : Array Value} {below : List Frame} {meth : Method} {c : Code} {H : Heap} {locs : List Loc} {cells slots : Nat} {Q : State → Prop}
variable {cc : ByteArray} {pc nL : Nat} {ls : Array Slot} {rest : List Value} {a : Nat} {G : tw_G} {sz : Nat} {h : tm_H} {own : String} {ret : Option FieldType} {α : Type} {x : α}
theorem tw_objInit (C : tw_C G p s m args meth c own cc nL ret) {idx : Nat} (hl : Cond.methodLink own idx objectInit ∈ tw_TB) (hI : Cond.instanceMethod objectInit ∈ tw_TB) (hc : Cond.code objectInit ⟨#[0xb1]⟩ 1 none ∈ tw_TB) (hsz : ls.size = nL) (hdg : decode cc pc = .ok (.invokespecial idx, 3)) (hfr : 1 ≤ R.frames) (hlo : (rest.map fun v => v.category).sum + 12 ≤ R.locals)
    (kk : W p l e R s m args below meth c H locs cells slots Q (F0 m (pc + 3) ls rest)) : W p l e R s m args below meth c H locs cells slots Q (F0 m pc ls (.ref a :: rest)) :=
  W.objInit C.1 C.2.1 C.2.2.2.1 (C.2.2.2.2.1 _ hl) (C.2.2.2.2.1 _ hI) (C.2.2.2.2.1 _ hc) rfl (hsz.trans C.2.2.1.symm) rfl hdg hfr (by show 2 * 0 + _ + 12 ≤ _; omega) kk
theorem tw_new (C : tw_C G p s m args meth c own cc nL ret) (hR : tw_Rel G sz h H) {idx ci N : Nat} {fs : List tm_Fv} (S : tw_nwS own idx ci N fs) {F : tm_H → Option α} (hk : (tm_nw h sz (.inl (ci, fs))).bind F = some x) (hf : cells + 1 ≤ R.cells ∧ slots + N ≤ R.slots) (hdg : decode cc pc = .ok (.new idx, 3))
    (kk : ∀ (h1 : tm_H) (H1 : Heap), tw_Rel G (sz + 1) h1 H1 → F h1 = some x → W p l e R s m args below meth c H1 locs (cells + 1) (slots + N) Q (F0 m (pc + 3) ls (.ref sz :: rest))) : W p l e R s m args below meth c H locs cells slots Q (F0 m pc ls rest) := by
  obtain ⟨h1, hv, hF⟩ := Option.bind_eq_some_iff.mp hk
  have e1 := tm_nw_some hv
  subst e1
  obtain ⟨hx, hb, -, hown, hts, -, -, hK, -⟩ := C
  obtain ⟨Cn, T, ty, hc, hin, hty, hcl, hins, hini, hfs, hfg⟩ := S
  have hKn := hK.1 ci _ hc
  refine W.newcK hx hb hown (hts _ hcl) (hts _ hins) (hts _ hini) rfl hdg hf.1 hf.2 hKn.2.1 hR.1 fun H1 kC hkC e1 z1 o1 => ?_
  exact kk _ H1 (hR.push (o := .inl (ci, fs)) ⟨⟨_, hc, (u_born ty hts hin hKn hkC e1 hty).to hfs⟩, hfg⟩ z1 o1) hF
theorem tw_nai (C : tw_C G p s m args meth c own cc nL ret) (hR : tw_Rel G sz h H) (hA : Cond.arrayClass .int ∈ tw_TB) (N : Nat) (hN : N < 100000) {F : tm_H → Option α} (hk : (tm_nw h sz (.inr (0, N, .inl (fun _ => 0)))).bind F = some x) (hf : cells + 1 ≤ R.cells ∧ slots + N ≤ R.slots) (hdg : decode cc pc = .ok (.newarray .int, 2))
    (kk : ∀ (h1 : tm_H) (H1 : Heap), tw_Rel G (sz + 1) h1 H1 → F h1 = some x → W p l e R s m args below meth c H1 locs (cells + 1) (slots + N) Q (F0 m (pc + 2) ls (.ref sz :: rest))) : W p l e R s m args below meth c H locs cells slots Q (F0 m pc ls (.int (tw_I N) :: rest)) := by
  obtain ⟨h1, hv, hF⟩ := Option.bind_eq_some_iff.mp hk
  have e1 := tm_nw_some hv
  subst e1
  obtain ⟨hx, hb, -, hown, hts, -, -, hK, -⟩ := C
  have g1 : (tw_I (N : Int)).toNatClampNeg = N := (Int32.toNatClampNeg_ofInt_of_le (by omega) (by omega)).trans (by simp)
  have g2 : ¬ tw_I (N : Int) < 0 := by rw [← tw_I_zero, tw_I_lt (by unfold tm_rg; omega) tw_rg0]; omega
  refine va_newaK (atype := .int) hx hb (hts _ hA) rfl hdg rfl g2 g1 (by show N * 4 ≤ _; omega) hf.1 hf.2 hR.1 fun H1 cA e1 z1 o1 hAr hNm => ?_
  have hcA : cA = G.2.1 0 := Option.some.inj (hNm.symm.trans (hK.2 0 _ rfl).2)
  subst hcA
  exact kk _ H1 (hR.push (o := .inr (0, N, .inl (fun _ => 0))) ⟨e1, by omega, Or.inl rfl, fun _ => tw_rg0, fun z => by cases z⟩ z1 o1) hF
theorem tw_nab (C : tw_C G p s m args meth c own cc nL ret) (hR : tw_Rel G sz h H) (hA : Cond.arrayClass .boolean ∈ tw_TB) (N : Nat) (hN : N < 100000) {F : tm_H → Option α} (hk : (tm_nw h sz (.inr (2, N, .inl (fun _ => 0)))).bind F = some x) (hf : cells + 1 ≤ R.cells ∧ slots + N ≤ R.slots) (hdg : decode cc pc = .ok (.newarray .boolean, 2))
    (kk : ∀ (h1 : tm_H) (H1 : Heap), tw_Rel G (sz + 1) h1 H1 → F h1 = some x → W p l e R s m args below meth c H1 locs (cells + 1) (slots + N) Q (F0 m (pc + 2) ls (.ref sz :: rest))) : W p l e R s m args below meth c H locs cells slots Q (F0 m pc ls (.int (tw_I N) :: rest)) := by
  obtain ⟨h1, hv, hF⟩ := Option.bind_eq_some_iff.mp hk
  have e1 := tm_nw_some hv
  subst e1
  obtain ⟨hx, hb, -, hown, hts, -, -, hK, -⟩ := C
  have g1 : (tw_I (N : Int)).toNatClampNeg = N := (Int32.toNatClampNeg_ofInt_of_le (by omega) (by omega)).trans (by simp)
  have g2 : ¬ tw_I (N : Int) < 0 := by rw [← tw_I_zero, tw_I_lt (by unfold tm_rg; omega) tw_rg0]; omega
  refine va_newaK (atype := .boolean) hx hb (hts _ hA) rfl hdg rfl g2 g1 (by show N * 1 ≤ _; omega) hf.1 hf.2 hR.1 fun H1 cA e1 z1 o1 hAr hNm => ?_
  have hcA : cA = G.2.1 2 := Option.some.inj (hNm.symm.trans (hK.2 2 _ rfl).2)
  subst hcA
  exact kk _ H1 (hR.push (o := .inr (2, N, .inl (fun _ => 0))) ⟨e1, by omega, Or.inr rfl, fun _ => tw_rg0, fun _ _ => Or.inl rfl⟩ z1 o1) hF
theorem tw_nal (C : tw_C G p s m args meth c own cc nL ret) (hR : tw_Rel G sz h H) (hA : Cond.arrayClass .long ∈ tw_TB) (N : Nat) (hN : N < 100000) {F : tm_H → Option α} (hk : (tm_nw h sz (.inr (1, N, .inr (.inl (fun _ => 0))))).bind F = some x) (hf : cells + 1 ≤ R.cells ∧ slots + N ≤ R.slots) (hdg : decode cc pc = .ok (.newarray .long, 2))
    (kk : ∀ (h1 : tm_H) (H1 : Heap), tw_Rel G (sz + 1) h1 H1 → F h1 = some x → W p l e R s m args below meth c H1 locs (cells + 1) (slots + N) Q (F0 m (pc + 2) ls (.ref sz :: rest))) : W p l e R s m args below meth c H locs cells slots Q (F0 m pc ls (.int (tw_I N) :: rest)) := by
  obtain ⟨h1, hv, hF⟩ := Option.bind_eq_some_iff.mp hk
  have e1 := tm_nw_some hv
  subst e1
  obtain ⟨hx, hb, -, hown, hts, -, -, hK, -⟩ := C
  have g1 : (tw_I (N : Int)).toNatClampNeg = N := (Int32.toNatClampNeg_ofInt_of_le (by omega) (by omega)).trans (by simp)
  have g2 : ¬ tw_I (N : Int) < 0 := by rw [← tw_I_zero, tw_I_lt (by unfold tm_rg; omega) tw_rg0]; omega
  refine va_newaK (atype := .long) hx hb (hts _ hA) rfl hdg rfl g2 g1 (by show N * 8 ≤ _; omega) hf.1 hf.2 hR.1 fun H1 cA e1 z1 o1 hAr hNm => ?_
  have hcA : cA = G.2.1 1 := Option.some.inj (hNm.symm.trans (hK.2 1 _ rfl).2)
  subst hcA
  exact kk _ H1 (hR.push (o := .inr (1, N, .inr (.inl (fun _ => 0)))) ⟨e1, by omega, rfl⟩ z1 o1) hF
/-- arrays of objects: kind 3 of Chapters, kind 4 of State -/
def tw_anS (own : String) (idx t : Nat) (C : String) : Prop := Cond.classLink own idx C ∈ tw_TB ∧ ((t = 3 ∧ C = "TermMarks$Chapters") ∨ (t = 4 ∧ C = "TermMarks$State"))
theorem tw_naq (C : tw_C G p s m args meth c own cc nL ret) (hR : tw_Rel G sz h H) {idx t : Nat} {Cn : String} (S : tw_anS own idx t Cn) (N : Nat) (hN : N < 100000) {F : tm_H → Option α} (hk : (tm_nw h sz (.inr (t, N, .inr (.inr (fun _ => none))))).bind F = some x) (hf : cells + 1 ≤ R.cells ∧ slots + N ≤ R.slots) (hdg : decode cc pc = .ok (.anewarray idx, 3))
    (kk : ∀ (h1 : tm_H) (H1 : Heap), tw_Rel G (sz + 1) h1 H1 → F h1 = some x → W p l e R s m args below meth c H1 locs (cells + 1) (slots + N) Q (F0 m (pc + 3) ls (.ref sz :: rest))) : W p l e R s m args below meth c H locs cells slots Q (F0 m pc ls (.int (tw_I N) :: rest)) := by
  obtain ⟨h1, hv, hF⟩ := Option.bind_eq_some_iff.mp hk
  have e1 := tm_nw_some hv
  subst e1
  obtain ⟨hx, hb, -, hown, hts, -, -, hK, -, -, hAO, -⟩ := C
  have g1 : (tw_I (N : Int)).toNatClampNeg = N := (Int32.toNatClampNeg_ofInt_of_le (by omega) (by omega)).trans (by simp)
  have g2 : ¬ tw_I (N : Int) < 0 := by rw [← tw_I_zero, tw_I_lt (by unfold tm_rg; omega) tw_rg0]; omega
  obtain ⟨hcl, hS⟩ := S
  have hav : va_AO Cn s ∧ (tw_tys G)[t]? = some (G.2.1 t, .object Cn) ∧ (t = 3 ∨ t = 4 ∨ t = 5) := by
    rcases hS with ⟨rfl, rfl⟩ | ⟨rfl, rfl⟩
    · exact ⟨hAO.1, rfl, Or.inl rfl⟩
    · exact ⟨hAO.2.1, rfl, Or.inr (Or.inl rfl)⟩
  obtain ⟨kA', comp', k1, k2, k3, k4⟩ := (hK.2 t _ hav.2.1).2
  refine W.anew hx hb hown (hts _ hcl) (va_AO.use hav.1) rfl hdg rfl g2 (by rw [g1]; omega) hf.1 (by rw [g1]; exact hf.2) fun cA kA comp f1 f2 f3 f4 => ?_
  have hcA : cA = G.2.1 t := Option.some.inj (f1.symm.trans k4)
  subst hcA
  rw [g1]
  generalize hH1 : H.push ({ cls := G.2.1 t, slots := Array.replicate N .null, vm := .none } : Cell) = H1
  have z1 : H1.size = sz + 1 := by rw [← hH1, Array.size_push, hR.1]
  have e1 : H1[sz]? = some (arrV (G.2.1 t) N (fun _ => .null)) := by rw [← hH1, ← hR.1, Array.getElem?_push_size, ← arrV_new]
  have o1 : ∀ q : Nat, q < sz → H1[q]? = H[q]? := fun q hq => by rw [← hH1, Array.getElem?_push, if_neg (by rw [hR.1]; exact Nat.ne_of_lt hq)]
  rw [hR.1]
  exact kk _ H1 (hR.push (o := .inr (t, N, .inr (.inr (fun _ => none)))) ⟨e1, by omega, hav.2.2⟩ z1 o1) hF
theorem tw_nn {z : Int} {n : Nat} (h0 : 0 ≤ z) (h1 : z ≤ n) (hn : n < 2147483648) : ¬ tw_I z < 0 ∧ (tw_I z).toNatClampNeg = z.toNat ∧ (tw_I z).toInt = z := by
  have hg : tm_rg z := by unfold tm_rg; omega
  refine ⟨?_, Int32.toNatClampNeg_ofInt_of_le (by omega) (by omega), tw_I_toInt hg⟩
  rw [← tw_I_zero, tw_I_lt hg tw_rg0]
  omega
theorem tw_cpi (C : tw_C G p s m args meth c own cc nL ret) (hR : tw_Rel G sz h H) (hL : tw_L G locs) {idx a0 : Nat} {sp dp n : Int} (hl : Cond.methodLink own idx arraycopyName ∈ tw_TB) (hN : Cond.native arraycopyName ∈ tw_TB ∧ Cond.static arraycopyName ∈ tw_TB ∧ Cond.initialized "java/lang/System" ∈ tw_TB) (hsz : ls.size = nL) {F : tm_H → Option α} (hk : (tm_cpI h 0 a0 sp a dp n).bind F = some x) (hfr : 1 ≤ R.frames) (hlo : (rest.map fun v => v.category).sum + (nativeFrameWords "java/lang/System" "arraycopy" 5 + 11) ≤ R.locals) (hdg : decode cc pc = .ok (.invokestatic idx, 3))
    (kk : ∀ (h1 : tm_H) (H1 : Heap) (locs1 : List Loc), tw_Rel G sz h1 H1 → tw_L G locs1 → F h1 = some x → W p l e R s m args below meth c H1 locs1 cells slots Q (F0 m (pc + 3) ls rest)) : W p l e R s m args below meth c H locs cells slots Q (F0 m pc ls (.int (tw_I n) :: .int (tw_I dp) :: .ref a :: .int (tw_I sp) :: .ref a0 :: rest)) := by
  obtain ⟨h1, hv, hF⟩ := Option.bind_eq_some_iff.mp hk
  obtain ⟨n0, f, n1, g, ha0, ha1, hne, z1, z2, z3, z4, z5, rfl⟩ := tm_cpI_some hv
  obtain ⟨hx, hb, hml, hown, hts, -, -, hK, -⟩ := C
  obtain ⟨-, hc0, hn0, -, hg0, -⟩ := hR.2.2.2 a0 _ ha0
  obtain ⟨hba, hc1, hn1, -, hg1, -⟩ := hR.2.2.2 a _ ha1
  obtain ⟨p1, p2, p3⟩ := tw_nn z1 (show sp ≤ n0 by omega) hn0
  obtain ⟨q1, q2, q3⟩ := tw_nn z2 (show dp ≤ n1 by omega) hn1
  obtain ⟨r1, r2, r3⟩ := tw_nn z3 (show n ≤ n0 by omega) hn0
  obtain ⟨-, k0, hk0, cm0, hkk0⟩ := (hK.2 0 _ rfl).1 n0 (fun j => .int (tw_I (f j)))
  obtain ⟨-, k1, hk1, cm1, hkk1⟩ := (hK.2 0 _ rfl).1 n1 (fun j => .int (tw_I (g j)))
  intro T hT X
  obtain ⟨vm', X', step⟩ := X.arraycopy hx hown (hts _ hl) (hts _ hN.1) (hts _ hN.2.1) (hts _ hN.2.2) (src := a0) (dst := a) (cs := vp_cell (G.2.1 0) (n0, .inl (fun j => tw_I (f j)))) (cd := vp_cell (G.2.1 0) (n1, .inl (fun j => tw_I (g j)))) (srcPos := tw_I sp) (destPos := tw_I dp) (n := tw_I n) (by rw [hT]; exact hc0) (by rw [hT]; exact hc1)
    (fun _ h => by cases h) (fun _ h => by cases h) (fun h => by cases h) (fun h => by cases h) hk0 hk1 hkk0 hkk1 rfl p1 q1 r1
    (by rw [p3, r3]; show ¬ _ > ((arrV (G.2.1 0) n0 (fun j => .int (tw_I (f j)))).slots.size : Int); rw [arrV_size]; omega)
    (by rw [q3, r3]; show ¬ _ > ((arrV (G.2.1 0) n1 (fun j => .int (tw_I (g j)))).slots.size : Int); rw [arrV_size]; omega)
    (fun vm₁ _ i hi => by
      rw [r2] at hi
      have e : (vp_cell (G.2.1 0) (n0, .inl (fun j => tw_I (f j)))).slots.getD ((tw_I sp).toNatClampNeg + i) .null = .int (tw_I (f ((tw_I sp).toNatClampNeg + i))) := by
        show (arrV (G.2.1 0) n0 (fun j => .int (tw_I (f j)))).slots.getD _ _ = _
        rw [Array.getD_eq_getD_getElem?, arrV_read _ _ (by rw [p2]; omega)]
        rfl
      rw [e]
      exact ⟨rfl, trivial⟩)
    (g := F0 m pc ls (.int (tw_I n) :: .int (tw_I dp) :: .ref a :: .int (tw_I sp) :: .ref a0 :: rest)) rfl (hsz.trans hml.symm) (rest := rest) rfl (by rw [hb]; exact hdg) hfr (by show 2 * 0 + _ + _ ≤ _; omega)
  have e1 : copied (vp_cell (G.2.1 0) (n0, .inl (fun j => tw_I (f j)))) (vp_cell (G.2.1 0) (n1, .inl (fun j => tw_I (g j)))) (tw_I sp) (tw_I dp) (tw_I n) = vp_cell (G.2.1 0) (n1, .inl (fun j => tw_I (tm_cy f g sp.toNat dp.toNat n.toNat j))) := by
    have e2 := va_copied (fun z => Value.int (tw_I z)) (G.2.1 0) (G.2.1 0) (n0 := n0) (n1 := n1) (sp := (tw_I sp).toNatClampNeg) (dp := (tw_I dp).toNatClampNeg) (n := (tw_I n).toNatClampNeg) f g (by rw [p2, r2]; omega)
    refine Eq.trans e2 ?_
    rw [p2, q2, r2]
    rfl
  rw [e1] at X' step
  have hla : a < H.size := (Array.getElem?_eq_some_iff.mp hc1).1
  have hheap : ((T.setVm vm').setCell a (vp_cell (G.2.1 0) (n1, .inl (fun j => tw_I (tm_cy f g sp.toNat dp.toNat n.toNat j))))).heap = H.setIfInBounds a (vp_cell (G.2.1 0) (n1, .inl (fun j => tw_I (tm_cy f g sp.toNat dp.toNat n.toNat j)))) := by rw [← hT]; rfl
  have oq : ∀ q : Nat, q ≠ a → (H.setIfInBounds a (vp_cell (G.2.1 0) (n1, .inl (fun j => tw_I (tm_cy f g sp.toNat dp.toNat n.toNat j)))))[q]? = H[q]? := fun q hq => by simp [Array.getElem?_setIfInBounds, Ne.symm hq]
  obtain ⟨t, a1, b1⟩ := kk _ _ _ (hR.set (o := .inr (0, n1, .inl (tm_cy f g sp.toNat dp.toNat n.toNat))) ha1 ⟨by simp [Array.getElem?_setIfInBounds, hla], hn1, Or.inl rfl, fun j => by
      unfold tm_cy
      split
      · exact hg0 _
      · exact hg1 _, fun z => by cases z⟩ (by simp) oq) (fun q hq => by
      rcases List.mem_append.mp hq with w | w
      · exact hL q w
      · obtain ⟨z, -, hz⟩ := List.mem_map.mp w
        rw [← hz]
        exact hba) hF _ hheap X'
  exact ⟨t, step t a1, b1⟩
theorem tw_cpl (C : tw_C G p s m args meth c own cc nL ret) (hR : tw_Rel G sz h H) (hL : tw_L G locs) {idx a0 : Nat} {sp dp n : Int} (hl : Cond.methodLink own idx arraycopyName ∈ tw_TB) (hN : Cond.native arraycopyName ∈ tw_TB ∧ Cond.static arraycopyName ∈ tw_TB ∧ Cond.initialized "java/lang/System" ∈ tw_TB) (hsz : ls.size = nL) {F : tm_H → Option α} (hk : (tm_cpL h 1 a0 sp a dp n).bind F = some x) (hfr : 1 ≤ R.frames) (hlo : (rest.map fun v => v.category).sum + (nativeFrameWords "java/lang/System" "arraycopy" 5 + 11) ≤ R.locals) (hdg : decode cc pc = .ok (.invokestatic idx, 3))
    (kk : ∀ (h1 : tm_H) (H1 : Heap) (locs1 : List Loc), tw_Rel G sz h1 H1 → tw_L G locs1 → F h1 = some x → W p l e R s m args below meth c H1 locs1 cells slots Q (F0 m (pc + 3) ls rest)) : W p l e R s m args below meth c H locs cells slots Q (F0 m pc ls (.int (tw_I n) :: .int (tw_I dp) :: .ref a :: .int (tw_I sp) :: .ref a0 :: rest)) := by
  obtain ⟨h1, hv, hF⟩ := Option.bind_eq_some_iff.mp hk
  obtain ⟨n0, f, n1, g, ha0, ha1, hne, z1, z2, z3, z4, z5, rfl⟩ := tm_cpL_some hv
  obtain ⟨hx, hb, hml, hown, hts, -, -, hK, -⟩ := C
  obtain ⟨-, hc0, hn0, -⟩ := hR.2.2.2 a0 _ ha0
  obtain ⟨hba, hc1, hn1, -⟩ := hR.2.2.2 a _ ha1
  obtain ⟨p1, p2, p3⟩ := tw_nn z1 (show sp ≤ n0 by omega) hn0
  obtain ⟨q1, q2, q3⟩ := tw_nn z2 (show dp ≤ n1 by omega) hn1
  obtain ⟨r1, r2, r3⟩ := tw_nn z3 (show n ≤ n0 by omega) hn0
  obtain ⟨-, k0, hk0, cm0, hkk0⟩ := (hK.2 1 _ rfl).1 n0 (fun j => .long (f j))
  obtain ⟨-, k1, hk1, cm1, hkk1⟩ := (hK.2 1 _ rfl).1 n1 (fun j => .long (g j))
  intro T hT X
  obtain ⟨vm', X', step⟩ := X.arraycopy hx hown (hts _ hl) (hts _ hN.1) (hts _ hN.2.1) (hts _ hN.2.2) (src := a0) (dst := a) (cs := vp_cell (G.2.1 1) (n0, .inr (.inl f))) (cd := vp_cell (G.2.1 1) (n1, .inr (.inl g))) (srcPos := tw_I sp) (destPos := tw_I dp) (n := tw_I n) (by rw [hT]; exact hc0) (by rw [hT]; exact hc1)
    (fun _ h => by cases h) (fun _ h => by cases h) (fun h => by cases h) (fun h => by cases h) hk0 hk1 hkk0 hkk1 rfl p1 q1 r1
    (by rw [p3, r3]; show ¬ _ > ((arrV (G.2.1 1) n0 (fun j => .long (f j))).slots.size : Int); rw [arrV_size]; omega)
    (by rw [q3, r3]; show ¬ _ > ((arrV (G.2.1 1) n1 (fun j => .long (g j))).slots.size : Int); rw [arrV_size]; omega)
    (fun vm₁ _ i hi => by
      rw [r2] at hi
      have e : (vp_cell (G.2.1 1) (n0, .inr (.inl f))).slots.getD ((tw_I sp).toNatClampNeg + i) .null = .long (f ((tw_I sp).toNatClampNeg + i)) := by
        show (arrV (G.2.1 1) n0 (fun j => .long (f j))).slots.getD _ _ = _
        rw [Array.getD_eq_getD_getElem?, arrV_read _ _ (by rw [p2]; omega)]
        rfl
      rw [e]
      exact ⟨rfl, trivial⟩)
    (g := F0 m pc ls (.int (tw_I n) :: .int (tw_I dp) :: .ref a :: .int (tw_I sp) :: .ref a0 :: rest)) rfl (hsz.trans hml.symm) (rest := rest) rfl (by rw [hb]; exact hdg) hfr (by show 2 * 0 + _ + _ ≤ _; omega)
  have e1 : copied (vp_cell (G.2.1 1) (n0, .inr (.inl f))) (vp_cell (G.2.1 1) (n1, .inr (.inl g))) (tw_I sp) (tw_I dp) (tw_I n) = vp_cell (G.2.1 1) (n1, .inr (.inl (tm_cy f g sp.toNat dp.toNat n.toNat))) := by
    have e2 := va_copied (fun z => Value.long z) (G.2.1 1) (G.2.1 1) (n0 := n0) (n1 := n1) (sp := (tw_I sp).toNatClampNeg) (dp := (tw_I dp).toNatClampNeg) (n := (tw_I n).toNatClampNeg) f g (by rw [p2, r2]; omega)
    refine Eq.trans e2 ?_
    rw [p2, q2, r2]
    rfl
  rw [e1] at X' step
  have hla : a < H.size := (Array.getElem?_eq_some_iff.mp hc1).1
  have hheap : ((T.setVm vm').setCell a (vp_cell (G.2.1 1) (n1, .inr (.inl (tm_cy f g sp.toNat dp.toNat n.toNat))))).heap = H.setIfInBounds a (vp_cell (G.2.1 1) (n1, .inr (.inl (tm_cy f g sp.toNat dp.toNat n.toNat)))) := by rw [← hT]; rfl
  have oq : ∀ q : Nat, q ≠ a → (H.setIfInBounds a (vp_cell (G.2.1 1) (n1, .inr (.inl (tm_cy f g sp.toNat dp.toNat n.toNat)))))[q]? = H[q]? := fun q hq => by simp [Array.getElem?_setIfInBounds, Ne.symm hq]
  obtain ⟨t, a1, b1⟩ := kk _ _ _ (hR.set (o := .inr (1, n1, .inr (.inl (tm_cy f g sp.toNat dp.toNat n.toNat)))) ha1 ⟨by simp [Array.getElem?_setIfInBounds, hla], hn1, rfl⟩ (by simp) oq) (fun q hq => by
      rcases List.mem_append.mp hq with w | w
      · exact hL q w
      · obtain ⟨z, -, hz⟩ := List.mem_map.mp w
        rw [← hz]
        exact hba) hF _ hheap X'
  exact ⟨t, step t a1, b1⟩
end TW4
