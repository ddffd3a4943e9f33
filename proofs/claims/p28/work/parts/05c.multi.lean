/-! new int[N][K] -/
theorem tm_nm_outer (c : ClassId) (N h0 : Nat) : ∀ i : Nat, Jvm.Free.Multi.outerC c N h0 i = arrV c N (fun j => va_rf (if j < i then some (h0 + 1 + j) else none))
  | 0 => by
    show ({ cls := c, slots := Array.replicate N .null, vm := .none } : Cell) = _
    rw [arrV_new]
    refine congrArg (arrV c N) (funext fun j => ?_)
    simp [va_rf]
  | i + 1 => by
    show (Jvm.Free.Multi.outerC c N h0 i).setSlot i (.ref (h0 + 1 + i)) = _
    rw [tm_nm_outer c N h0 i, arrV_store]
    refine congrArg (arrV c N) (funext fun j => ?_)
    by_cases e : j = i
    · subst e
      simp [updV, va_rf]
    · by_cases h : j < i
      · simp [updV, e, h, Nat.lt_succ_of_lt h]
      · simp [updV, e, h, show ¬ j < i + 1 by omega]
theorem tw_Rel.pushM {G : tw_G} {sz N K : Nat} {h : tm_H} {H H1 : Heap} (hR : tw_Rel G sz h H) (hK : K < 2147483648) (hN : N < 2147483648) (e : H1[sz]? = some (vp_cell (G.2.1 5) (N, .inr (.inr (.inr (.inr (fun i => if i < N then some (sz + 1 + i) else none))))))) (er : ∀ j, j < N → H1[sz + 1 + j]? = some (vp_cell (G.2.1 0) (K, .inl (fun _ => tw_I 0)))) (z : H1.size = sz + 1 + N) (oq : ∀ q : Nat, q < sz → H1[q]? = H[q]?) {h1 : tm_H} (hh : tm_nm h sz N K = some h1) : tw_Rel G (sz + 1 + N) h1 H1 := by
  unfold tm_nm at hh
  cases hh
  obtain ⟨r1, r2, r3, r4⟩ := hR
  refine ⟨z, by omega, fun q hq => (oq q (by omega)).trans (r3 q hq), fun b o' hb => ?_⟩
  dsimp only at hb
  by_cases h1 : b = sz
  · rw [if_pos h1] at hb
    cases hb
    subst h1
    exact ⟨r2, e, hN, Or.inr (Or.inr rfl)⟩
  · rw [if_neg h1] at hb
    by_cases h2 : sz < b ∧ b ≤ sz + N
    · rw [if_pos h2] at hb
      cases hb
      have := er (b - sz - 1) (by omega)
      rw [show sz + 1 + (b - sz - 1) = b by omega] at this
      exact ⟨by omega, this, hK, Or.inl rfl, fun _ => tw_rg0, fun z => by cases z⟩
    · rw [if_neg h2] at hb
      have hl := (r4 b o' hb).2.lt
      exact ⟨(r4 b o' hb).1, (r4 b o' hb).2.kept (oq b (by omega))⟩
section TW5
variable {p : Program} {l : Launch} {e : Env} {R : Room} {s : State} {m : MethodId} {args : Array Value} {below : List Frame} {meth : Method} {c : Code} {H : Heap} {locs : List Loc} {cells slots : Nat} {Q : State → Prop}
variable {cc : ByteArray} {pc nL : Nat} {ls : Array Slot} {rest : List Value} {a : Nat} {G : tw_G} {sz : Nat} {h : tm_H} {own : String} {ret : Option FieldType} {α : Type} {x : α}
theorem tw_nm (C : tw_C G p s m args meth c own cc nL ret) (hR : tw_Rel G sz h H) {idx : Nat} (hcl : Cond.classLink own idx "[[I" ∈ tw_TB) (hA : Cond.arrayClass .int ∈ tw_TB) (N K : Nat) (hN : N < 100000) (hK2 : K < 100000) {F : tm_H → Option α} (hk : (tm_nm h sz N K).bind F = some x) (hf : cells + (1 + N) ≤ R.cells ∧ slots + (N + N * K) ≤ R.slots) (hdg : decode cc pc = .ok (.multianewarray idx 2, 4))
    (kk : ∀ (h1 : tm_H) (H1 : Heap), tw_Rel G (sz + 1 + N) h1 H1 → F h1 = some x → W p l e R s m args below meth c H1 locs (cells + 1 + N) (slots + N + N * K) Q (F0 m (pc + 4) ls (.ref sz :: rest))) : W p l e R s m args below meth c H locs cells slots Q (F0 m pc ls (.int (tw_I K) :: .int (tw_I N) :: rest)) := by
  obtain ⟨h1, hv, hF⟩ := Option.bind_eq_some_iff.mp hk
  obtain ⟨hx, hb, -, hown, hts, -, -, hK, h5, -, hAO, -⟩ := C
  have g1 : (tw_I (N : Int)).toNatClampNeg = N := (Int32.toNatClampNeg_ofInt_of_le (by omega) (by omega)).trans (by simp)
  have g2 : ¬ tw_I (N : Int) < 0 := by rw [← tw_I_zero, tw_I_lt (by unfold tm_rg; omega) tw_rg0]; omega
  have k1 : (tw_I (K : Int)).toNatClampNeg = K := (Int32.toNatClampNeg_ofInt_of_le (by omega) (by omega)).trans (by simp)
  have k2 : ¬ tw_I (K : Int) < 0 := by rw [← tw_I_zero, tw_I_lt (by unfold tm_rg; omega) tw_rg0]; omega
  intro T hT X
  obtain ⟨vm₁, cA, comp, -, fA, fC, hO, -, X', step⟩ := X.multianewarray2F hx (ty := .int) hown (hts _ hcl) hAO.2.2 (hts _ hA) (g := F0 m pc ls (.int (tw_I K) :: .int (tw_I N) :: rest)) rfl (by rw [hb]; exact hdg) rfl g2 k2 (by rw [g1]; omega) (by rw [k1]; show K * 4 ≤ _; omega) (by rw [k1]; omega) rfl rfl (by rw [g1]; exact hf.1) (by rw [g1, k1]; exact hf.2)
  have hcA : cA = G.2.1 5 := Option.some.inj (fA.symm.trans (hK.2 5 _ rfl).2)
  have hco : comp = G.2.1 0 := Option.some.inj (fC.symm.trans (hK.2 0 _ rfl).2)
  subst hcA; subst hco
  rw [g1, k1] at X' step
  generalize hF : Jvm.Free.Multi.fill (T.setVm vm₁) (G.2.1 5) (G.2.1 0) N K (defaultValue .int) N = F' at X' step
  have hTh : (T.setVm vm₁).heap = H := hT
  obtain ⟨f1, f2, -, -⟩ := Jvm.Free.Multi.fill_facts (T.setVm vm₁) (G.2.1 5) (G.2.1 0) N K (defaultValue .int) N
  rw [hF, hTh] at f1 f2
  have hold : ∀ x : Nat, x < H.size → F'.heap[x]? = H[x]? := fun x hx => by
    have := Jvm.Free.Multi.fill_old (T.setVm vm₁) (G.2.1 5) (G.2.1 0) N K (defaultValue .int) (a := x) (by rw [hTh]; exact hx) N
    rw [hF, hTh] at this
    exact this
  have hrow : ∀ j : Nat, j < N → F'.heap[H.size + 1 + j]? = some (vp_cell (G.2.1 0) (K, .inl (fun _ => tw_I 0))) := fun j hj => by
    have := Jvm.Free.Multi.fill_inner (T.setVm vm₁) (G.2.1 5) (G.2.1 0) N K (defaultValue .int) N j hj
    rw [hF, hTh] at this
    rw [this]
    show some ({ cls := G.2.1 0, slots := Array.replicate K _, vm := .none } : Cell) = _
    rw [arrV_new]
    rfl
  rw [tm_nm_outer] at f2
  rw [hR.1] at f1 f2 hrow hold
  have e0 : T.heap.size = sz := by rw [hT]; exact hR.1
  rw [e0] at step
  obtain ⟨t, a1, b1⟩ := kk h1 F'.heap (hR.pushM (by omega) (by omega) f2 hrow (by rw [f1]) hold hv) ‹_› F' rfl X'
  exact ⟨t, step t a1, b1⟩
end TW5
