/-! the law from its entry: the tables' words give what the rows ask for -/
theorem tw_start_K {s : State} {b L : Nat} {xs : Nat → Int32} (hts : ∀ w ∈ lw_tbl, w.before #[Value.ref b] s = true) (hX : va_X b L xs s s.heap) (hbl : b < s.heap.size) (hLg : tm_rg (L : Int)) : ∃ G : tw_G, G.2.2.1 = s.heap.size ∧ G.2.2.2.1 = s.heap ∧ G.2.2.2.2.1.1 = b ∧ G.2.2.2.2.1.2 = L ∧ G.2.2.2.2.2 = xs ∧ tw_K G s := by
  have hTB : ∀ w ∈ tw_TB, w.before #[Value.ref b] s = true := fun w hw => hts w (List.mem_filter.mp hw).1
  have hA : ∀ a : Nat, a < s.heap.size → ¬ (fun q : Nat => s.heap.size ≤ q) a := fun a h z => Nat.not_le.mpr h z
  obtain ⟨c0, i0, k0⟩ := u_known (C := RX0) (T := TX0) (N := 2) (n := 2) hTB cinX0 (hts (.instantiable RX0 2) (List.mem_of_getElem? (i := 56) (by decide +kernel)))
  obtain ⟨c1, i1, k1⟩ := u_known (C := RX1) (T := TX1) (N := 2) (n := 2) hTB cinX1 (hts (.instantiable RX1 2) (List.mem_of_getElem? (i := 114) (by decide +kernel)))
  obtain ⟨c2, i2, k2⟩ := u_known (C := RX2) (T := TX2) (N := 5) (n := 5) hTB cinX2 (hts (.instantiable RX2 5) (List.mem_of_getElem? (i := 130) (by decide +kernel)))
  obtain ⟨c3, i3, k3⟩ := u_known (C := RX3) (T := TX3) (N := 9) (n := 9) hTB cinX3 (hts (.instantiable RX3 9) (List.mem_of_getElem? (i := 168) (by decide +kernel)))
  obtain ⟨c4, i4, k4⟩ := u_known (C := RX4) (T := TX4) (N := 5) (n := 5) hTB cinX4 (hts (.instantiable RX4 5) (List.mem_of_getElem? (i := 28) (by decide +kernel)))
  obtain ⟨c5, i5, k5⟩ := u_known (C := RX5) (T := TX5) (N := 4) (n := 4) hTB cinX5 (hts (.instantiable RX5 4) (List.mem_of_getElem? (i := 71) (by decide +kernel)))
  obtain ⟨c6, i6, k6⟩ := u_known (C := RX6) (T := TX6) (N := 2) (n := 2) hTB cinX6 (hts (.instantiable RX6 2) (List.mem_of_getElem? (i := 136) (by decide +kernel)))
  obtain ⟨c7, i7, k7⟩ := u_known (C := RX7) (T := TX7) (N := 3) (n := 3) hTB cinX7 (hts (.instantiable RX7 3) (List.mem_of_getElem? (i := 34) (by decide +kernel)))
  obtain ⟨c8, i8, k8⟩ := u_known (C := RX8) (T := TX8) (N := 6) (n := 6) hTB cinX8 (hts (.instantiable RX8 6) (List.mem_of_getElem? (i := 20) (by decide +kernel)))
  obtain ⟨dC, dI, hKc⟩ : ∃ (dC : Nat → ClassId) (dI : Nat → Nat → Nat), ∀ (k : Nat) (q : vw_C), vwCl[k]? = some q → u_Kn s q.1 q.2.1 q.2.2 (dC k) (dI k) := by
    refine ⟨fun k => match k with | 0 => c0 | 1 => c1 | 2 => c2 | 3 => c3 | 4 => c4 | 5 => c5 | 6 => c6 | 7 => c7 | _ => c8, fun k => match k with | 0 => i0 | 1 => i1 | 2 => i2 | 3 => i3 | 4 => i4 | 5 => i5 | 6 => i6 | 7 => i7 | _ => i8, ?_⟩
    intro k q hq
    match k, hq with
    | 0, hq => cases hq; exact k0
    | 1, hq => cases hq; exact k1
    | 2, hq => cases hq; exact k2
    | 3, hq => cases hq; exact k3
    | 4, hq => cases hq; exact k4
    | 5, hq => cases hq; exact k5
    | 6, hq => cases hq; exact k6
    | 7, hq => cases hq; exact k7
    | 8, hq => cases hq; exact k8
    | k + 9, hq => simp [vwCl] at hq
  obtain ⟨aI, kI, pI, fI1, fI2, fI3⟩ := Cond.arrayClass_spec (hts (.arrayClass .int) (List.mem_of_getElem? (i := 54) (by decide +kernel)))
  obtain ⟨aJ, kJ, pJ, fJ1, fJ2, fJ3⟩ := Cond.arrayClass_spec (hts (.arrayClass .long) (List.mem_of_getElem? (i := 53) (by decide +kernel)))
  obtain ⟨aZ, kZ, pZ, fZ1, fZ2, fZ3⟩ := Cond.arrayClass_spec (hts (.arrayClass .boolean) (List.mem_of_getElem? (i := 90) (by decide +kernel)))
  have hoC := hts (.arrayOver (.object "TermMarks$Chapters")) (List.mem_of_getElem? (i := 91) (by decide +kernel))
  have hoS := hts (.arrayOver (.object "TermMarks$State")) (List.mem_of_getElem? (i := 120) (by decide +kernel))
  have hoI := hts (.arrayOver (.array .int)) (List.mem_of_getElem? (i := 62) (by decide +kernel))
  obtain ⟨pC, aC, kC, fC1, -, fC2, fC3, fC4⟩ := Cond.arrayOver_spec hoC
  obtain ⟨pS, aS, kS, fS1, -, fS2, fS3, fS4⟩ := Cond.arrayOver_spec hoS
  obtain ⟨pA, aA, kA, fA1, -, fA2, fA3, fA4⟩ := arrayOverA_spec hoI
  have hpA : pA = aI := Option.some.inj (fA1.symm.trans fI1)
  subst hpA
  obtain ⟨AK, hAK⟩ : ∃ AK : Nat → ClassId, AK 0 = pA ∧ AK 1 = aJ ∧ AK 2 = aZ ∧ AK 3 = aC ∧ AK 4 = aS ∧ AK 5 = aA := ⟨fun k => match k with | 0 => pA | 1 => aJ | 2 => aZ | 3 => aC | 4 => aS | _ => aA, rfl, rfl, rfl, rfl, rfl, rfl⟩
  obtain ⟨e0, e1, e2, e3, e4, e5⟩ := hAK
  subst e0; subst e1; subst e2; subst e3; subst e4; subst e5
  refine ⟨((dC, dI), (AK, (s.heap.size, (s.heap, ((b, L), xs))))), rfl, rfl, rfl, rfl, rfl, ⟨hKc, ?_⟩, ⟨kA, fA2, fA3⟩, ⟨hX, hbl, hLg⟩, ⟨hoC, hoS, hoI⟩, ?_⟩
  · intro k q hq
    match k, hq with
    | 0, hq => cases hq; exact ⟨fun n z => ⟨fun k h => (by cases h), kI, fI2, pI, fI3⟩, fI1⟩
    | 1, hq => cases hq; exact ⟨fun n z => ⟨fun k h => (by cases h), kJ, fJ2, pJ, fJ3⟩, fJ1⟩
    | 2, hq => cases hq; exact ⟨fun n z => ⟨fun k h => (by cases h), kZ, fZ2, pZ, fZ3⟩, fZ1⟩
    | 3, hq => cases hq; exact ⟨fun n z => ⟨fun k h => (by cases h), kC, fC2, pC, fC3⟩, kC, pC, fC2, fC3, fC1, fC4⟩
    | 4, hq => cases hq; exact ⟨fun n z => ⟨fun k h => (by cases h), kS, fS2, pS, fS3⟩, kS, pS, fS2, fS3, fS1, fS4⟩
    | 5, hq => cases hq; exact ⟨fun n z => ⟨fun k h => (by cases h), kA, fA2, _, fA3⟩, fA4⟩
    | k + 6, hq => simp [tw_tys] at hq
  · intro w hw
    have h1 := hts w (List.mem_filter.mp hw).1
    have h2 := (List.mem_filter.mp hw).2
    cases w <;> first | exact va_Nw.of rfl h1 | (cases h2)
section TWE
variable {p : Program} {l : Launch} {e : Env} {s : State} {m : MethodId} {below : List Frame} {meth : Method} {c : Code} {H : Heap} {G : tw_G}
/-- a walk whose answer is 1, as the claim has it -/
theorem tw_lawend {b k n : Nat} {g : JFrame} (K : W p l e room_1 s m #[Value.ref b] below meth c H [] 0 0 (MQ below (tw_Qo 1) #[Value.ref b] s k n (tw_F G)) g) (hbase : G.2.2.1 = s.heap.size) (hk : k ≤ 600000) (hn : n ≤ 7302250) : W p l e room_1 s m #[Value.ref b] below meth c H [] 0 0 (lw_Z below #[Value.ref b] s) g := by
  intro T hT X
  obtain ⟨t, a1, o, b1, b2, b3, L, ⟨b4, b5, b6⟩, b7⟩ := K T hT X
  refine ⟨t, a1, o, b1, b2, ?_⟩
  have e : o = .returned (some (.int 1)) := by
    have z : o = .returned (some (.int (tw_I 1))) := b3
    rw [z]
    decide
  refine ⟨e, b4, b5, ?_⟩
  obtain ⟨c1, c2, c3, c4, c5, c6⟩ := b6.mono hk hn
  refine ⟨c1, c2, c3, c4, c5, fun a cl ha => ?_⟩
  obtain ⟨c', d1, d2, d3, d4⟩ := c6 a cl ha
  refine ⟨c', d1, d2, d3, fun i _ => d4 i (fun z => ?_)⟩
  have h1 := b7 _ z
  have h2 : a < s.heap.size := (Array.getElem?_eq_some_iff.mp ha).1
  have h3 : G.2.2.1 ≤ a := h1
  rw [hbase] at h3
  exact absurd h2 (Nat.not_lt.mpr h3)
end TWE
set_option maxHeartbeats 4000000 in
/-- from the entry, for every script of at most 260 ints, the law comes to its end with true -/
theorem whole_start {p : Program} {e : Env} {s : State} {m : MethodId} {below : List Frame} {meth : Method} {c : Code} (l : Launch) (hflags : l.flags = flags0) {b L : Nat} {xs : Nat → Int32} (hL : L ≤ 260) (C0 : lw_At p s m meth c b L xs) : W p l e room_1 s m #[Value.ref b] below meth c s.heap [] 0 0 (lw_Z below #[Value.ref b] s) (entryFrame m ([Value.ref b] : List Value).toArray 12) := by
  obtain ⟨hx, hb, hr, hml, hown, hts, hX, hbl, hlocks, hgv⟩ := id C0
  obtain ⟨G, hbase, hheap, eb, eL, ex, hK⟩ := tw_start_K hts hX hbl (by unfold tm_rg; omega)
  have hTB : ∀ w ∈ tw_TB, w.before #[Value.ref b] s = true := fun w hw => hts w (List.mem_filter.mp hw).1
  have hl := lv_entry ([.ref b]) (n := 12) (Nat.le_of_ble_eq_true rfl)
  rw [lg_entry_eq]
  generalize (lg_sl ([.ref b]) ++ List.replicate (12 - (lg_sl ([.ref b])).length) Slot.unset).toArray = ls at hl ⊢
  have hl : lv_has ls 12 [(0, .ref (tw_xb G))] := by
    unfold tw_xb
    rw [eb]
    exact hl
  refine tw_lawend (G := G) (wL_law (l := l) G s.heap.size ⟨hx, hb, hml, hown, hTB, hr, hlocks, hK⟩ (tw_xs G) rfl (fun _ => none) 1 (tm_law_ok _ s.heap.size) s.heap ls ⟨rfl, by rw [hbase]; exact Nat.le_refl _, fun q _ => by rw [hheap], fun a o h => by cases h⟩ hl) hbase (Nat.le_of_ble_eq_true rfl) (Nat.le_of_ble_eq_true rfl)
