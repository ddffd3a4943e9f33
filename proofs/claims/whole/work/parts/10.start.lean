/-! the law from its entry: the tables' words give what the rows ask for -/
theorem tw_start_K {s : State} {b : Nat} (hts : ∀ w ∈ lw_tbl, w.before #[Value.ref b] s = true) (hgv : (Jvm.Cond.and given_1 narrow_1).before #[Value.ref b] s = true) : ∃ G : tw_G, G.2.2.1 = s.heap.size ∧ G.2.2.2.1 = s.heap ∧ tw_K G s := by
  have hTB : ∀ w ∈ tw_TB, w.before #[Value.ref b] s = true := fun w hw => hts w (List.mem_filter.mp hw).1
  have hs := flat_of_before _ hgv
  have hA : ∀ a : Nat, a < s.heap.size → ¬ (fun q : Nat => s.heap.size ≤ q) a := fun a h z => Nat.not_le.mpr h z
  obtain ⟨c0, i0, k0⟩ := u_known (C := RX0) (T := TX0) (N := 2) (n := 2) hTB cinX0 (hts (.instantiable RX0 2) (List.mem_of_getElem? (i := 105) (by decide +kernel)))
  obtain ⟨c1, i1, k1⟩ := u_known (C := RX1) (T := TX1) (N := 2) (n := 2) hTB cinX1 (hts (.instantiable RX1 2) (List.mem_of_getElem? (i := 166) (by decide +kernel)))
  obtain ⟨c2, i2, k2⟩ := u_known (C := RX2) (T := TX2) (N := 5) (n := 5) hTB cinX2 (hts (.instantiable RX2 5) (List.mem_of_getElem? (i := 182) (by decide +kernel)))
  obtain ⟨c3, i3, k3⟩ := u_known (C := RX3) (T := TX3) (N := 9) (n := 9) hTB cinX3 (hts (.instantiable RX3 9) (List.mem_of_getElem? (i := 221) (by decide +kernel)))
  obtain ⟨c4, i4, k4⟩ := u_known (C := RX4) (T := TX4) (N := 5) (n := 5) hTB cinX4 (hts (.instantiable RX4 5) (List.mem_of_getElem? (i := 77) (by decide +kernel)))
  obtain ⟨c5, i5, k5⟩ := u_known (C := RX5) (T := TX5) (N := 4) (n := 4) hTB cinX5 (hts (.instantiable RX5 4) (List.mem_of_getElem? (i := 120) (by decide +kernel)))
  obtain ⟨c6, i6, k6⟩ := u_known (C := RX6) (T := TX6) (N := 2) (n := 2) hTB cinX6 (hts (.instantiable RX6 2) (List.mem_of_getElem? (i := 188) (by decide +kernel)))
  obtain ⟨c7, i7, k7⟩ := u_known (C := RX7) (T := TX7) (N := 3) (n := 3) hTB cinX7 (hts (.instantiable RX7 3) (List.mem_of_getElem? (i := 83) (by decide +kernel)))
  obtain ⟨c8, i8, k8⟩ := u_known (C := RX8) (T := TX8) (N := 6) (n := 6) hTB cinX8 (hts (.instantiable RX8 6) (List.mem_of_getElem? (i := 69) (by decide +kernel)))
  obtain ⟨c9, i9, k9⟩ := u_known (C := RX9) (T := TX9) (N := 15) (n := 15) hTB cinX9 (hts (.instantiable RX9 15) (List.mem_of_getElem? (i := 788) (by decide +kernel)))
  obtain ⟨dC, dI, hKc⟩ : ∃ (dC : Nat → ClassId) (dI : Nat → Nat → Nat), ∀ (k : Nat) (q : vw_C), vwCl[k]? = some q → u_Kn s q.1 q.2.1 q.2.2 (dC k) (dI k) := by
    refine ⟨fun k => match k with | 0 => c0 | 1 => c1 | 2 => c2 | 3 => c3 | 4 => c4 | 5 => c5 | 6 => c6 | 7 => c7 | 8 => c8 | _ => c9, fun k => match k with | 0 => i0 | 1 => i1 | 2 => i2 | 3 => i3 | 4 => i4 | 5 => i5 | 6 => i6 | 7 => i7 | 8 => i8 | _ => i9, ?_⟩
    intro k q hq
    match k, hq with
    | 0, hq => cases hq; exact k0
    | 1, hq => cases hq; exact k1
    | 2, hq => cases hq; exact k2
    | 3, hq => cases hq; exact k3
    | 4, hq => cases hq; exact k4
    | 5, hq => cases hq; exact k5
    | 6, hq => cases hq; exact k6
    | 7, hq => cases hq; exact k7
    | 8, hq => cases hq; exact k8
    | 9, hq => cases hq; exact k9
    | k + 10, hq => simp [vwCl] at hq
  obtain ⟨aI, kI, pI, fI1, fI2, fI3⟩ := Cond.arrayClass_spec (hts (.arrayClass .int) (List.mem_of_getElem? (i := 103) (by decide +kernel)))
  obtain ⟨aJ, kJ, pJ, fJ1, fJ2, fJ3⟩ := Cond.arrayClass_spec (hts (.arrayClass .long) (List.mem_of_getElem? (i := 102) (by decide +kernel)))
  obtain ⟨aZ, kZ, pZ, fZ1, fZ2, fZ3⟩ := Cond.arrayClass_spec (hts (.arrayClass .boolean) (List.mem_of_getElem? (i := 139) (by decide +kernel)))
  have hoC := hts (.arrayOver (.object "TermMarks$Chapters")) (List.mem_of_getElem? (i := 140) (by decide +kernel))
  have hoS := hts (.arrayOver (.object "TermMarks$State")) (List.mem_of_getElem? (i := 172) (by decide +kernel))
  have hoI := hts (.arrayOver (.array .int)) (List.mem_of_getElem? (i := 111) (by decide +kernel))
  obtain ⟨pC, aC, kC, fC1, -, fC2, fC3, fC4⟩ := Cond.arrayOver_spec hoC
  obtain ⟨pS, aS, kS, fS1, -, fS2, fS3, fS4⟩ := Cond.arrayOver_spec hoS
  obtain ⟨pA, aA, kA, fA1, -, fA2, fA3, fA4⟩ := arrayOverA_spec hoI
  have hpA : pA = aI := Option.some.inj (fA1.symm.trans fI1)
  subst hpA
  obtain ⟨AK, hAK⟩ : ∃ AK : Nat → ClassId, AK 0 = pA ∧ AK 1 = aJ ∧ AK 2 = aZ ∧ AK 3 = aC ∧ AK 4 = aS ∧ AK 5 = aA := ⟨fun k => match k with | 0 => pA | 1 => aJ | 2 => aZ | 3 => aC | 4 => aS | _ => aA, rfl, rfl, rfl, rfl, rfl, rfl⟩
  obtain ⟨e0, e1, e2, e3, e4, e5⟩ := hAK
  subst e0; subst e1; subst e2; subst e3; subst e4; subst e5
  have cs : ∀ i : Nat, i < 3 → i = 0 ∨ i = 1 ∨ i = 2 := fun i hi => by omega
  obtain ⟨adK, adV, hSS, hEv⟩ := vk_Sof (args := #[Value.ref b]) (s := s) (N := 3) (tm := fun i => match i with | 0 => .string "TermMarks$Loader" 49 | 1 => .string "TermMarks$Loader" 59 | _ => .string "TermMarks$Loader" 64) (len := tw_sl) (byt := tw_sb) (A := fun q => s.heap.size ≤ q)
    (fun i hi => by rcases cs i hi with rfl | rfl | rfl <;> decide)
    (fun i hi => by rcases cs i hi with rfl | rfl | rfl <;> exact hs _ (by decide +kernel))
    (fun i hi => by rcases cs i hi with rfl | rfl | rfl <;> exact hs _ (by decide +kernel))
    (fun i hi => by rcases cs i hi with rfl | rfl | rfl <;> exact hs _ (by decide +kernel))
    (fun i hi => by rcases cs i hi with rfl | rfl | rfl <;> exact hs _ (by decide +kernel))
    (fun i hi j hj => by
      rcases cs i hi with rfl | rfl | rfl
      · have hj : j < 2 := hj
        rcases (show j = 0 ∨ j = 1 by omega) with rfl | rfl <;> exact hs _ (by decide +kernel)
      · have hj : j < 4 := hj
        rcases (show j = 0 ∨ j = 1 ∨ j = 2 ∨ j = 3 by omega) with rfl | rfl | rfl | rfl <;> exact hs _ (by decide +kernel)
      · have hj : j < 4 := hj
        rcases (show j = 0 ∨ j = 1 ∨ j = 2 ∨ j = 3 by omega) with rfl | rfl | rfl | rfl <;> exact hs _ (by decide +kernel))
    (fun i j hi hj hne => by
      rcases cs i hi with rfl | rfl | rfl <;> rcases cs j hj with rfl | rfl | rfl <;> first | exact absurd rfl hne | exact Or.inl (hs _ (by decide +kernel)) | exact Or.inr (hs _ (by decide +kernel)))
    hA
  refine ⟨((dC, dI), (AK, (s.heap.size, (s.heap, (adK, adV))))), rfl, rfl, ⟨hKc, ?_⟩, ⟨kA, fA2, fA3⟩, ⟨hSS, ?_, ?_, ?_, ?_, ?_⟩, ⟨hoC, hoS, hoI⟩, ?_⟩
  · intro k q hq
    match k, hq with
    | 0, hq => cases hq; exact ⟨fun n z => ⟨fun k h => (by cases h), kI, fI2, pI, fI3⟩, fI1⟩
    | 1, hq => cases hq; exact ⟨fun n z => ⟨fun k h => (by cases h), kJ, fJ2, pJ, fJ3⟩, fJ1⟩
    | 2, hq => cases hq; exact ⟨fun n z => ⟨fun k h => (by cases h), kZ, fZ2, pZ, fZ3⟩, fZ1⟩
    | 3, hq => cases hq; exact ⟨fun n z => ⟨fun k h => (by cases h), kC, fC2, pC, fC3⟩, kC, pC, fC2, fC3, fC1, fC4⟩
    | 4, hq => cases hq; exact ⟨fun n z => ⟨fun k h => (by cases h), kS, fS2, pS, fS3⟩, kS, pS, fS2, fS3, fS1, fS4⟩
    | 5, hq => cases hq; exact ⟨fun n z => ⟨fun k h => (by cases h), kA, fA2, _, fA3⟩, fA4⟩
    | k + 6, hq => simp [tw_tys] at hq
  · exact vk_R.of (hts (.stringRef RX2 49 "ch") (List.mem_of_getElem? (i := 570) (by decide +kernel))) (hEv 0 (by decide))
  · exact vk_R.of (hts (.stringRef RX2 59 "term") (List.mem_of_getElem? (i := 653) (by decide +kernel))) (hEv 1 (by decide))
  · exact vk_R.of (hts (.stringRef RX2 64 "form") (List.mem_of_getElem? (i := 661) (by decide +kernel))) (hEv 2 (by decide))
  · exact va_Zof (hts (.laysStatic "java/lang/String" "COMPACT_STRINGS" "Z") (List.mem_of_getElem? (i := 584) (by decide +kernel))) (hts (.initialized "java/lang/String") (List.mem_of_getElem? (i := 64) (by decide +kernel))) (va_eqi (hs (.eq (.static "java/lang/String" "COMPACT_STRINGS" "Z") (.int 1)) (by decide +kernel))) hA
  · exact va_Zqof (hts (.laysStatic "jdk/internal/util/Preconditions" "SIOOBE_FORMATTER" "Ljava/util/function/BiFunction;") (List.mem_of_getElem? (i := 600) (by decide +kernel))) (hts (.initialized "jdk/internal/util/Preconditions") (List.mem_of_getElem? (i := 66) (by decide +kernel))) (hs (.isRef (.static "jdk/internal/util/Preconditions" "SIOOBE_FORMATTER" "Ljava/util/function/BiFunction;")) (by decide +kernel)) hA
  · intro w hw
    have h1 := hts w (List.mem_filter.mp hw).1
    have h2 := (List.mem_filter.mp hw).2
    cases w <;> first | exact va_Nw.of rfl h1 | (cases h2)
set_option maxHeartbeats 4000000 in
/-- from the entry, for every script of at most 2560 ints, the law comes to its end with true -/
theorem whole_start {p : Program} {e : Env} {s : State} {m : MethodId} {below : List Frame} {meth : Method} {c : Code} (l : Launch) (hflags : l.flags = flags0) {b L : Nat} {xs : Nat → Int32} (hL : L ≤ 2560) (C0 : lw_At p s m meth c b L xs) : W p l e room_1 s m #[Value.ref b] below meth c s.heap [] 0 0 (lw_Z below #[Value.ref b] s) (entryFrame m ([Value.ref b] : List Value).toArray 4) := by
  obtain ⟨hx, hb, hr, hml, hown, hts, hX, hbl, hlocks, hgv⟩ := id C0
  obtain ⟨G, hbase, hheap, hK⟩ := tw_start_K hts hgv
  have hTB : ∀ w ∈ tw_TB, w.before #[Value.ref b] s = true := fun w hw => hts w (List.mem_filter.mp hw).1
  have hl := lv_entry ([.ref b]) (n := 4) (Nat.le_of_ble_eq_true rfl)
  rw [lg_entry_eq]
  generalize (lg_sl ([.ref b]) ++ List.replicate (4 - (lg_sl ([.ref b])).length) Slot.unset).toArray = ls at hl ⊢
  have hl : lv_has ls 4 [(0, .ref b)] := hl
  exact sL_law (G := G) ⟨hx, hb, hml, hown, hTB, hr, hlocks, hK⟩ (by rw [hheap]; exact hX) (by rw [hbase]; exact hbl) (by unfold tm_rg; omega) hbase s.heap.size (fun _ => none) 1 (tm_law_ok _ L s.heap.size (fun j => tm_i32_rg _) hL) rfl s.heap ls ⟨rfl, by rw [hbase]; exact Nat.le_refl _, fun q _ => by rw [hheap], fun a o h => by cases h⟩ hl
