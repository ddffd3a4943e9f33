/-! THE LAW'S OWN ROWS -/
def tw_Qo (r : Int) : Array Value → State → Outcome → State → Prop := fun _ _ o _ => o = .returned (some (.int (tw_I r)))
section TWL
variable {p : Program} {l : Launch} {e : Env} {R : Room} {s : State} {m : MethodId} {args : Array Value} {below : List Frame} {meth : Method} {c : Code} {H : Heap} {locs : List Loc} {cells slots : Nat} {Q : State → Prop}
variable {cc : ByteArray} {pc nL idx : Nat} {ls : Array Slot} {rest : List Value} {a b L : Nat} {G : tw_G} {sz : Nat} {h : tm_H} {own : String} {ret : Option FieldType} {α : Type} {x : α} {scr : tm_Xs}
theorem tw_I_xor (x y : Int) : tw_I x ^^^ tw_I y = tw_I (tm_xor x y) := by unfold tm_xor; rw [tw_I_of]; rfl
theorem tw_ixor (C : tw_C G p s m args meth c own cc nL ret) {x y : Int} (hdg : decode cc pc = .ok (.ixor, 1)) (kk : W p l e R s m args below meth c H locs cells slots Q (F0 m (pc + 1) ls (.int (tw_I (tm_xor x y)) :: rest))) : W p l e R s m args below meth c H locs cells slots Q (F0 m pc ls (.int (tw_I y) :: .int (tw_I x) :: rest)) :=
  lv_ixor C.1 C.2.1 hdg (by rw [tw_I_xor]; exact kk)
theorem tw_iushr (C : tw_C G p s m args meth c own cc nL ret) {x y : Int} (hdg : decode cc pc = .ok (.iushr, 1)) (kk : W p l e R s m args below meth c H locs cells slots Q (F0 m (pc + 1) ls (.int (tw_I (tm_ushr x y)) :: rest))) : W p l e R s m args below meth c H locs cells slots Q (F0 m pc ls (.int (tw_I y) :: .int (tw_I x) :: rest)) :=
  lv_iushr C.1 C.2.1 hdg (by unfold tm_ushr; rw [tw_I_of]; rfl) kk
theorem tw_irem (C : tw_C G p s m args meth c own cc nL ret) {x0 y : Int} (gy : tm_rg y) {F : Int → Option α} (hk : (tm_rem x0 y).bind F = some x) (hdg : decode cc pc = .ok (.irem, 1)) (kk : ∀ v, tm_rg v → F v = some x → W p l e R s m args below meth c H locs cells slots Q (F0 m (pc + 1) ls (.int (tw_I v) :: rest))) : W p l e R s m args below meth c H locs cells slots Q (F0 m pc ls (.int (tw_I y) :: .int (tw_I x0) :: rest)) := by
  obtain ⟨v, hv, hF⟩ := Option.bind_eq_some_iff.mp hk
  unfold tm_rem at hv
  by_cases h0 : y = 0
  · rw [if_pos h0] at hv
    cases hv
  · rw [if_neg h0] at hv
    have hv := Option.some.inj hv
    have hw := kk v (by rw [← hv]; exact tm_i32_rg _) hF
    rw [← hv, tw_I_of] at hw
    exact lv_irem C.1 C.2.1 hdg (fun z => h0 (by rw [← tw_I_zero] at z; exact (tw_I_eq gy tw_rg0).mp z)) hw
theorem tw_ldc (C : tw_C G p s m args meth c own cc nL ret) {index : Nat} {z : Int} {v : Int32} (hin : Cond.constant own index v ∈ tw_TB) (hv : v = tw_I z) (hdg : decode cc pc = .ok (.ldc index, 2)) (kk : W p l e R s m args below meth c H locs cells slots Q (F0 m (pc + 2) ls (.int (tw_I z) :: rest))) : W p l e R s m args below meth c H locs cells slots Q (F0 m pc ls rest) := by
  subst hv
  exact lv_ldc C.1 C.2.1 C.2.2.2.1 (C.2.2.2.2.1 _ hin) hdg kk
theorem tw_ldc2 (C : tw_C G p s m args meth c own cc nL ret) {index : Nat} {v : Int64} (hin : Cond.constantLong own index v ∈ tw_TB) (hdg : decode cc pc = .ok (.ldc2_w index, 3)) (kk : W p l e R s m args below meth c H locs cells slots Q (F0 m (pc + 3) ls (.long v :: rest))) : W p l e R s m args below meth c H locs cells slots Q (F0 m pc ls rest) :=
  lv_ldc2 C.1 C.2.1 C.2.2.2.1 (C.2.2.2.2.1 _ hin) hdg kk
theorem tw_scL (C : tw_C G p s m args meth c own cc nL ret) (gs : scr = tw_xs G) : tm_rg (scr.2 : Int) := by
  subst gs
  exact C.2.2.2.2.2.2.2.2.2.1.2.2
theorem tw_scld (C : tw_C G p s m args meth c own cc nL ret) (hR : tw_Rel G sz h H) (gs : scr = tw_xs G) {i : Int} {F : Int → Option α} (hk : (tm_sx scr i).bind F = some x) (hdg : decode cc pc = .ok (.iaload, 1))
    (kk : ∀ v, tm_rg v → F v = some x → W p l e R s m args below meth c H locs cells slots Q (F0 m (pc + 1) ls (.int (tw_I v) :: rest))) : W p l e R s m args below meth c H locs cells slots Q (F0 m pc ls (.int (tw_I i) :: .ref (tw_xb G) :: rest)) := by
  have hLg := tw_scL C gs
  subst gs
  obtain ⟨hX, hbb, -⟩ := C.2.2.2.2.2.2.2.2.2.1
  obtain ⟨v, hv, hF⟩ := Option.bind_eq_some_iff.mp hk
  unfold tm_sx at hv
  by_cases hi : 0 ≤ i ∧ i < (tw_xs G).2
  · rw [if_pos hi] at hv
    cases hv
    obtain ⟨scr, h1, h2, h3, h4, h5⟩ := hX
    have hi2 : i < (G.2.2.2.2.1.2 : Int) := hi.2
    have hLg2 : (G.2.2.2.2.1.2 : Int) < 2147483648 := hLg.2
    have hc : (tw_I i).toNatClampNeg = i.toNat := Int32.toNatClampNeg_ofInt_of_le (by omega) (by omega)
    have key : vp_in (tw_I i) G.2.2.2.2.1.2 ∧ (tw_I i).toNatClampNeg = i.toNat := by
      refine ⟨fun z => ?_, hc⟩
      rcases z with z | z
      · rw [← tw_I_zero, tw_I_lt (by unfold tm_rg; omega) tw_rg0] at z
        omega
      · rw [hc] at z; omega
    have hw := kk ((G.2.2.2.2.2 i.toNat).toInt) (tm_i32_rg _) hF
    rw [tw_I_of] at hw
    exact W.iald (v := .int (G.2.2.2.2.2 i.toNat)) C.1 C.2.1 (by rw [hR.2.2.1 _ hbb]; exact h1) h2 h3 (by rw [h4]; exact key.1) (by rw [key.2]; exact h5 _ (by omega)) rfl rfl hdg hw
  · rw [if_neg hi] at hv
    cases hv
theorem tw_scl (C : tw_C G p s m args meth c own cc nL ret) (hR : tw_Rel G sz h H) (gs : scr = tw_xs G) (hdg : decode cc pc = .ok (.arraylength, 1))
    (kk : W p l e R s m args below meth c H locs cells slots Q (F0 m (pc + 1) ls (.int (tw_I (scr.2 : Int)) :: rest))) : W p l e R s m args below meth c H locs cells slots Q (F0 m pc ls (.ref (tw_xb G) :: rest)) := by
  subst gs
  obtain ⟨⟨scr, h1, h2, h3, h4, h5⟩, hbb, -⟩ := C.2.2.2.2.2.2.2.2.2.1
  exact W.alen (n := Int32.ofNat G.2.2.2.2.1.2) C.1 C.2.1 (by rw [hR.2.2.1 _ hbb]; exact h1) h2 (by rw [h4] <;> rfl) rfl rfl hdg (by rw [show Int32.ofNat G.2.2.2.2.1.2 = tw_I (G.2.2.2.2.1.2 : Int) from (Int32.ofInt_eq_ofNat).symm]; exact kk)
theorem tw_oret {v r : Int} (C : tw_C G p s m args meth c own cc nL (some .boolean)) (hL : tw_L G locs) (hk : tm_zr v = some r) (hdg : decode cc pc = .ok (.ireturn, 1)) : W p l e R s m args below meth c H locs cells slots (MQ below (tw_Qo r) args s cells slots (tw_F G)) (F0 m pc ls [.int (tw_I v)]) := by
  unfold tm_zr at hk
  by_cases h01 : v = 0 ∨ v = 1
  · rw [if_pos h01] at hk
    cases hk
    exact W.zret C.1 C.2.1 C.2.2.2.2.2.1 (by rcases h01 with rfl | rfl <;> decide +kernel) (fun t ht hW => rfl) hL hdg (hlocks := C.2.2.2.2.2.2.1)
  · rw [if_neg h01] at hk
    cases hk
end TWL
