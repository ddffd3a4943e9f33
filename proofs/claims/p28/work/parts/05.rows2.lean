section TW2
variable {p : Program} {l : Launch} {e : Env} {R : Room} {s : State} {m : MethodId} {args : Array Value} {below : List Frame} {meth : Method} {c : Code} {H : Heap} {locs : List Loc} {cells slots : Nat} {Q : State → Prop}
variable {cc : ByteArray} {pc nL : Nat} {ls : Array Slot} {rest : List Value} {a : Nat} {G : tw_G} {sz : Nat} {h : tm_H} {own : String} {ret : Option FieldType} {α : Type} {x : α}
theorem tw_I_and (x y : Int) : tw_I x &&& tw_I y = tw_I (tm_and x y) := by unfold tm_and; rw [tw_I_of]; rfl
theorem tw_I_or (x y : Int) : tw_I x ||| tw_I y = tw_I (tm_or x y) := by unfold tm_or; rw [tw_I_of]; rfl
theorem tw_I_shl (x y : Int) : tw_I x <<< (tw_I y &&& 31) = tw_I (tm_shl x y) := by unfold tm_shl; rw [tw_I_of]; rfl
theorem tw_I_shr (x y : Int) : tw_I x >>> (tw_I y &&& 31) = tw_I (tm_shr x y) := by unfold tm_shr; rw [tw_I_of]; rfl
theorem tm_and_rg (x y : Int) : tm_rg (tm_and x y) := tm_i32_rg _
theorem tm_or_rg (x y : Int) : tm_rg (tm_or x y) := tm_i32_rg _
theorem tm_shl_rg (x y : Int) : tm_rg (tm_shl x y) := tm_i32_rg _
theorem tm_shr_rg (x y : Int) : tm_rg (tm_shr x y) := tm_i32_rg _
theorem tm_l2i_rg (x : Int64) : tm_rg (tm_l2i x) := tm_i32_rg _
def tm_lcmp (x y : Int64) : Int := (lg_cmp x y).toInt
theorem tm_lcmp_rg (x y : Int64) : tm_rg (tm_lcmp x y) := tm_i32_rg _
theorem tw_iadd (C : tw_C G p s m args meth c own cc nL ret) {x y : Int} (hdg : decode cc pc = .ok (.iadd, 1)) (kk : W p l e R s m args below meth c H locs cells slots Q (F0 m (pc + 1) ls (.int (tw_I (tm_wr (x + y))) :: rest))) : W p l e R s m args below meth c H locs cells slots Q (F0 m pc ls (.int (tw_I y) :: .int (tw_I x) :: rest)) :=
  lv_iadd C.1 C.2.1 hdg (by rw [tw_I_add]; exact kk)
theorem tw_isub (C : tw_C G p s m args meth c own cc nL ret) {x y : Int} (hdg : decode cc pc = .ok (.isub, 1)) (kk : W p l e R s m args below meth c H locs cells slots Q (F0 m (pc + 1) ls (.int (tw_I (tm_wr (x - y))) :: rest))) : W p l e R s m args below meth c H locs cells slots Q (F0 m pc ls (.int (tw_I y) :: .int (tw_I x) :: rest)) :=
  lv_isub C.1 C.2.1 hdg (by rw [tw_I_sub]; exact kk)
theorem tw_imul (C : tw_C G p s m args meth c own cc nL ret) {x y : Int} (hdg : decode cc pc = .ok (.imul, 1)) (kk : W p l e R s m args below meth c H locs cells slots Q (F0 m (pc + 1) ls (.int (tw_I (tm_wr (x * y))) :: rest))) : W p l e R s m args below meth c H locs cells slots Q (F0 m pc ls (.int (tw_I y) :: .int (tw_I x) :: rest)) :=
  lv_imul C.1 C.2.1 hdg (by rw [tw_I_mul]; exact kk)
theorem tw_iand (C : tw_C G p s m args meth c own cc nL ret) {x y : Int} (hdg : decode cc pc = .ok (.iand, 1)) (kk : W p l e R s m args below meth c H locs cells slots Q (F0 m (pc + 1) ls (.int (tw_I (tm_and x y)) :: rest))) : W p l e R s m args below meth c H locs cells slots Q (F0 m pc ls (.int (tw_I y) :: .int (tw_I x) :: rest)) :=
  lv_iand C.1 C.2.1 hdg (by rw [tw_I_and]; exact kk)
theorem tw_ior (C : tw_C G p s m args meth c own cc nL ret) {x y : Int} (hdg : decode cc pc = .ok (.ior, 1)) (kk : W p l e R s m args below meth c H locs cells slots Q (F0 m (pc + 1) ls (.int (tw_I (tm_or x y)) :: rest))) : W p l e R s m args below meth c H locs cells slots Q (F0 m pc ls (.int (tw_I y) :: .int (tw_I x) :: rest)) :=
  lv_ior C.1 C.2.1 hdg (by rw [tw_I_or]; exact kk)
theorem tw_ishl (C : tw_C G p s m args meth c own cc nL ret) {x y : Int} (hdg : decode cc pc = .ok (.ishl, 1)) (kk : W p l e R s m args below meth c H locs cells slots Q (F0 m (pc + 1) ls (.int (tw_I (tm_shl x y)) :: rest))) : W p l e R s m args below meth c H locs cells slots Q (F0 m pc ls (.int (tw_I y) :: .int (tw_I x) :: rest)) :=
  lv_ishl C.1 C.2.1 hdg (by rw [tw_I_shl]; exact kk)
theorem tw_ishr (C : tw_C G p s m args meth c own cc nL ret) {x y : Int} (hdg : decode cc pc = .ok (.ishr, 1)) (kk : W p l e R s m args below meth c H locs cells slots Q (F0 m (pc + 1) ls (.int (tw_I (tm_shr x y)) :: rest))) : W p l e R s m args below meth c H locs cells slots Q (F0 m pc ls (.int (tw_I y) :: .int (tw_I x) :: rest)) :=
  lv_ishr C.1 C.2.1 hdg (by rw [tw_I_shr]; exact kk)
theorem tw_i2l (C : tw_C G p s m args meth c own cc nL ret) {x : Int} (hdg : decode cc pc = .ok (.i2l, 1)) (kk : W p l e R s m args below meth c H locs cells slots Q (F0 m (pc + 1) ls (.long (tm_i2l x) :: rest))) : W p l e R s m args below meth c H locs cells slots Q (F0 m pc ls (.int (tw_I x) :: rest)) :=
  lv_i2l C.1 C.2.1 hdg rfl kk
theorem tw_l2i (C : tw_C G p s m args meth c own cc nL ret) {x : Int64} (hdg : decode cc pc = .ok (.l2i, 1)) (kk : W p l e R s m args below meth c H locs cells slots Q (F0 m (pc + 1) ls (.int (tw_I (tm_l2i x)) :: rest))) : W p l e R s m args below meth c H locs cells slots Q (F0 m pc ls (.long x :: rest)) :=
  lv_l2i C.1 C.2.1 hdg (by unfold tm_l2i; rw [tw_I_of]) kk
theorem tw_lshl (C : tw_C G p s m args meth c own cc nL ret) {x : Int64} {y : Int} (hdg : decode cc pc = .ok (.lshl, 1)) (kk : W p l e R s m args below meth c H locs cells slots Q (F0 m (pc + 1) ls (.long (tm_lshl x y) :: rest))) : W p l e R s m args below meth c H locs cells slots Q (F0 m pc ls (.int (tw_I y) :: .long x :: rest)) :=
  lv_lshl C.1 C.2.1 hdg rfl kk
theorem tw_lushr (C : tw_C G p s m args meth c own cc nL ret) {x : Int64} {y : Int} (hdg : decode cc pc = .ok (.lushr, 1)) (kk : W p l e R s m args below meth c H locs cells slots Q (F0 m (pc + 1) ls (.long (tm_lushr x y) :: rest))) : W p l e R s m args below meth c H locs cells slots Q (F0 m pc ls (.int (tw_I y) :: .long x :: rest)) :=
  lv_lushr C.1 C.2.1 hdg rfl kk
theorem tw_lcmp (C : tw_C G p s m args meth c own cc nL ret) {x y : Int64} (hdg : decode cc pc = .ok (.lcmp, 1)) (kk : W p l e R s m args below meth c H locs cells slots Q (F0 m (pc + 1) ls (.int (tw_I (tm_lcmp x y)) :: rest))) : W p l e R s m args below meth c H locs cells slots Q (F0 m pc ls (.long y :: .long x :: rest)) :=
  W.lcmp C.1 C.2.1 hdg (by unfold tm_lcmp at kk; rw [tw_I_of] at kk; exact kk)
theorem tw_iinc (C : tw_C G p s m args meth c own cc nL ret) {i k : Nat} {n z : Int} {lv lv' : List (Nat × Value)} (hdg : decode cc pc = .ok (.iinc i n, 3)) (hl : lv_has ls nL lv) (hk : lv[k]? = some (i, .int (tw_I z))) (hn : i < nL) (he : (i, Value.int (tw_I (tm_wr (z + n)))) :: lv.filter (fun q => !(q.1 == i) && !(q.1 + 1 == i && q.2.category == 2)) = lv')
    (kk : ∀ ls' : Array Slot, lv_has ls' nL lv' → W p l e R s m args below meth c H locs cells slots Q (F0 m (pc + 3) ls' rest)) : W p l e R s m args below meth c H locs cells slots Q (F0 m pc ls rest) :=
  lv_iinc C.1 C.2.1 hdg hl hk (tw_I_add z n) hn he kk
theorem tw_ceq (C : tw_C G p s m args meth c own cc nL ret) {x y : Int} {off : Int} {tgt : Nat} {A B : Option α} {r' : α} [Decidable (x = y)] (hk : (if x = y then A else B) = some r') (gx : tm_rg x) (gy : tm_rg y) (hdg : decode cc pc = .ok (.if_icmp .eq off, 3)) (ht : (pc : Int) + off = (tgt : Int)) (k1 : x = y → A = some r' → W p l e R s m args below meth c H locs cells slots Q (F0 m tgt ls rest)) (k2 : ¬ x = y → B = some r' → W p l e R s m args below meth c H locs cells slots Q (F0 m (pc + 3) ls rest)) : W p l e R s m args below meth c H locs cells slots Q (F0 m pc ls (.int (tw_I y) :: .int (tw_I x) :: rest)) := by
  have hc : x = y → W p l e R s m args below meth c H locs cells slots Q (F0 m tgt ls rest) := fun z => k1 z (by rw [if_pos z] at hk; exact hk)
  have hd : ¬ x = y → W p l e R s m args below meth c H locs cells slots Q (F0 m (pc + 3) ls rest) := fun z => k2 z (by rw [if_neg z] at hk; exact hk)
  exact lv_icmp_eq C.1 C.2.1 hdg ht (fun z => hc (by exact (tw_I_eq gx gy).mp z)) (fun z => hd (fun w => z (by rw [w])))
theorem tw_cne (C : tw_C G p s m args meth c own cc nL ret) {x y : Int} {off : Int} {tgt : Nat} {A B : Option α} {r' : α} [Decidable (x = y)] (hk : (if x = y then A else B) = some r') (gx : tm_rg x) (gy : tm_rg y) (hdg : decode cc pc = .ok (.if_icmp .ne off, 3)) (ht : (pc : Int) + off = (tgt : Int)) (k1 : x = y → A = some r' → W p l e R s m args below meth c H locs cells slots Q (F0 m (pc + 3) ls rest)) (k2 : ¬ x = y → B = some r' → W p l e R s m args below meth c H locs cells slots Q (F0 m tgt ls rest)) : W p l e R s m args below meth c H locs cells slots Q (F0 m pc ls (.int (tw_I y) :: .int (tw_I x) :: rest)) := by
  have hc : x = y → W p l e R s m args below meth c H locs cells slots Q (F0 m (pc + 3) ls rest) := fun z => k1 z (by rw [if_pos z] at hk; exact hk)
  have hd : ¬ x = y → W p l e R s m args below meth c H locs cells slots Q (F0 m tgt ls rest) := fun z => k2 z (by rw [if_neg z] at hk; exact hk)
  exact lv_icmp_ne C.1 C.2.1 hdg ht (fun z => hd (fun w => z (by rw [w]))) (fun z => hc (by exact (tw_I_eq gx gy).mp z))
theorem tw_clt (C : tw_C G p s m args meth c own cc nL ret) {x y : Int} {off : Int} {tgt : Nat} {A B : Option α} {r' : α} [Decidable (x < y)] (hk : (if x < y then A else B) = some r') (gx : tm_rg x) (gy : tm_rg y) (hdg : decode cc pc = .ok (.if_icmp .lt off, 3)) (ht : (pc : Int) + off = (tgt : Int)) (k1 : x < y → A = some r' → W p l e R s m args below meth c H locs cells slots Q (F0 m tgt ls rest)) (k2 : ¬ x < y → B = some r' → W p l e R s m args below meth c H locs cells slots Q (F0 m (pc + 3) ls rest)) : W p l e R s m args below meth c H locs cells slots Q (F0 m pc ls (.int (tw_I y) :: .int (tw_I x) :: rest)) := by
  have hc : x < y → W p l e R s m args below meth c H locs cells slots Q (F0 m tgt ls rest) := fun z => k1 z (by rw [if_pos z] at hk; exact hk)
  have hd : ¬ x < y → W p l e R s m args below meth c H locs cells slots Q (F0 m (pc + 3) ls rest) := fun z => k2 z (by rw [if_neg z] at hk; exact hk)
  exact lv_icmp_lt C.1 C.2.1 hdg ht (fun z => hc (by exact (tw_I_lt gx gy).mp z)) (fun z => hd (fun w => z (by exact (tw_I_lt gx gy).mpr w)))
theorem tw_cge (C : tw_C G p s m args meth c own cc nL ret) {x y : Int} {off : Int} {tgt : Nat} {A B : Option α} {r' : α} [Decidable (x < y)] (hk : (if x < y then A else B) = some r') (gx : tm_rg x) (gy : tm_rg y) (hdg : decode cc pc = .ok (.if_icmp .ge off, 3)) (ht : (pc : Int) + off = (tgt : Int)) (k1 : x < y → A = some r' → W p l e R s m args below meth c H locs cells slots Q (F0 m (pc + 3) ls rest)) (k2 : ¬ x < y → B = some r' → W p l e R s m args below meth c H locs cells slots Q (F0 m tgt ls rest)) : W p l e R s m args below meth c H locs cells slots Q (F0 m pc ls (.int (tw_I y) :: .int (tw_I x) :: rest)) := by
  have hc : x < y → W p l e R s m args below meth c H locs cells slots Q (F0 m (pc + 3) ls rest) := fun z => k1 z (by rw [if_pos z] at hk; exact hk)
  have hd : ¬ x < y → W p l e R s m args below meth c H locs cells slots Q (F0 m tgt ls rest) := fun z => k2 z (by rw [if_neg z] at hk; exact hk)
  exact lv_icmp_ge C.1 C.2.1 hdg ht (fun z => hd (fun w => absurd (show tw_I x < tw_I y by exact (tw_I_lt gx gy).mpr w) (Int32.not_lt.mpr z))) (fun z => hc (by have z := Int32.not_le.mp z; exact (tw_I_lt gx gy).mp z))
theorem tw_cgt (C : tw_C G p s m args meth c own cc nL ret) {x y : Int} {off : Int} {tgt : Nat} {A B : Option α} {r' : α} [Decidable (y < x)] (hk : (if y < x then A else B) = some r') (gx : tm_rg x) (gy : tm_rg y) (hdg : decode cc pc = .ok (.if_icmp .gt off, 3)) (ht : (pc : Int) + off = (tgt : Int)) (k1 : y < x → A = some r' → W p l e R s m args below meth c H locs cells slots Q (F0 m tgt ls rest)) (k2 : ¬ y < x → B = some r' → W p l e R s m args below meth c H locs cells slots Q (F0 m (pc + 3) ls rest)) : W p l e R s m args below meth c H locs cells slots Q (F0 m pc ls (.int (tw_I y) :: .int (tw_I x) :: rest)) := by
  have hc : y < x → W p l e R s m args below meth c H locs cells slots Q (F0 m tgt ls rest) := fun z => k1 z (by rw [if_pos z] at hk; exact hk)
  have hd : ¬ y < x → W p l e R s m args below meth c H locs cells slots Q (F0 m (pc + 3) ls rest) := fun z => k2 z (by rw [if_neg z] at hk; exact hk)
  exact lv_icmp_gt C.1 C.2.1 hdg ht (fun z => hc (by have z : tw_I y < tw_I x := z; exact (tw_I_lt gy gx).mp z)) (fun z => hd (fun w => z (show tw_I y < tw_I x by exact (tw_I_lt gy gx).mpr w)))
theorem tw_cle (C : tw_C G p s m args meth c own cc nL ret) {x y : Int} {off : Int} {tgt : Nat} {A B : Option α} {r' : α} [Decidable (y < x)] (hk : (if y < x then A else B) = some r') (gx : tm_rg x) (gy : tm_rg y) (hdg : decode cc pc = .ok (.if_icmp .le off, 3)) (ht : (pc : Int) + off = (tgt : Int)) (k1 : y < x → A = some r' → W p l e R s m args below meth c H locs cells slots Q (F0 m (pc + 3) ls rest)) (k2 : ¬ y < x → B = some r' → W p l e R s m args below meth c H locs cells slots Q (F0 m tgt ls rest)) : W p l e R s m args below meth c H locs cells slots Q (F0 m pc ls (.int (tw_I y) :: .int (tw_I x) :: rest)) := by
  have hc : y < x → W p l e R s m args below meth c H locs cells slots Q (F0 m (pc + 3) ls rest) := fun z => k1 z (by rw [if_pos z] at hk; exact hk)
  have hd : ¬ y < x → W p l e R s m args below meth c H locs cells slots Q (F0 m tgt ls rest) := fun z => k2 z (by rw [if_neg z] at hk; exact hk)
  exact lv_icmp_le C.1 C.2.1 hdg ht (fun z => hd (fun w => absurd (show tw_I y < tw_I x by exact (tw_I_lt gy gx).mpr w) (Int32.not_lt.mpr z))) (fun z => hc (by have z := Int32.not_le.mp z; exact (tw_I_lt gy gx).mp z))
theorem tw_zeq (C : tw_C G p s m args meth c own cc nL ret) {x : Int} {off : Int} {tgt : Nat} {A B : Option α} {r' : α} [Decidable (x = 0)] (hk : (if x = 0 then A else B) = some r') (gx : tm_rg x) (hdg : decode cc pc = .ok (.ifCond .eq off, 3)) (ht : (pc : Int) + off = (tgt : Int)) (k1 : x = 0 → A = some r' → W p l e R s m args below meth c H locs cells slots Q (F0 m tgt ls rest)) (k2 : ¬ x = 0 → B = some r' → W p l e R s m args below meth c H locs cells slots Q (F0 m (pc + 3) ls rest)) : W p l e R s m args below meth c H locs cells slots Q (F0 m pc ls (.int (tw_I x) :: rest)) := by
  have hc : x = 0 → W p l e R s m args below meth c H locs cells slots Q (F0 m tgt ls rest) := fun z => k1 z (by rw [if_pos z] at hk; exact hk)
  have hd : ¬ x = 0 → W p l e R s m args below meth c H locs cells slots Q (F0 m (pc + 3) ls rest) := fun z => k2 z (by rw [if_neg z] at hk; exact hk)
  exact lv_if_eq C.1 C.2.1 hdg ht (fun z => hc (by rw [← tw_I_zero] at z; exact (tw_I_eq gx tw_rg0).mp z)) (fun z => hd (fun w => z (by rw [w]; exact tw_I_zero)))
theorem tw_zne (C : tw_C G p s m args meth c own cc nL ret) {x : Int} {off : Int} {tgt : Nat} {A B : Option α} {r' : α} [Decidable (x = 0)] (hk : (if x = 0 then A else B) = some r') (gx : tm_rg x) (hdg : decode cc pc = .ok (.ifCond .ne off, 3)) (ht : (pc : Int) + off = (tgt : Int)) (k1 : x = 0 → A = some r' → W p l e R s m args below meth c H locs cells slots Q (F0 m (pc + 3) ls rest)) (k2 : ¬ x = 0 → B = some r' → W p l e R s m args below meth c H locs cells slots Q (F0 m tgt ls rest)) : W p l e R s m args below meth c H locs cells slots Q (F0 m pc ls (.int (tw_I x) :: rest)) := by
  have hc : x = 0 → W p l e R s m args below meth c H locs cells slots Q (F0 m (pc + 3) ls rest) := fun z => k1 z (by rw [if_pos z] at hk; exact hk)
  have hd : ¬ x = 0 → W p l e R s m args below meth c H locs cells slots Q (F0 m tgt ls rest) := fun z => k2 z (by rw [if_neg z] at hk; exact hk)
  exact lv_if_ne C.1 C.2.1 hdg ht (fun z => hd (fun w => z (by rw [w]; exact tw_I_zero))) (fun z => hc (by rw [← tw_I_zero] at z; exact (tw_I_eq gx tw_rg0).mp z))
theorem tw_zlt (C : tw_C G p s m args meth c own cc nL ret) {x : Int} {off : Int} {tgt : Nat} {A B : Option α} {r' : α} [Decidable (x < 0)] (hk : (if x < 0 then A else B) = some r') (gx : tm_rg x) (hdg : decode cc pc = .ok (.ifCond .lt off, 3)) (ht : (pc : Int) + off = (tgt : Int)) (k1 : x < 0 → A = some r' → W p l e R s m args below meth c H locs cells slots Q (F0 m tgt ls rest)) (k2 : ¬ x < 0 → B = some r' → W p l e R s m args below meth c H locs cells slots Q (F0 m (pc + 3) ls rest)) : W p l e R s m args below meth c H locs cells slots Q (F0 m pc ls (.int (tw_I x) :: rest)) := by
  have hc : x < 0 → W p l e R s m args below meth c H locs cells slots Q (F0 m tgt ls rest) := fun z => k1 z (by rw [if_pos z] at hk; exact hk)
  have hd : ¬ x < 0 → W p l e R s m args below meth c H locs cells slots Q (F0 m (pc + 3) ls rest) := fun z => k2 z (by rw [if_neg z] at hk; exact hk)
  exact lv_if_lt C.1 C.2.1 hdg ht (fun z => hc (by rw [← tw_I_zero] at z; exact (tw_I_lt gx tw_rg0).mp z)) (fun z => hd (fun w => z (by rw [← tw_I_zero]; exact (tw_I_lt gx tw_rg0).mpr w)))
theorem tw_zge (C : tw_C G p s m args meth c own cc nL ret) {x : Int} {off : Int} {tgt : Nat} {A B : Option α} {r' : α} [Decidable (x < 0)] (hk : (if x < 0 then A else B) = some r') (gx : tm_rg x) (hdg : decode cc pc = .ok (.ifCond .ge off, 3)) (ht : (pc : Int) + off = (tgt : Int)) (k1 : x < 0 → A = some r' → W p l e R s m args below meth c H locs cells slots Q (F0 m (pc + 3) ls rest)) (k2 : ¬ x < 0 → B = some r' → W p l e R s m args below meth c H locs cells slots Q (F0 m tgt ls rest)) : W p l e R s m args below meth c H locs cells slots Q (F0 m pc ls (.int (tw_I x) :: rest)) := by
  have hc : x < 0 → W p l e R s m args below meth c H locs cells slots Q (F0 m (pc + 3) ls rest) := fun z => k1 z (by rw [if_pos z] at hk; exact hk)
  have hd : ¬ x < 0 → W p l e R s m args below meth c H locs cells slots Q (F0 m tgt ls rest) := fun z => k2 z (by rw [if_neg z] at hk; exact hk)
  exact lv_if_ge C.1 C.2.1 hdg ht (fun z => hd (fun w => absurd (show tw_I x < 0 by rw [← tw_I_zero]; exact (tw_I_lt gx tw_rg0).mpr w) (Int32.not_lt.mpr z))) (fun z => hc (by have z := Int32.not_le.mp z; rw [← tw_I_zero] at z; exact (tw_I_lt gx tw_rg0).mp z))
theorem tw_zgt (C : tw_C G p s m args meth c own cc nL ret) {x : Int} {off : Int} {tgt : Nat} {A B : Option α} {r' : α} [Decidable (0 < x)] (hk : (if 0 < x then A else B) = some r') (gx : tm_rg x) (hdg : decode cc pc = .ok (.ifCond .gt off, 3)) (ht : (pc : Int) + off = (tgt : Int)) (k1 : 0 < x → A = some r' → W p l e R s m args below meth c H locs cells slots Q (F0 m tgt ls rest)) (k2 : ¬ 0 < x → B = some r' → W p l e R s m args below meth c H locs cells slots Q (F0 m (pc + 3) ls rest)) : W p l e R s m args below meth c H locs cells slots Q (F0 m pc ls (.int (tw_I x) :: rest)) := by
  have hc : 0 < x → W p l e R s m args below meth c H locs cells slots Q (F0 m tgt ls rest) := fun z => k1 z (by rw [if_pos z] at hk; exact hk)
  have hd : ¬ 0 < x → W p l e R s m args below meth c H locs cells slots Q (F0 m (pc + 3) ls rest) := fun z => k2 z (by rw [if_neg z] at hk; exact hk)
  exact lv_if_gt C.1 C.2.1 hdg ht (fun z => hc (by have z : 0 < tw_I x := z; rw [← tw_I_zero] at z; exact (tw_I_lt tw_rg0 gx).mp z)) (fun z => hd (fun w => z (show 0 < tw_I x by rw [← tw_I_zero]; exact (tw_I_lt tw_rg0 gx).mpr w)))
theorem tw_zle (C : tw_C G p s m args meth c own cc nL ret) {x : Int} {off : Int} {tgt : Nat} {A B : Option α} {r' : α} [Decidable (0 < x)] (hk : (if 0 < x then A else B) = some r') (gx : tm_rg x) (hdg : decode cc pc = .ok (.ifCond .le off, 3)) (ht : (pc : Int) + off = (tgt : Int)) (k1 : 0 < x → A = some r' → W p l e R s m args below meth c H locs cells slots Q (F0 m (pc + 3) ls rest)) (k2 : ¬ 0 < x → B = some r' → W p l e R s m args below meth c H locs cells slots Q (F0 m tgt ls rest)) : W p l e R s m args below meth c H locs cells slots Q (F0 m pc ls (.int (tw_I x) :: rest)) := by
  have hc : 0 < x → W p l e R s m args below meth c H locs cells slots Q (F0 m (pc + 3) ls rest) := fun z => k1 z (by rw [if_pos z] at hk; exact hk)
  have hd : ¬ 0 < x → W p l e R s m args below meth c H locs cells slots Q (F0 m tgt ls rest) := fun z => k2 z (by rw [if_neg z] at hk; exact hk)
  exact lv_if_le C.1 C.2.1 hdg ht (fun z => hd (fun w => absurd (show 0 < tw_I x by rw [← tw_I_zero]; exact (tw_I_lt tw_rg0 gx).mpr w) (Int32.not_lt.mpr z))) (fun z => hc (by have z := Int32.not_le.mp z; rw [← tw_I_zero] at z; exact (tw_I_lt tw_rg0 gx).mp z))
theorem tw_tsIn (C : tw_C G p s m args meth c own cc nL ret) {dflt lo hi : Int} {offs : Array Int} {len : Nat} {v off : Int} {tgt : Nat} (k : Int) (hv : v = k) (gv : tm_rg k) (hdg : decode cc pc = .ok (.tableswitch dflt lo hi offs, len)) (h1 : ¬ k < lo) (h2 : ¬ hi < k) (ho : offs[(k - lo).toNat]? = some off) (ht : (pc : Int) + off = (tgt : Int))
    (kk : W p l e R s m args below meth c H locs cells slots Q (F0 m tgt ls rest)) : W p l e R s m args below meth c H locs cells slots Q (F0 m pc ls (.int (tw_I v) :: rest)) := by
  subst hv
  exact lv_tableIn C.1 C.2.1 hdg (by rw [tw_I_toInt gv]; exact h1) (by rw [tw_I_toInt gv]; exact h2) (by rw [tw_I_toInt gv]; exact ho) ht kk
theorem tw_tsOut (C : tw_C G p s m args meth c own cc nL ret) {dflt lo hi : Int} {offs : Array Int} {len : Nat} {v : Int} {tgt : Nat} (gv : tm_rg v) (hdg : decode cc pc = .ok (.tableswitch dflt lo hi offs, len)) (h1 : v < lo ∨ hi < v) (ht : (pc : Int) + dflt = (tgt : Int))
    (kk : W p l e R s m args below meth c H locs cells slots Q (F0 m tgt ls rest)) : W p l e R s m args below meth c H locs cells slots Q (F0 m pc ls (.int (tw_I v) :: rest)) :=
  lv_tableOut C.1 C.2.1 hdg (by rw [tw_I_toInt gv]; exact h1) ht kk
/-! ends of methods -/
theorem tw_iret (C : tw_C G p s m args meth c own cc nL (some .int)) {v r : Int} {h' : tm_H} (hR : tw_Rel G sz h H) (hL : tw_L G locs) (gv : tm_rg v) (hv : v = r) (hh : h = h') (hdg : decode cc pc = .ok (.ireturn, 1)) : W p l e R s m args below meth c H locs cells slots (MQ below (tw_Qi G sz r h') args s cells slots (tw_F G)) (F0 m pc ls [.int (tw_I v)]) := by
  subst hv; subst hh
  exact W.iret C.1 C.2.1 C.2.2.2.2.2.1 (fun t ht hW => ⟨rfl, gv, by rw [ht]; exact hR⟩) hL hdg (hlocks := C.2.2.2.2.2.2.1)
theorem tw_zret (C : tw_C G p s m args meth c own cc nL (some .boolean)) {v r : Int} {h' : tm_H} (hR : tw_Rel G sz h H) (hL : tw_L G locs) (hk : tm_zr v = some r) (hh : h = h') (hdg : decode cc pc = .ok (.ireturn, 1)) : W p l e R s m args below meth c H locs cells slots (MQ below (tw_Qi G sz r h') args s cells slots (tw_F G)) (F0 m pc ls [.int (tw_I v)]) := by
  unfold tm_zr at hk
  by_cases h01 : v = 0 ∨ v = 1
  · rw [if_pos h01] at hk
    cases hk; subst hh
    exact W.zret C.1 C.2.1 C.2.2.2.2.2.1 (by rcases h01 with rfl | rfl <;> decide +kernel) (fun t ht hW => ⟨rfl, by rcases h01 with rfl | rfl <;> (unfold tm_rg; omega), by rw [ht]; exact hR⟩) hL hdg (hlocks := C.2.2.2.2.2.2.1)
  · rw [if_neg h01] at hk
    cases hk
theorem tw_lret (C : tw_C G p s m args meth c own cc nL (some .long)) {v r : Int64} {h' : tm_H} (hR : tw_Rel G sz h H) (hL : tw_L G locs) (hv : v = r) (hh : h = h') (hdg : decode cc pc = .ok (.lreturn, 1)) : W p l e R s m args below meth c H locs cells slots (MQ below (tw_Ql G sz r h') args s cells slots (tw_F G)) (F0 m pc ls [.long v]) := by
  subst hv; subst hh
  exact W.lret C.1 C.2.1 C.2.2.2.2.2.1 (fun t ht hW => ⟨rfl, by rw [ht]; exact hR⟩) hL hdg (hlocks := C.2.2.2.2.2.2.1)
theorem tw_aret {rt : FieldType} (C : tw_C G p s m args meth c own cc nL (some rt)) (hrt : (∃ n, rt = .object n) ∨ ∃ t, rt = .array t) {v r : Nat} {h' : tm_H} (hR : tw_Rel G sz h H) (hL : tw_L G locs) (hv : v = r) (hh : h = h') (hdg : decode cc pc = .ok (.areturn, 1)) : W p l e R s m args below meth c H locs cells slots (MQ below (tw_Qr G sz r h') args s cells slots (tw_F G)) (F0 m pc ls [.ref v]) := by
  subst hv; subst hh
  exact W.aret C.1 C.2.1 C.2.2.2.2.2.1 hrt (Or.inr ⟨_, rfl⟩) (fun t ht hW => ⟨rfl, by rw [ht]; exact hR⟩) hL hdg (hlocks := C.2.2.2.2.2.2.1)
theorem tw_vret (C : tw_C G p s m args meth c own cc nL none) {h' : tm_H} (hR : tw_Rel G sz h H) (hL : tw_L G locs) (hh : h = h') (hdg : decode cc pc = .ok (.return_, 1)) : W p l e R s m args below meth c H locs cells slots (MQ below (tw_Qv G sz h') args s cells slots (tw_F G)) (F0 m pc ls []) := by
  subst hh
  exact W.vret C.1 C.2.1 C.2.2.2.2.2.1 (fun t ht hW => ⟨rfl, by rw [ht]; exact hR⟩) hL hdg (hlocks := C.2.2.2.2.2.2.1)
end TW2
/-! calls -/
def tw_mB (y : MethodName) (bytes : ByteArray) (maxL : Nat) (yret : Option FieldType) (n : Nat) : Prop := Cond.code y bytes maxL yret ∈ tw_TB ∧ Cond.initialized y.cls ∈ tw_TB ∧ (y.cls ≠ "java/lang/invoke/MethodHandle" ∧ y.cls ≠ "java/lang/invoke/VarHandle" ∧ (parseMethodDescriptor y.desc).map (fun d => d.parameters.length) = some n)
def tw_mL (own : String) (idx : Nat) (y : MethodName) : Prop := Cond.methodLink own idx y ∈ tw_TB ∨ ∃ host, Cond.methodLinkNest own idx y host ∈ tw_NB
section TW3
variable {p : Program} {l : Launch} {e : Env} {R : Room} {s : State} {m : MethodId} {args : Array Value} {below : List Frame} {meth : Method} {c : Code} {H : Heap} {locs : List Loc} {cells slots : Nat} {Q : State → Prop}
variable {cc : ByteArray} {pc nL : Nat} {ls : Array Slot} {rest : List Value} {a : Nat} {G : tw_G} {sz : Nat} {h : tm_H} {own : String} {ret : Option FieldType} {α : Type} {x : α}
variable {y : MethodName} {bytes : ByteArray} {maxL n idx mc ms : Nat} {yret : Option FieldType} {rm : Room} {Qc : Array Value → State → Outcome → State → Prop} {b ci : Nat} {As : List Value} {st : List Value}
theorem tw_blind {av : List Value} : FrameBlind (va_Pc av (tw_Pre G sz h)) := fun a U g mk q => ⟨q.1, q.2.1, tw_K.same (u := U) (U := U.calling g mk a) rfl q.2.2⟩
theorem tw_cbk (C : tw_C G p s m args meth c own cc nL ret) (S : tw_mB y bytes maxL yret n) (hl : Cond.methodLink own idx y ∈ tw_TB) (hrm : rm.cells = mc ∧ rm.slots = ms) (hR : rm.frames + 1 ≤ R.frames ∧ 8 + (maxL + 11) + rm.locals ≤ R.locals) : CallB R s args own idx y bytes maxL yret (tw_WS y bytes maxL yret) rm mc ms n :=
  callB_of (Ts := tw_TB) (ws' := tw_TB) n C.2.2.2.2.1 (tw_good _ _ _ _ S.1) rfl hrm.1 hrm.2 (C.2.2.2.2.1 _ S.2.1) (C.2.2.2.2.1 _ hl) S.2.2 hR
theorem tw_cbn (C : tw_C G p s m args meth c own cc nL ret) {host : String} (S : tw_mB y bytes maxL yret n) (hl : Cond.methodLinkNest own idx y host ∈ tw_NB) (hrm : rm.cells = mc ∧ rm.slots = ms) (hR : rm.frames + 1 ≤ R.frames ∧ 8 + (maxL + 11) + rm.locals ≤ R.locals) : va_CN R s args own idx y host bytes maxL yret (tw_WS y bytes maxL yret) rm mc ms n :=
  va_cnB (Ts := tw_TB) (ws' := tw_TB) n C.2.2.2.2.1 (tw_good _ _ _ _ S.1) rfl hrm.1 hrm.2 (C.2.2.2.2.2.2.2.2.2.2.2 _ hl) (C.2.2.2.2.1 _ S.2.1) S.2.2 hR
theorem tw_recv (C : tw_C G p s m args meth c own cc nL ret) (hR : tw_Rel G sz h H) (hob : tm_is h ci b) {Cn : String} {T : u_T} {N : Nat} (hc : vwCl[ci]? = some (Cn, T, N)) : ∃ cell : Cell, H[b]? = some cell ∧ cell.vm.isStatics = false ∧ s.vm.findClass Cn = some cell.cls := by
  obtain ⟨fs, hb⟩ := hob
  obtain ⟨-, hat, -⟩ := hR.2.2.2 b _ hb
  exact va_recv C.2.2.2.2.2.2.2.1 (tw_one hat) hc (q0 := 0) rfl
theorem tw_runV (C : tw_C G p s m args meth c own cc nL ret) (hR : tw_Rel G sz h H) (hM : Met l y (tw_WS y bytes maxL yret) rm (va_Pc (.ref b :: As) (tw_Pre G sz h)) Qc mc ms (tw_F G)) (S : tw_mB y bytes maxL yret n) (hi : Cond.instanceMethod y ∈ tw_TB) (hse : Cond.selects y.cls y y ∈ tw_TB) (hl : tw_mL own idx y) (hrm : rm.cells = mc ∧ rm.slots = ms) (hRm : rm.frames + 1 ≤ R.frames ∧ 8 + (maxL + 11) + rm.locals ≤ R.locals)
    (hob : tm_is h ci b) {T : u_T} {N : Nat} (hc : vwCl[ci]? = some (y.cls, T, N)) (hn : As.length = n) (hsz : ls.size = nL) (hst : st = As.reverse ++ .ref b :: rest) (hW : (rest.map fun v => v.category).sum ≤ 8) (hdg : decode cc pc = .ok (.invokevirtual idx, 3)) (hf : cells + mc ≤ R.cells ∧ slots + ms ≤ R.slots) :
    va_Run p l e R s m args below meth c H locs cells slots mc ms (F0 m pc ls st) rest (Qc (Value.ref b :: As).toArray) (tw_F G) := by
  have hp : PreV s H y.cls b (va_Pc (.ref b :: As) (tw_Pre G sz h)) As := ⟨tw_blind, tw_recv C hR hob hc, fun U hU hW => ⟨rfl, by rw [hU]; exact hR, C.2.2.2.2.2.2.2.warm hW⟩⟩
  have hF : CallFix p m c cc nL s args tw_TB own := ⟨C.1, C.2.1, C.2.2.1, C.2.2.2.1, C.2.2.2.2.1⟩
  have ht := C.2.2.2.2.1
  rcases hl with hl | ⟨host, hl⟩
  · exact va_runV hF hM ⟨tw_cbk C S hl hrm hRm, ht _ hi, ht _ hse⟩ hp rfl hn hsz hst (lv_room hW) hdg hf
  · exact va_runVN hF hM ⟨tw_cbn C S hl hrm hRm, ht _ hi, ht _ hse⟩ hp rfl hn hsz hst (lv_room hW) hdg hf
theorem tw_runS (C : tw_C G p s m args meth c own cc nL ret) (hR : tw_Rel G sz h H) (hM : Met l y (tw_WS y bytes maxL yret) rm (va_Pc As (tw_Pre G sz h)) Qc mc ms (tw_F G)) (S : tw_mB y bytes maxL yret n) (hi : Cond.static y ∈ tw_TB) (hl : tw_mL own idx y) (hrm : rm.cells = mc ∧ rm.slots = ms) (hRm : rm.frames + 1 ≤ R.frames ∧ 8 + (maxL + 11) + rm.locals ≤ R.locals)
    (hn : As.length = n) (hsz : ls.size = nL) (hst : st = As.reverse ++ rest) (hW : (rest.map fun v => v.category).sum ≤ 8) (hdg : decode cc pc = .ok (.invokestatic idx, 3)) (hf : cells + mc ≤ R.cells ∧ slots + ms ≤ R.slots) :
    va_Run p l e R s m args below meth c H locs cells slots mc ms (F0 m pc ls st) rest (Qc As.toArray) (tw_F G) := by
  have hp : PreS s H (va_Pc As (tw_Pre G sz h)) As := ⟨tw_blind, fun U hU hW => ⟨rfl, by rw [hU]; exact hR, C.2.2.2.2.2.2.2.warm hW⟩⟩
  have hF : CallFix p m c cc nL s args tw_TB own := ⟨C.1, C.2.1, C.2.2.1, C.2.2.2.1, C.2.2.2.2.1⟩
  have ht := C.2.2.2.2.1
  rcases hl with hl | ⟨host, hl⟩
  · exact va_runS hF hM ⟨tw_cbk C S hl hrm hRm, ht _ hi⟩ hp rfl hn hsz hst (lv_room hW) hdg hf
  · exact va_runSN hF hM ⟨tw_cbn C S hl hrm hRm, ht _ hi, trivial⟩ hp rfl hn hsz hst (lv_room hW) hdg hf
theorem tw_runI (C : tw_C G p s m args meth c own cc nL ret) (hR : tw_Rel G sz h H) (hM : Met l y (tw_WS y bytes maxL none) rm (va_Pc (.ref b :: As) (tw_Pre G sz h)) Qc mc ms (tw_F G)) (S : tw_mB y bytes maxL none n) (hi : Cond.instanceMethod y ∈ tw_TB) (hnm : y.name = "<init>") (hl : tw_mL own idx y) (hrm : rm.cells = mc ∧ rm.slots = ms) (hRm : rm.frames + 1 ≤ R.frames ∧ 8 + (maxL + 11) + rm.locals ≤ R.locals)
    (hn : As.length = n) (hsz : ls.size = nL) (hst : st = As.reverse ++ .ref b :: rest) (hW : (rest.map fun v => v.category).sum ≤ 8) (hdg : decode cc pc = .ok (.invokespecial idx, 3)) (hf : cells + mc ≤ R.cells ∧ slots + ms ≤ R.slots) :
    va_Run p l e R s m args below meth c H locs cells slots mc ms (F0 m pc ls st) rest (Qc (Value.ref b :: As).toArray) (tw_F G) := by
  have hp : PreS s H (va_Pc (.ref b :: As) (tw_Pre G sz h)) (.ref b :: As) := ⟨tw_blind, fun U hU hW => ⟨rfl, by rw [hU]; exact hR, C.2.2.2.2.2.2.2.warm hW⟩⟩
  have hF : CallFix p m c cc nL s args tw_TB own := ⟨C.1, C.2.1, C.2.2.1, C.2.2.2.1, C.2.2.2.2.1⟩
  have ht := C.2.2.2.2.1
  rcases hl with hl | ⟨host, hl⟩
  · exact va_runI hF hM ⟨tw_cbk C S hl hrm hRm, hnm, ht _ hi⟩ hp rfl hn hsz hst (lv_room hW) hdg hf
  · exact va_runIN hF hM ⟨tw_cbn C S hl hrm hRm, hnm, ht _ hi⟩ hp rfl hn hsz hst (lv_room hW) hdg hf
variable {av : Array Value} {sz' : Nat} {h' : tm_H}
theorem tw_backG {Qa : State → Outcome → State → Prop} (hr : va_Run p l e R s m args below meth c H locs cells slots mc ms (F0 m pc ls st) rest Qa (tw_F G)) (hL : tw_L G locs)
    (kk : ∀ (v : Option Value) (st₀ t : State) (locs1 : List Loc), Qa st₀ (.returned v) t → tw_L G locs1 → W p l e R s m args below meth c t.heap locs1 (cells + mc) (slots + ms) Q (F0 m (pc + 3) ls (v.toList ++ rest))) : W p l e R s m args below meth c H locs cells slots Q (F0 m pc ls st) := by
  intro T hT X
  obtain ⟨v, st₀, t, T', L, h0, X', hLL, e1, e2, hq, go⟩ := hr T hT X
  obtain ⟨t2, a1, b1⟩ := kk v st₀ t (locs ++ L) hq (fun q hq => by
    rcases List.mem_append.mp hq with z | z
    · exact hL q z
    · exact hLL q z) T' e1 X'
  exact ⟨t2, go t2 a1, b1⟩
theorem tw_backi {r : Int} (hr : va_Run p l e R s m args below meth c H locs cells slots mc ms (F0 m pc ls st) rest (tw_Qi G sz' r h' av) (tw_F G)) (hL : tw_L G locs)
    (kk : ∀ (H1 : Heap) (locs1 : List Loc), tw_Rel G sz' h' H1 → tw_L G locs1 → tm_rg r → W p l e R s m args below meth c H1 locs1 (cells + mc) (slots + ms) Q (F0 m (pc + 3) ls (.int (tw_I r) :: rest))) : W p l e R s m args below meth c H locs cells slots Q (F0 m pc ls st) :=
  tw_backG hr hL fun v st₀ t locs1 hq h1 => by
    obtain ⟨hv, hg, hR1⟩ := hq
    cases hv
    exact kk t.heap locs1 hR1 h1 hg
theorem tw_backl {r : Int64} (hr : va_Run p l e R s m args below meth c H locs cells slots mc ms (F0 m pc ls st) rest (tw_Ql G sz' r h' av) (tw_F G)) (hL : tw_L G locs)
    (kk : ∀ (H1 : Heap) (locs1 : List Loc), tw_Rel G sz' h' H1 → tw_L G locs1 → W p l e R s m args below meth c H1 locs1 (cells + mc) (slots + ms) Q (F0 m (pc + 3) ls (.long r :: rest))) : W p l e R s m args below meth c H locs cells slots Q (F0 m pc ls st) :=
  tw_backG hr hL fun v st₀ t locs1 hq h1 => by
    obtain ⟨hv, hR1⟩ := hq
    cases hv
    exact kk t.heap locs1 hR1 h1
theorem tw_backr {r : Nat} (hr : va_Run p l e R s m args below meth c H locs cells slots mc ms (F0 m pc ls st) rest (tw_Qr G sz' r h' av) (tw_F G)) (hL : tw_L G locs)
    (kk : ∀ (H1 : Heap) (locs1 : List Loc), tw_Rel G sz' h' H1 → tw_L G locs1 → W p l e R s m args below meth c H1 locs1 (cells + mc) (slots + ms) Q (F0 m (pc + 3) ls (.ref r :: rest))) : W p l e R s m args below meth c H locs cells slots Q (F0 m pc ls st) :=
  tw_backG hr hL fun v st₀ t locs1 hq h1 => by
    obtain ⟨hv, hR1⟩ := hq
    cases hv
    exact kk t.heap locs1 hR1 h1
theorem tw_backv (hr : va_Run p l e R s m args below meth c H locs cells slots mc ms (F0 m pc ls st) rest (tw_Qv G sz' h' av) (tw_F G)) (hL : tw_L G locs)
    (kk : ∀ (H1 : Heap) (locs1 : List Loc), tw_Rel G sz' h' H1 → tw_L G locs1 → W p l e R s m args below meth c H1 locs1 (cells + mc) (slots + ms) Q (F0 m (pc + 3) ls rest)) : W p l e R s m args below meth c H locs cells slots Q (F0 m pc ls st) :=
  tw_backG hr hL fun v st₀ t locs1 hq h1 => by
    obtain ⟨hv, hR1⟩ := hq
    cases hv
    exact kk t.heap locs1 hR1 h1
end TW3
