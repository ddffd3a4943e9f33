/-! the texts "ch", "term", "form": String's own methods over them -/
def tm_sb : List (List Int) := [[99, 104], [116, 101, 114, 109], [102, 111, 114, 109]]
def tm_sl (w : Nat) : Option Int := if w < 3 then some (((tm_sb.getD w []).length : Nat) : Int) else none
def tm_sc (w : Nat) (i : Int) : Option Int := if w < 3 ∧ 0 ≤ i ∧ i < ((tm_sb.getD w []).length : Nat) then some ((tm_sb.getD w []).getD i.toNat 0) else none
theorem mbJ0_coder_7d493 : tw_mB yJ0_coder_7d493 cJ0_coder_7d493 1 (some .byte) 0 := ⟨(tw_in_TB 582 (by decide +kernel) rfl), (tw_in_TB 64 (by decide +kernel) rfl), by decide +kernel⟩
theorem miJ0_coder_7d493 : Cond.instanceMethod yJ0_coder_7d493 ∈ tw_TB := (tw_in_TB 580 (by decide +kernel) rfl)
theorem mqJ0_coder_7d493 : Cond.selects yJ0_coder_7d493.cls yJ0_coder_7d493 yJ0_coder_7d493 ∈ tw_TB := (tw_in_TB 581 (by decide +kernel) rfl)
theorem mbJ0_length_8abf5 : tw_mB yJ0_length_8abf5 cJ0_length_8abf5 1 (some .int) 0 := ⟨(tw_in_TB 578 (by decide +kernel) rfl), (tw_in_TB 64 (by decide +kernel) rfl), by decide +kernel⟩
theorem miJ0_length_8abf5 : Cond.instanceMethod yJ0_length_8abf5 ∈ tw_TB := (tw_in_TB 576 (by decide +kernel) rfl)
theorem mqJ0_length_8abf5 : Cond.selects yJ0_length_8abf5.cls yJ0_length_8abf5 yJ0_length_8abf5 ∈ tw_TB := (tw_in_TB 577 (by decide +kernel) rfl)
theorem mbJ0_isLatin1_aae02 : tw_mB yJ0_isLatin1_aae02 cJ0_isLatin1_aae02 1 (some .boolean) 0 := ⟨(tw_in_TB 592 (by decide +kernel) rfl), (tw_in_TB 64 (by decide +kernel) rfl), by decide +kernel⟩
theorem miJ0_isLatin1_aae02 : Cond.instanceMethod yJ0_isLatin1_aae02 ∈ tw_TB := (tw_in_TB 590 (by decide +kernel) rfl)
theorem mqJ0_isLatin1_aae02 : Cond.selects yJ0_isLatin1_aae02.cls yJ0_isLatin1_aae02 yJ0_isLatin1_aae02 ∈ tw_TB := (tw_in_TB 591 (by decide +kernel) rfl)
theorem mbJ0_charAt_5068e : tw_mB yJ0_charAt_5068e cJ0_charAt_5068e 2 (some .char) 1 := ⟨(tw_in_TB 588 (by decide +kernel) rfl), (tw_in_TB 64 (by decide +kernel) rfl), by decide +kernel⟩
theorem miJ0_charAt_5068e : Cond.instanceMethod yJ0_charAt_5068e ∈ tw_TB := (tw_in_TB 586 (by decide +kernel) rfl)
theorem mqJ0_charAt_5068e : Cond.selects yJ0_charAt_5068e.cls yJ0_charAt_5068e yJ0_charAt_5068e ∈ tw_TB := (tw_in_TB 587 (by decide +kernel) rfl)
theorem mbJ0_checkIndex_df160 : tw_mB yJ0_checkIndex_df160 cJ0_checkIndex_df160 2 none 2 := ⟨(tw_in_TB 598 (by decide +kernel) rfl), (tw_in_TB 64 (by decide +kernel) rfl), by decide +kernel⟩
theorem msJ0_checkIndex_df160 : Cond.static yJ0_checkIndex_df160 ∈ tw_TB := (tw_in_TB 597 (by decide +kernel) rfl)
theorem mbJ1_charAt_3b067 : tw_mB yJ1_charAt_3b067 cJ1_charAt_3b067 2 (some .char) 2 := ⟨(tw_in_TB 595 (by decide +kernel) rfl), (tw_in_TB 65 (by decide +kernel) rfl), by decide +kernel⟩
theorem msJ1_charAt_3b067 : Cond.static yJ1_charAt_3b067 ∈ tw_TB := (tw_in_TB 594 (by decide +kernel) rfl)
theorem mbJ3_checkIndex_8e157 : tw_mB yJ3_checkIndex_8e157 cJ3_checkIndex_8e157 3 (some .int) 3 := ⟨(tw_in_TB 603 (by decide +kernel) rfl), (tw_in_TB 66 (by decide +kernel) rfl), by decide +kernel⟩
theorem msJ3_checkIndex_8e157 : Cond.static yJ3_checkIndex_8e157 ∈ tw_TB := (tw_in_TB 602 (by decide +kernel) rfl)
theorem mlJ0_335 : tw_mL RJ0 335 yJ0_coder_7d493 := Or.inl (tw_in_TB 579 (by decide +kernel) rfl)
theorem mlJ0_492 : tw_mL RJ0 492 yJ0_isLatin1_aae02 := Or.inl (tw_in_TB 589 (by decide +kernel) rfl)
theorem mlJ0_495 : tw_mL RJ0 495 yJ1_charAt_3b067 := Or.inl (tw_in_TB 593 (by decide +kernel) rfl)
theorem mlJ1_9 : tw_mL RJ1 9 yJ0_checkIndex_df160 := Or.inl (tw_in_TB 596 (by decide +kernel) rfl)
theorem mlJ0_1059 : tw_mL RJ0 1059 yJ3_checkIndex_8e157 := Or.inl (tw_in_TB 601 (by decide +kernel) rfl)
theorem fsJ0_9 : Cond.fieldLink RJ0 9 "java/lang/String" "value" "[B" ∈ tw_TB := (tw_in_TB 1095 (by decide +kernel) rfl)
theorem fsJ0_15 : Cond.fieldLink RJ0 15 "java/lang/String" "coder" "B" ∈ tw_TB := (tw_in_TB 1096 (by decide +kernel) rfl)
theorem fsJ0_38 : Cond.fieldLink RJ0 38 "java/lang/String" "COMPACT_STRINGS" "Z" ∈ tw_TB := (tw_in_TB 583 (by decide +kernel) rfl)
theorem fsJ0_1053 : Cond.fieldLink RJ0 1053 "jdk/internal/util/Preconditions" "SIOOBE_FORMATTER" "Ljava/util/function/BiFunction;" ∈ tw_TB := (tw_in_TB 599 (by decide +kernel) rfl)
def rmS (f k : Nat) : Room := { frames := f, cells := 0, slots := 0, locals := k }
section TW6
variable {p : Program} {l : Launch} {e : Env} {R : Room} {s : State} {m : MethodId} {args : Array Value} {below : List Frame} {meth : Method} {c : Code} {H : Heap} {locs : List Loc} {cells slots : Nat} {Q : State → Prop}
variable {cc : ByteArray} {pc nL idx : Nat} {ls : Array Slot} {rest : List Value} {a : Nat} {G : tw_G} {sz : Nat} {h : tm_H} {own : String} {ret : Option FieldType} {α : Type} {x : α}
theorem tw_str_of (C : tw_C G p s m args meth c own cc nL ret) : tw_str G s := C.2.2.2.2.2.2.2.2.2.1
theorem tw_sR0 (C : tw_C G p s m args meth c own cc nL ret) : vk_R RX2 49 "ch" (G.2.2.2.2.1 0) s := (tw_str_of C).2.1
theorem tw_sR1 (C : tw_C G p s m args meth c own cc nL ret) : vk_R RX2 59 "term" (G.2.2.2.2.1 1) s := (tw_str_of C).2.2.1
theorem tw_sR2 (C : tw_C G p s m args meth c own cc nL ret) : vk_R RX2 64 "form" (G.2.2.2.2.1 2) s := (tw_str_of C).2.2.2.1
theorem tw_low (hR : tw_Rel G sz h H) {q : Nat} (hq : ¬ G.2.2.1 ≤ q) : H[q]? = G.2.2.2.1[q]? := hR.2.2.1 q (Nat.not_le.mp hq)
/-- a text's field -/
theorem tw_sget (C : tw_C G p s m args meth c own cc nL ret) (hR : tw_Rel G sz h H) {n d : String} {v : Value} (hv : va_OF "java/lang/String" n d v a (fun q => G.2.2.1 ≤ q) s G.2.2.2.1) (hl : Cond.fieldLink own idx "java/lang/String" n d ∈ tw_TB) (hdg : decode cc pc = .ok (.getfield idx, 3))
    (kk : W p l e R s m args below meth c H locs cells slots Q (F0 m (pc + 3) ls (v :: rest))) : W p l e R s m args below meth c H locs cells slots Q (F0 m pc ls (.ref a :: rest)) := by
  obtain ⟨cf, k, i, f, cell, h1, h2, h3, h4, h5, h6⟩ := hv
  exact W.getf C.1 C.2.1 C.2.2.2.1 (C.2.2.2.2.1 _ hl) h1 h2 (by rw [tw_low hR h6]; exact h3) h4 (v := v) h5 rfl rfl hdg kk
theorem tw_sgets (C : tw_C G p s m args meth c own cc nL ret) (hR : tw_Rel G sz h H) {cn n d : String} {v : Value} (hv : va_Z cn n d v (fun q => G.2.2.1 ≤ q) s G.2.2.2.1) (hl : Cond.fieldLink own idx cn n d ∈ tw_TB) (hdg : decode cc pc = .ok (.getstatic idx, 3))
    (kk : W p l e R s m args below meth c H locs cells slots Q (F0 m (pc + 3) ls (v :: rest))) : W p l e R s m args below meth c H locs cells slots Q (F0 m pc ls rest) := by
  obtain ⟨cf, kf, fi, f, a, cell, h1, h2, h3, h4, h5, h6, h7, h8⟩ := hv
  exact W.gets C.1 C.2.1 C.2.2.2.1 (C.2.2.2.2.1 _ hl) h1 h2 h3 h4 (by rw [tw_low hR h8]; exact h5) (fun e => by rw [e] at h6; cases h6) h7 rfl hdg kk
theorem tw_salen (C : tw_C G p s m args meth c own cc nL ret) (hR : tw_Rel G sz h H) {N : Nat} {f : Nat → Value} (hT : va_T .byte a N f (fun q => G.2.2.1 ≤ q) s G.2.2.2.1) (hdg : decode cc pc = .ok (.arraylength, 1))
    (kk : W p l e R s m args below meth c H locs cells slots Q (F0 m (pc + 1) ls (.int (tw_I (N : Int)) :: rest))) : W p l e R s m args below meth c H locs cells slots Q (F0 m pc ls (.ref a :: rest)) := by
  obtain ⟨cell, h1, h2, h3, h4, h5, h6, h7⟩ := hT
  exact W.alen (n := Int32.ofNat N) C.1 C.2.1 (by rw [tw_low hR h7]; exact h1) h2 h5 rfl rfl hdg (by rw [show Int32.ofNat N = tw_I (N : Int) from (Int32.ofInt_eq_ofNat).symm]; exact kk)
theorem tw_sbald (C : tw_C G p s m args meth c own cc nL ret) (hR : tw_Rel G sz h H) {N : Nat} {f : Nat → Value} (hT : va_T .byte a N f (fun q => G.2.2.1 ≤ q) s G.2.2.2.1) {i : Int} (h0 : 0 ≤ i) (h1 : i < N) (hN : N < 2147483648) (hdg : decode cc pc = .ok (.baload, 1))
    (kk : W p l e R s m args below meth c H locs cells slots Q (F0 m (pc + 1) ls (f i.toNat :: rest))) : W p l e R s m args below meth c H locs cells slots Q (F0 m pc ls (.int (tw_I i) :: .ref a :: rest)) := by
  obtain ⟨cell, e1, e2, e3, e4, e5, e6, e7⟩ := hT
  have hin := tw_in h0 h1 hN
  have hcl := tw_clamp h0 h1 hN
  have hlt : (tw_I i).toNatClampNeg < N := by rw [hcl]; omega
  exact W.bald (v := f i.toNat) C.1 C.2.1 (by rw [tw_low hR e7]; exact e1) e2 e3 (fun q => by
    rcases q with q | q
    · exact hin (Or.inl q)
    · omega) (by rw [e6 _ hlt, hcl]) rfl rfl hdg kk
theorem tw_runVr {y : MethodName} {bytes : ByteArray} {maxL n mc ms : Nat} {yret : Option FieldType} {rm : Room} {Qc : Array Value → State → Outcome → State → Prop} {b : Nat} {As : List Value} {st : List Value} (C : tw_C G p s m args meth c own cc nL ret) (hR : tw_Rel G sz h H) (hM : Met l y (tw_WS y bytes maxL yret) rm (va_Pc (.ref b :: As) (tw_Pre G sz h)) Qc mc ms (tw_F G)) (S : tw_mB y bytes maxL yret n) (hi : Cond.instanceMethod y ∈ tw_TB) (hse : Cond.selects y.cls y y ∈ tw_TB) (hl : tw_mL own idx y) (hrm : rm.cells = mc ∧ rm.slots = ms) (hRm : rm.frames + 1 ≤ R.frames ∧ 8 + (maxL + 11) + rm.locals ≤ R.locals)
    (hrecv : ∃ cell : Cell, H[b]? = some cell ∧ cell.vm.isStatics = false ∧ s.vm.findClass y.cls = some cell.cls) (hn : As.length = n) (hsz : ls.size = nL) (hst : st = As.reverse ++ .ref b :: rest) (hW : (rest.map fun v => v.category).sum ≤ 8) (hdg : decode cc pc = .ok (.invokevirtual idx, 3)) (hf : cells + mc ≤ R.cells ∧ slots + ms ≤ R.slots) :
    va_Run p l e R s m args below meth c H locs cells slots mc ms (F0 m pc ls st) rest (Qc (Value.ref b :: As).toArray) (tw_F G) := by
  have hp : PreV s H y.cls b (va_Pc (.ref b :: As) (tw_Pre G sz h)) As := ⟨tw_blind, hrecv, fun U hU hW => ⟨rfl, by rw [hU]; exact hR, C.2.2.2.2.2.2.2.warm hW⟩⟩
  have hF : CallFix p m c cc nL s args tw_TB own := ⟨C.1, C.2.1, C.2.2.1, C.2.2.2.1, C.2.2.2.2.1⟩
  have ht := C.2.2.2.2.1
  rcases hl with hl | ⟨host, hl⟩
  · exact va_runV hF hM ⟨tw_cbk C S hl hrm hRm, ht _ hi, ht _ hse⟩ hp rfl hn hsz hst (lv_room hW) hdg hf
  · exact va_runVN hF hM ⟨tw_cbn C S hl hrm hRm, ht _ hi, ht _ hse⟩ hp rfl hn hsz hst (lv_room hW) hdg hf
theorem tw_srecv (C : tw_C G p s m args meth c own cc nL ret) (hR : tw_Rel G sz h H) {w : Nat} (hw : w < 3) : ∃ cell : Cell, H[G.2.2.2.2.1 w]? = some cell ∧ cell.vm.isStatics = false ∧ s.vm.findClass "java/lang/String" = some cell.cls := by
  obtain ⟨cell, h1, h2, h3, h4⟩ := ((tw_str_of C).1.1 w hw).1
  exact ⟨cell, by rw [tw_low hR h4]; exact h1, h2, h3⟩
/-- an int of a small type as a method answers it -/
theorem tw_nret {ty : FieldType} (C : tw_C G p s m args meth c own cc nL (some ty)) {v : Int} (hR : tw_Rel G sz h H) (hL : tw_L G locs) (gv : tm_rg v) (hn : narrow ty (.int (tw_I v)) = .int (tw_I v)) (hdg : decode cc pc = .ok (.ireturn, 1)) : W p l e R s m args below meth c H locs cells slots (MQ below (tw_Qi G sz v h) args s cells slots (tw_F G)) (F0 m pc ls [.int (tw_I v)]) :=
  W.zret C.1 C.2.1 C.2.2.2.2.2.1 hn (fun t ht hW => ⟨rfl, gv, by rw [ht]; exact hR⟩) hL hdg (hlocks := C.2.2.2.2.2.2.1)
end TW6
set_option maxRecDepth 100000 in
theorem cJ0_coder_ok (l : Launch) (G : tw_G) (sz : Nat) (w : Nat) (hw : w < 3) (h : tm_H) : Met l yJ0_coder_7d493 (tw_WS yJ0_coder_7d493 cJ0_coder_7d493 1 (some .byte)) (rmS 0 0) (va_Pc [.ref (G.2.2.2.2.1 w)] (tw_Pre G sz h)) (tw_Qi G sz 0 h) 0 0 (tw_F G) := by
  refine tw_met (by decide +kernel) (Nat.le_of_ble_eq_true rfl) ?_
  intro p e s m args below meth c H ls hC hnm hR hl
  have hl : lv_has ls 1 [(0, .ref (G.2.2.2.2.1 w))] := hl
  have hL : tw_L G [] := fun q z => by cases z
  have hS := tw_str_of hC
  refine tw_sgets hC hR hS.2.2.2.2.1 fsJ0_38 dJ0_coder_7d493_0 ?_
  refine lv_if_eq (tgt := 13) hC.1 hC.2.1 dJ0_coder_7d493_3 (by decide) (fun z => absurd z (by decide)) (fun _ => ?_)
  refine lv_aload_n hC.1 hC.2.1 dJ0_coder_7d493_6 rfl (lv_at hl 0 rfl) ?_
  refine tw_sget hC hR (hS.1.1 w hw).2.1 fsJ0_15 dJ0_coder_7d493_7 ?_
  refine lv_goto (tgt := 14) hC.1 hC.2.1 dJ0_coder_7d493_10 (by decide) ?_
  exact tw_nret (v := 0) hC hR hL tw_rg0 (by decide +kernel) dJ0_coder_7d493_14
set_option maxRecDepth 100000 in
theorem cJ0_isLatin1_ok (l : Launch) (G : tw_G) (sz : Nat) (w : Nat) (hw : w < 3) (h : tm_H) : Met l yJ0_isLatin1_aae02 (tw_WS yJ0_isLatin1_aae02 cJ0_isLatin1_aae02 1 (some .boolean)) (rmS 0 0) (va_Pc [.ref (G.2.2.2.2.1 w)] (tw_Pre G sz h)) (tw_Qi G sz 1 h) 0 0 (tw_F G) := by
  refine tw_met (by decide +kernel) (Nat.le_of_ble_eq_true rfl) ?_
  intro p e s m args below meth c H ls hC hnm hR hl
  have hl : lv_has ls 1 [(0, .ref (G.2.2.2.2.1 w))] := hl
  have hL : tw_L G [] := fun q z => by cases z
  have hS := tw_str_of hC
  refine tw_sgets hC hR hS.2.2.2.2.1 fsJ0_38 dJ0_isLatin1_aae02_0 ?_
  refine lv_if_eq (tgt := 17) hC.1 hC.2.1 dJ0_isLatin1_aae02_3 (by decide) (fun z => absurd z (by decide)) (fun _ => ?_)
  refine lv_aload_n hC.1 hC.2.1 dJ0_isLatin1_aae02_6 rfl (lv_at hl 0 rfl) ?_
  refine tw_sget hC hR (hS.1.1 w hw).2.1 fsJ0_15 dJ0_isLatin1_aae02_7 ?_
  refine lv_if_ne (tgt := 17) hC.1 hC.2.1 dJ0_isLatin1_aae02_10 (by decide) (fun z => absurd rfl z) (fun _ => ?_)
  refine lv_iconst (v := tw_I 1) hC.1 hC.2.1 dJ0_isLatin1_aae02_13 rfl ?_
  refine lv_goto (tgt := 18) hC.1 hC.2.1 dJ0_isLatin1_aae02_14 (by decide) ?_
  exact tw_nret (v := 1) hC hR hL (by unfold tm_rg; omega) (by decide +kernel) dJ0_isLatin1_aae02_18
theorem tm_slv {w : Nat} (hw : w < 3) : tm_rg (((tm_sb.getD w []).length : Nat) : Int) ∧ tm_shr (((tm_sb.getD w []).length : Nat) : Int) 0 = (((tm_sb.getD w []).length : Nat) : Int) ∧ tw_sl.getD w 0 = (tm_sb.getD w []).length ∧ (tm_sb.getD w []).length < 2147483648 := by
  rcases (show w = 0 ∨ w = 1 ∨ w = 2 by omega) with rfl | rfl | rfl
  · exact ⟨by show tm_rg 2; unfold tm_rg; omega, by decide +kernel, rfl, by decide⟩
  · exact ⟨by show tm_rg 4; unfold tm_rg; omega, by decide +kernel, rfl, by decide⟩
  · exact ⟨by show tm_rg 4; unfold tm_rg; omega, by decide +kernel, rfl, by decide⟩
set_option maxRecDepth 100000 in
theorem cJ0_length_ok (l : Launch) (G : tw_G) (sz : Nat) (w : Nat) (hw : w < 3) (h : tm_H) : Met l yJ0_length_8abf5 (tw_WS yJ0_length_8abf5 cJ0_length_8abf5 1 (some .int)) (rmS 1 20) (va_Pc [.ref (G.2.2.2.2.1 w)] (tw_Pre G sz h)) (tw_Qi G sz (((tm_sb.getD w []).length : Nat) : Int) h) 0 0 (tw_F G) := by
  refine tw_met (by decide +kernel) (Nat.le_of_ble_eq_true rfl) ?_
  intro p e s m args below meth c H ls hC hnm hR hl
  have hl : lv_has ls 1 [(0, .ref (G.2.2.2.2.1 w))] := hl
  have hL : tw_L G [] := fun q z => by cases z
  have hS := tw_str_of hC
  obtain ⟨g1, g2, g3, g4⟩ := tm_slv hw
  refine lv_aload_n hC.1 hC.2.1 dJ0_length_8abf5_0 rfl (lv_at hl 0 rfl) ?_
  refine tw_sget hC hR (hS.1.1 w hw).2.2.1 fsJ0_9 dJ0_length_8abf5_1 ?_
  refine tw_salen hC hR (hS.1.1 w hw).2.2.2 dJ0_length_8abf5_4 ?_
  rw [g3]
  refine lv_aload_n hC.1 hC.2.1 dJ0_length_8abf5_5 rfl (lv_at hl 0 rfl) ?_
  refine tw_backi (tw_runVr (As := []) hC hR (cJ0_coder_ok l G sz w hw h) mbJ0_coder_7d493 miJ0_coder_7d493 mqJ0_coder_7d493 mlJ0_335 ⟨rfl, rfl⟩ ⟨by decide, by decide⟩ (tw_srecv hC hR hw) rfl hl.1 rfl (Nat.le_of_ble_eq_true rfl) dJ0_length_8abf5_6 ⟨Nat.zero_le _, Nat.zero_le _⟩) hL (fun H locs hR hL _ => ?_)
  refine tw_ishr hC dJ0_length_8abf5_9 ?_
  rw [g2]
  exact tw_iret hC hR hL g1 rfl rfl dJ0_length_8abf5_10
set_option maxRecDepth 100000 in
theorem cJ3_checkIndex_ok (l : Launch) (G : tw_G) (sz : Nat) (i n : Int) (v : Value) (hv : v = .null ∨ ∃ r, v = .ref r) (gi : tm_rg i) (gn : tm_rg n) (h0 : 0 ≤ i) (h1 : i < n) (h : tm_H) : Met l yJ3_checkIndex_8e157 (tw_WS yJ3_checkIndex_8e157 cJ3_checkIndex_8e157 3 (some .int)) (rmS 0 0) (va_Pc [.int (tw_I i), .int (tw_I n), v] (tw_Pre G sz h)) (tw_Qi G sz i h) 0 0 (tw_F G) := by
  have hlen : (lg_sl [.int (tw_I i), .int (tw_I n), v]).length ≤ 3 := by rcases hv with rfl | ⟨r, rfl⟩ <;> exact Nat.le_of_ble_eq_true rfl
  refine tw_met (by decide +kernel) hlen ?_
  intro p e s m args below meth c H ls hC hnm hR hl
  have hl : lv_has ls 3 [(0, .int (tw_I i)), (1, .int (tw_I n))] := by
    rcases hv with rfl | ⟨r, rfl⟩
    · exact lv_sub hl [0, 1] rfl
    · exact lv_sub hl [0, 1] rfl
  have hL : tw_L G [] := fun q z => by cases z
  refine lv_iload_n hC.1 hC.2.1 dJ3_checkIndex_8e157_0 rfl (lv_at hl 0 rfl) ?_
  refine lv_if_lt (tgt := 9) hC.1 hC.2.1 dJ3_checkIndex_8e157_1 (by decide) (fun z => absurd ((tw_I_lt gi tw_rg0).mp (by rw [tw_I_zero]; exact z)) (by omega)) (fun _ => ?_)
  refine lv_iload_n hC.1 hC.2.1 dJ3_checkIndex_8e157_4 rfl (lv_at hl 0 rfl) ?_
  refine lv_iload_n hC.1 hC.2.1 dJ3_checkIndex_8e157_5 rfl (lv_at hl 1 rfl) ?_
  refine lv_icmp_lt (tgt := 16) hC.1 hC.2.1 dJ3_checkIndex_8e157_6 (by decide) (fun _ => ?_) (fun z => absurd ((tw_I_lt gi gn).mpr h1) z)
  refine lv_iload_n hC.1 hC.2.1 dJ3_checkIndex_8e157_16 rfl (lv_at hl 0 rfl) ?_
  exact tw_iret hC hR hL gi rfl rfl dJ3_checkIndex_8e157_17
set_option maxRecDepth 100000 in
theorem cJ0_checkIndex_ok (l : Launch) (G : tw_G) (sz : Nat) (i n : Int) (gi : tm_rg i) (gn : tm_rg n) (h0 : 0 ≤ i) (h1 : i < n) (h : tm_H) : Met l yJ0_checkIndex_df160 (tw_WS yJ0_checkIndex_df160 cJ0_checkIndex_df160 2 none) (rmS 1 22) (va_Pc [.int (tw_I i), .int (tw_I n)] (tw_Pre G sz h)) (tw_Qv G sz h) 0 0 (tw_F G) := by
  refine tw_met (by decide +kernel) (Nat.le_of_ble_eq_true rfl) ?_
  intro p e s m args below meth c H ls hC hnm hR hl
  have hl : lv_has ls 2 [(0, .int (tw_I i)), (1, .int (tw_I n))] := hl
  have hL : tw_L G [] := fun q z => by cases z
  have hS := tw_str_of hC
  have hz : ∃ v : Value, (v = .null ∨ ∃ r, v = .ref r) ∧ va_Z "jdk/internal/util/Preconditions" "SIOOBE_FORMATTER" "Ljava/util/function/BiFunction;" v (fun q => G.2.2.1 ≤ q) s G.2.2.2.1 := by
    rcases hS.2.2.2.2.2 with z | ⟨t, z⟩
    · exact ⟨_, Or.inl rfl, z⟩
    · exact ⟨_, Or.inr ⟨t, rfl⟩, z⟩
  obtain ⟨v, hv, hz⟩ := hz
  refine lv_iload_n hC.1 hC.2.1 dJ0_checkIndex_df160_0 rfl (lv_at hl 0 rfl) ?_
  refine lv_iload_n hC.1 hC.2.1 dJ0_checkIndex_df160_1 rfl (lv_at hl 1 rfl) ?_
  refine tw_sgets hC hR hz fsJ0_1053 dJ0_checkIndex_df160_2 ?_
  refine tw_backi (tw_runS (As := [.int (tw_I i), .int (tw_I n), v]) (rest := []) hC hR (cJ3_checkIndex_ok l G sz i n v hv gi gn h0 h1 h) mbJ3_checkIndex_8e157 msJ3_checkIndex_8e157 mlJ0_1059 ⟨rfl, rfl⟩ ⟨by decide, by decide⟩ rfl hl.1 rfl (Nat.le_of_ble_eq_true rfl) dJ0_checkIndex_df160_5 ⟨Nat.zero_le _, Nat.zero_le _⟩) hL (fun H locs hR hL _ => ?_)
  refine lv_pop hC.1 hC.2.1 dJ0_checkIndex_df160_8 rfl ?_
  exact tw_vret hC hR hL rfl dJ0_checkIndex_df160_9
/-- the signs' numbers -/
theorem tm_scv {w : Nat} {i : Int} (hw : w < 3) (h0 : 0 ≤ i) (h1 : i < ((tm_sb.getD w []).length : Nat)) : ∃ b : Int, tm_rg b ∧ (tw_sb.getD w []).getD i.toNat 0 = tw_I b ∧ tm_rg ((tm_sb.getD w []).getD i.toNat 0) ∧ ((tw_I b &&& tw_I 255).toUInt32 % 65536).toInt32 = tw_I ((tm_sb.getD w []).getD i.toNat 0) ∧ narrow .char (.int (tw_I ((tm_sb.getD w []).getD i.toNat 0))) = .int (tw_I ((tm_sb.getD w []).getD i.toNat 0)) := by
  have key : ∀ (n : Nat), n < 123 → 0 ≤ n → tm_rg (n : Int) := fun n hn _ => by unfold tm_rg; omega
  rcases (show w = 0 ∨ w = 1 ∨ w = 2 by omega) with rfl | rfl | rfl
  · have h2 : i < 2 := h1
    rcases (show i = 0 ∨ i = 1 by omega) with rfl | rfl
    · exact ⟨99, key 99 (by decide) (by decide), by decide +kernel, key 99 (by decide) (by decide), by decide +kernel, by decide +kernel⟩
    · exact ⟨104, key 104 (by decide) (by decide), by decide +kernel, key 104 (by decide) (by decide), by decide +kernel, by decide +kernel⟩
  · have h2 : i < 4 := h1
    rcases (show i = 0 ∨ i = 1 ∨ i = 2 ∨ i = 3 by omega) with rfl | rfl | rfl | rfl
    · exact ⟨116, key 116 (by decide) (by decide), by decide +kernel, key 116 (by decide) (by decide), by decide +kernel, by decide +kernel⟩
    · exact ⟨101, key 101 (by decide) (by decide), by decide +kernel, key 101 (by decide) (by decide), by decide +kernel, by decide +kernel⟩
    · exact ⟨114, key 114 (by decide) (by decide), by decide +kernel, key 114 (by decide) (by decide), by decide +kernel, by decide +kernel⟩
    · exact ⟨109, key 109 (by decide) (by decide), by decide +kernel, key 109 (by decide) (by decide), by decide +kernel, by decide +kernel⟩
  · have h2 : i < 4 := h1
    rcases (show i = 0 ∨ i = 1 ∨ i = 2 ∨ i = 3 by omega) with rfl | rfl | rfl | rfl
    · exact ⟨102, key 102 (by decide) (by decide), by decide +kernel, key 102 (by decide) (by decide), by decide +kernel, by decide +kernel⟩
    · exact ⟨111, key 111 (by decide) (by decide), by decide +kernel, key 111 (by decide) (by decide), by decide +kernel, by decide +kernel⟩
    · exact ⟨114, key 114 (by decide) (by decide), by decide +kernel, key 114 (by decide) (by decide), by decide +kernel, by decide +kernel⟩
    · exact ⟨109, key 109 (by decide) (by decide), by decide +kernel, key 109 (by decide) (by decide), by decide +kernel, by decide +kernel⟩
set_option maxRecDepth 100000 in
theorem cJ1_charAt_ok (l : Launch) (G : tw_G) (sz : Nat) (w : Nat) (i : Int) (gi : tm_rg i) (hw : w < 3) (h0 : 0 ≤ i) (h1 : i < ((tm_sb.getD w []).length : Nat)) (h : tm_H) : Met l yJ1_charAt_3b067 (tw_WS yJ1_charAt_3b067 cJ1_charAt_3b067 2 (some .char)) (rmS 2 43) (va_Pc [.ref (G.2.2.2.2.2 w), .int (tw_I i)] (tw_Pre G sz h)) (tw_Qi G sz ((tm_sb.getD w []).getD i.toNat 0) h) 0 0 (tw_F G) := by
  refine tw_met (by decide +kernel) (Nat.le_of_ble_eq_true rfl) ?_
  intro p e s m args below meth c H ls hC hnm hR hl
  have hl : lv_has ls 2 [(0, .ref (G.2.2.2.2.2 w)), (1, .int (tw_I i))] := hl
  have hL : tw_L G [] := fun q z => by cases z
  have hS := tw_str_of hC
  obtain ⟨g1, g2, g3, g4⟩ := tm_slv hw
  obtain ⟨b, b1, b2, b3, b4, b5⟩ := tm_scv hw h0 h1
  refine lv_iload_n hC.1 hC.2.1 dJ1_charAt_3b067_0 rfl (lv_at hl 1 rfl) ?_
  refine lv_aload_n hC.1 hC.2.1 dJ1_charAt_3b067_1 rfl (lv_at hl 0 rfl) ?_
  refine tw_salen hC hR (hS.1.1 w hw).2.2.2 dJ1_charAt_3b067_2 ?_
  rw [g3]
  refine tw_backv (tw_runS (As := [.int (tw_I i), .int (tw_I (((tm_sb.getD w []).length : Nat) : Int))]) (rest := []) hC hR (cJ0_checkIndex_ok l G sz i _ gi g1 h0 h1 h) mbJ0_checkIndex_df160 msJ0_checkIndex_df160 mlJ1_9 ⟨rfl, rfl⟩ ⟨by decide, by decide⟩ rfl hl.1 rfl (Nat.le_of_ble_eq_true rfl) dJ1_charAt_3b067_3 ⟨Nat.zero_le _, Nat.zero_le _⟩) hL (fun H locs hR hL => ?_)
  refine lv_aload_n hC.1 hC.2.1 dJ1_charAt_3b067_6 rfl (lv_at hl 0 rfl) ?_
  refine lv_iload_n hC.1 hC.2.1 dJ1_charAt_3b067_7 rfl (lv_at hl 1 rfl) ?_
  refine tw_sbald hC hR (hS.1.1 w hw).2.2.2 h0 (by rw [g3]; exact h1) (by rw [g3]; exact g4) dJ1_charAt_3b067_8 ?_
  rw [b2]
  refine lv_sipush (v := tw_I 255) hC.1 hC.2.1 dJ1_charAt_3b067_9 (by decide) ?_
  refine lv_iand hC.1 hC.2.1 dJ1_charAt_3b067_12 ?_
  refine lv_i2c hC.1 hC.2.1 dJ1_charAt_3b067_13 b4 ?_
  exact tw_nret hC hR hL b3 b5 dJ1_charAt_3b067_14
set_option maxRecDepth 100000 in
theorem cJ0_charAt_ok (l : Launch) (G : tw_G) (sz : Nat) (w : Nat) (i : Int) (gi : tm_rg i) (hw : w < 3) (h0 : 0 ≤ i) (h1 : i < ((tm_sb.getD w []).length : Nat)) (h : tm_H) : Met l yJ0_charAt_5068e (tw_WS yJ0_charAt_5068e cJ0_charAt_5068e 2 (some .char)) (rmS 4 85) (va_Pc [.ref (G.2.2.2.2.1 w), .int (tw_I i)] (tw_Pre G sz h)) (tw_Qi G sz ((tm_sb.getD w []).getD i.toNat 0) h) 0 0 (tw_F G) := by
  refine tw_met (by decide +kernel) (Nat.le_of_ble_eq_true rfl) ?_
  intro p e s m args below meth c H ls hC hnm hR hl
  have hl : lv_has ls 2 [(0, .ref (G.2.2.2.2.1 w)), (1, .int (tw_I i))] := hl
  have hL : tw_L G [] := fun q z => by cases z
  have hS := tw_str_of hC
  obtain ⟨b, b1, b2, b3, b4, b5⟩ := tm_scv hw h0 h1
  refine lv_aload_n hC.1 hC.2.1 dJ0_charAt_5068e_0 rfl (lv_at hl 0 rfl) ?_
  refine tw_backi (tw_runVr (As := []) (rest := []) hC hR (cJ0_isLatin1_ok l G sz w hw h) mbJ0_isLatin1_aae02 miJ0_isLatin1_aae02 mqJ0_isLatin1_aae02 mlJ0_492 ⟨rfl, rfl⟩ ⟨by decide, by decide⟩ (tw_srecv hC hR hw) rfl hl.1 rfl (Nat.le_of_ble_eq_true rfl) dJ0_charAt_5068e_1 ⟨Nat.zero_le _, Nat.zero_le _⟩) hL (fun H locs hR hL _ => ?_)
  refine lv_if_eq (tgt := 16) hC.1 hC.2.1 dJ0_charAt_5068e_4 (by decide) (fun z => absurd z (by decide)) (fun _ => ?_)
  refine lv_aload_n hC.1 hC.2.1 dJ0_charAt_5068e_7 rfl (lv_at hl 0 rfl) ?_
  refine tw_sget hC hR (hS.1.1 w hw).2.2.1 fsJ0_9 dJ0_charAt_5068e_8 ?_
  refine lv_iload_n hC.1 hC.2.1 dJ0_charAt_5068e_11 rfl (lv_at hl 1 rfl) ?_
  refine tw_backi (tw_runS (As := [.ref (G.2.2.2.2.2 w), .int (tw_I i)]) (rest := []) hC hR (cJ1_charAt_ok l G sz w i gi hw h0 h1 h) mbJ1_charAt_3b067 msJ1_charAt_3b067 mlJ0_495 ⟨rfl, rfl⟩ ⟨by decide, by decide⟩ rfl hl.1 rfl (Nat.le_of_ble_eq_true rfl) dJ0_charAt_5068e_12 ⟨Nat.zero_le _, Nat.zero_le _⟩) hL (fun H locs hR hL _ => ?_)
  exact tw_nret hC hR hL b3 b5 dJ0_charAt_5068e_15
section TW7
variable {p : Program} {l : Launch} {e : Env} {R : Room} {s : State} {m : MethodId} {args : Array Value} {below : List Frame} {meth : Method} {c : Code} {H : Heap} {locs : List Loc} {cells slots : Nat} {Q : State → Prop}
variable {cc : ByteArray} {pc nL idx : Nat} {ls : Array Slot} {rest : List Value} {a : Nat} {G : tw_G} {sz : Nat} {h : tm_H} {own : String} {ret : Option FieldType} {α : Type} {x : α}
theorem tw_slen (C : tw_C G p s m args meth c own cc nL ret) (hR : tw_Rel G sz h H) (hL : tw_L G locs) {w : Nat} {F : Int → Option α} (hk : (tm_sl w).bind F = some x) (hl : tw_mL own idx yJ0_length_8abf5) (hRm : 1 + 1 ≤ R.frames ∧ 8 + (1 + 11) + 20 ≤ R.locals) (hsz : ls.size = nL) (hW : (rest.map fun v => v.category).sum ≤ 8) (hdg : decode cc pc = .ok (.invokevirtual idx, 3)) (hf : cells + 0 ≤ R.cells ∧ slots + 0 ≤ R.slots)
    (kk : ∀ (v : Int) (H1 : Heap) (locs1 : List Loc), tw_Rel G sz h H1 → tw_L G locs1 → tm_rg v → F v = some x → W p l e R s m args below meth c H1 locs1 (cells + 0) (slots + 0) Q (F0 m (pc + 3) ls (.int (tw_I v) :: rest))) : W p l e R s m args below meth c H locs cells slots Q (F0 m pc ls (.ref (G.2.2.2.2.1 w) :: rest)) := by
  obtain ⟨v, hv, hF⟩ := Option.bind_eq_some_iff.mp hk
  unfold tm_sl at hv
  by_cases hw : w < 3
  · rw [if_pos hw] at hv
    cases hv
    exact tw_backi (tw_runVr (As := []) C hR (cJ0_length_ok l G sz w hw h) mbJ0_length_8abf5 miJ0_length_8abf5 mqJ0_length_8abf5 hl ⟨rfl, rfl⟩ hRm (tw_srecv C hR hw) rfl hsz rfl hW hdg hf) hL (fun H1 locs1 a b g => kk _ H1 locs1 a b g hF)
  · rw [if_neg hw] at hv
    cases hv
theorem tw_schar (C : tw_C G p s m args meth c own cc nL ret) (hR : tw_Rel G sz h H) (hL : tw_L G locs) {w : Nat} {i : Int} (gi : tm_rg i) {F : Int → Option α} (hk : (tm_sc w i).bind F = some x) (hl : tw_mL own idx yJ0_charAt_5068e) (hRm : 4 + 1 ≤ R.frames ∧ 8 + (2 + 11) + 85 ≤ R.locals) (hsz : ls.size = nL) (hW : (rest.map fun v => v.category).sum ≤ 8) (hdg : decode cc pc = .ok (.invokevirtual idx, 3)) (hf : cells + 0 ≤ R.cells ∧ slots + 0 ≤ R.slots)
    (kk : ∀ (v : Int) (H1 : Heap) (locs1 : List Loc), tw_Rel G sz h H1 → tw_L G locs1 → tm_rg v → F v = some x → W p l e R s m args below meth c H1 locs1 (cells + 0) (slots + 0) Q (F0 m (pc + 3) ls (.int (tw_I v) :: rest))) : W p l e R s m args below meth c H locs cells slots Q (F0 m pc ls (.int (tw_I i) :: .ref (G.2.2.2.2.1 w) :: rest)) := by
  obtain ⟨v, hv, hF⟩ := Option.bind_eq_some_iff.mp hk
  unfold tm_sc at hv
  by_cases hw : w < 3 ∧ 0 ≤ i ∧ i < ((tm_sb.getD w []).length : Nat)
  · rw [if_pos hw] at hv
    cases hv
    exact tw_backi (tw_runVr (As := [.int (tw_I i)]) C hR (cJ0_charAt_ok l G sz w i gi hw.1 hw.2.1 hw.2.2 h) mbJ0_charAt_5068e miJ0_charAt_5068e mqJ0_charAt_5068e hl ⟨rfl, rfl⟩ hRm (tw_srecv C hR hw.1) rfl hsz rfl hW hdg hf) hL (fun H1 locs1 a b g => kk _ H1 locs1 a b g hF)
  · rw [if_neg hw] at hv
    cases hv
end TW7
