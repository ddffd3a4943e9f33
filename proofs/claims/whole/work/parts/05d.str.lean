/-! the texts "ch", "term", "form" -/
def tm_sb : List (List Int) := [[99, 104], [116, 101, 114, 109], [102, 111, 114, 109]]
def tm_sl (w : Nat) : Option Int := if w < 3 then some (((tm_sb.getD w []).length : Nat) : Int) else none
def tm_sc (w : Nat) (i : Int) : Option Int := if w < 3 ∧ 0 ≤ i ∧ i < ((tm_sb.getD w []).length : Nat) then some ((tm_sb.getD w []).getD i.toNat 0) else none
section TW6
variable {p : Program} {l : Launch} {e : Env} {R : Room} {s : State} {m : MethodId} {args : Array Value} {below : List Frame} {meth : Method} {c : Code} {H : Heap} {locs : List Loc} {cells slots : Nat} {Q : State → Prop}
variable {cc : ByteArray} {pc nL idx : Nat} {ls : Array Slot} {rest : List Value} {a : Nat} {G : tw_G} {sz : Nat} {h : tm_H} {own : String} {ret : Option FieldType} {α : Type} {x : α}
theorem tw_sR0 (C : tw_C G p s m args meth c own cc nL ret) : vk_R RX2 49 "ch" (G.2.2.2.2.1 0) s := C.2.2.2.2.2.2.2.2.2.1.2.1
theorem tw_sR1 (C : tw_C G p s m args meth c own cc nL ret) : vk_R RX2 59 "term" (G.2.2.2.2.1 1) s := C.2.2.2.2.2.2.2.2.2.1.2.2.1
theorem tw_sR2 (C : tw_C G p s m args meth c own cc nL ret) : vk_R RX2 64 "form" (G.2.2.2.2.1 2) s := C.2.2.2.2.2.2.2.2.2.1.2.2.2.1
theorem tw_slen (C : tw_C G p s m args meth c own cc nL ret) (hR : tw_Rel G sz h H) (hL : tw_L G locs) {w : Nat} {F : Int → Option α} (hk : (tm_sl w).bind F = some x) (hl : tw_mL own idx yJ0_length_8abf5) (hRm : 1 + 1 ≤ R.frames ∧ 8 + (1 + 11) + 20 ≤ R.locals) (hsz : ls.size = nL) (hW : (rest.map fun v => v.category).sum ≤ 8) (hdg : decode cc pc = .ok (.invokevirtual idx, 3))
    (kk : ∀ (v : Int) (H1 : Heap) (locs1 : List Loc), tw_Rel G sz h H1 → tw_L G locs1 → tm_rg v → F v = some x → W p l e R s m args below meth c H1 locs1 cells slots Q (F0 m (pc + 3) ls (.int (tw_I v) :: rest))) : W p l e R s m args below meth c H locs cells slots Q (F0 m pc ls (.ref (G.2.2.2.2.1 w) :: rest)) := by
  sorry
theorem tw_schar (C : tw_C G p s m args meth c own cc nL ret) (hR : tw_Rel G sz h H) (hL : tw_L G locs) {w : Nat} {i : Int} {F : Int → Option α} (hk : (tm_sc w i).bind F = some x) (hl : tw_mL own idx yJ0_charAt_5068e) (hRm : 4 + 1 ≤ R.frames ∧ 8 + (2 + 11) + 85 ≤ R.locals) (hsz : ls.size = nL) (hW : (rest.map fun v => v.category).sum ≤ 8) (hdg : decode cc pc = .ok (.invokevirtual idx, 3))
    (kk : ∀ (v : Int) (H1 : Heap) (locs1 : List Loc), tw_Rel G sz h H1 → tw_L G locs1 → tm_rg v → F v = some x → W p l e R s m args below meth c H1 locs1 cells slots Q (F0 m (pc + 3) ls (.int (tw_I v) :: rest))) : W p l e R s m args below meth c H locs cells slots Q (F0 m pc ls (.int (tw_I i) :: .ref (G.2.2.2.2.1 w) :: rest)) := by
  sorry
end TW6
