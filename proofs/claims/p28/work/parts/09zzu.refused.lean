/-! what is refused changes nothing -/
theorem sp_bs_in {s : tn_St} {w : Int} (h : 0 ≤ w ∧ w < tn_n s) : sp_bs s w = tn_bs s w := if_pos h
section RFS
variable {a : Nat} {s : tn_St} {z : Int} {st : Int → tn_St} {h : tm_H}
theorem tl_J.no {o : Option tn_St} (J : tl_J a s z st o h) (e : o = none) : tl_V a s z st h := by
  subst e
  exact J
theorem sp_count_0 (s : tn_St) (l z : Int) : sp_count s l z 0 = tn_n s := rfl
theorem sp_count_2 (s : tn_St) (l z : Int) : sp_count s l z 2 = tn_nT s := rfl
theorem sp_count_4 (s : tn_St) (l z : Int) : sp_count s l z 4 = tn_M s := rfl
theorem sp_count_8 (s : tn_St) (l z : Int) : sp_count s l z 8 = z := rfl
theorem lk_refused (V : tl_V a s z st h) : ∃ h', fL_refused a h = some (1, h') ∧ tl_V a s z st h' := by
  have g := V.g
  have n26 := g.n
  have nT := g.nT
  obtain ⟨h1, e1, V1⟩ := lk_print V
  obtain ⟨h2, e2, V2⟩ := lk_count V1 (w := 0) (by omega)
  obtain ⟨h3, e3, V3⟩ := lk_count V2 (w := 2) (by omega)
  rw [sp_count_0] at e2
  rw [sp_count_2] at e3
  have a4 : sp_insert s (-1) 0 0 = (-1, none) := by
    unfold sp_insert
    rw [if_neg (by omega)]
  obtain ⟨h4, e4, J4⟩ := la_insert V3 (-1) 0 0
  have V4 := J4.no (by rw [a4])
  rw [a4] at e4
  have a5 : sp_insert s 0 41 0 = (-1, none) := by
    have q := g.ok.c (c := 0) (by omega)
    unfold sp_insert
    rw [if_neg (by omega)]
  obtain ⟨h5, e5, J5⟩ := la_insert V4 0 41 0
  have V5 := J5.no (by rw [a5])
  rw [a5] at e5
  have a6 : sp_insert s 0 0 (tn_n s) = (-1, none) := by
    unfold sp_insert
    rw [if_neg (by omega)]
  obtain ⟨h6, e6, J6⟩ := la_insert V5 0 0 (tn_n s)
  have V6 := J6.no (by rw [a6])
  rw [a6] at e6
  have a7 : sp_delete s 0 1 0 = (-1, none) := by
    unfold sp_delete
    rw [if_neg (by omega)]
  obtain ⟨h7, e7, J7⟩ := la_delete V6 0 1 0
  have V7 := J7.no (by rw [a7])
  rw [a7] at e7
  have a8 : sp_delete s 6 0 0 = (-1, none) := by
    unfold sp_delete
    rw [if_neg (by omega)]
  obtain ⟨h8, e8, J8⟩ := la_delete V7 6 0 0
  have V8 := J8.no (by rw [a8])
  rw [a8] at e8
  have a9 : sp_replace s 2 2 = (-1, none) := by
    unfold sp_replace
    rw [if_neg (fun q => q.2.2.2.2 rfl)]
  obtain ⟨h9, e9, J9⟩ := la_replace V8 2 2
  have V9 := J9.no (by rw [a9])
  rw [a9] at e9
  have a10 : sp_replace s 0 (tn_n s) = (-1, none) := by
    unfold sp_replace
    rw [if_neg (by omega)]
  obtain ⟨h10, e10, J10⟩ := la_replace V9 0 (tn_n s)
  have V10 := J10.no (by rw [a10])
  rw [a10] at e10
  have a11 : sp_swap s (-1) 0 = (-1, none) := by
    unfold sp_swap
    rw [if_neg (by omega)]
  obtain ⟨h11, e11, J11⟩ := la_swap V10 (-1) 0
  have V11 := J11.no (by rw [a11])
  rw [a11] at e11
  have a12 : sp_add s (-1) 0 (-1) (-1) = (-1, none) := by
    unfold sp_add sp_ask
    rw [if_neg (show ¬ tn_aV (tn_n s) (-1) 0 (-1) (-1) by unfold tn_aV; omega)]
    rfl
  obtain ⟨h12, e12, J12⟩ := la_add V11 (-1) 0 (-1) (-1)
  have V12 := J12.no (by rw [a12])
  rw [a12] at e12
  have a13 : sp_add s 0 1 2 (tn_n s) = (-1, none) := by
    unfold sp_add sp_ask
    rw [if_neg (show ¬ tn_aV (tn_n s) 0 1 2 (tn_n s) by unfold tn_aV; omega)]
    rfl
  obtain ⟨h13, e13, J13⟩ := la_add V12 0 1 2 (tn_n s)
  have V13 := J13.no (by rw [a13])
  rw [a13] at e13
  have a14 : sp_add s 0 (-1) (-1) 0 = (-1, none) := by
    unfold sp_add sp_ask
    rw [if_neg (show ¬ tn_aV (tn_n s) 0 (-1) (-1) 0 by unfold tn_aV; omega)]
    rfl
  obtain ⟨h14, e14, J14⟩ := la_add V13 0 (-1) (-1) 0
  have V14 := J14.no (by rw [a14])
  rw [a14] at e14
  have a15 : sp_remove s (tn_nT s) = (-1, none) := by
    unfold sp_remove
    rw [if_neg (by omega)]
  obtain ⟨h15, e15, J15⟩ := la_remove V14 (tn_nT s)
  have V15 := J15.no (by rw [a15])
  rw [a15] at e15
  have a16 : sp_quiet s 0 2 = (-1, none) := by
    unfold sp_quiet
    rw [if_neg (by omega)]
  obtain ⟨h16, e16, J16⟩ := la_quiet V15 0 2
  have V16 := J16.no (by rw [a16])
  rw [a16] at e16
  have a17 : sp_base s (tn_n s) 0 = (-1, none) := by
    unfold sp_base
    rw [if_neg (by omega)]
  obtain ⟨h17, e17, J17⟩ := la_base V16 (tn_n s) 0
  have V17 := J17.no (by rw [a17])
  rw [a17] at e17
  have a18 : sp_take s (-1) = (-1, none) := by
    unfold sp_take
    rw [if_neg (by omega)]
  obtain ⟨h18, e18, J18⟩ := la_take V17 (-1)
  have V18 := J18.no (by rw [a18])
  rw [a18] at e18
  have a19 : sp_restore s 2 = (-1, none) := by
    unfold sp_restore
    rw [if_neg (by omega)]
  obtain ⟨h19, e19, J19⟩ := la_restore V18 2
  have V19 := J19.no (by rw [a19])
  rw [a19] at e19
  have e20 := la_append V19
  obtain ⟨h21, e21, V21⟩ := lk_count V19 (w := 10) (by omega)
  have a21 : sp_count s 0 z 10 = -1 := rfl
  rw [a21] at e21
  have e22 := lk_letter V21 (tn_n s) 0
  have a22 : sp_letter s (tn_n s) 0 = -1 := by
    unfold sp_letter
    rw [if_neg (by omega)]
  rw [a22] at e22
  have e23 := lk_base V21 (-1)
  have a23 : sp_bs s (-1) = -1 := by
    unfold sp_bs
    rw [if_neg (by omega)]
  rw [a23] at e23
  obtain ⟨h24, e24, V24⟩ := lk_place V21 6 0 0
  have a24 : sp_place s 6 0 0 = -1 := by
    unfold sp_place
    rw [if_neg (by omega)]
  rw [a24] at e24
  obtain ⟨h25, e25, V25⟩ := lk_place V24 0 40 0
  have a25 : sp_place s 0 40 0 = -99 := by
    have q := g.ok.c (c := 0) (by omega)
    unfold sp_place
    rw [if_pos (by omega), if_neg (by omega)]
  rw [a25] at e25
  obtain ⟨h26, e26, V26⟩ := lk_term V25 (tn_nT s) 0
  have a26 : sp_term s (tn_nT s) 0 = -1 := by
    unfold sp_term
    rw [if_neg (by omega)]
  rw [a26] at e26
  obtain ⟨r27, h27, e27, _, a27, V27⟩ := lk_first V26 0 6
  rw [a27 (by omega)] at e27
  obtain ⟨h28, e28, V28⟩ := lk_count V27 (w := 4) (by omega)
  rw [sp_count_4] at e28
  obtain ⟨r29, h29, e29, k29, V29⟩ := lk_mark V28 (tn_M s) 0
  have M0 := (tn_M_rg g.ok).1
  have a29 : r29 = -99 := by
    rcases k29 (by omega) with ⟨_, k⟩ | ⟨d, q, d0, d1, q0, q1, mk, e, _⟩
    · exact k
    · have := tl_s2_lt g.ok ⟨d0, d1⟩ ⟨q0, q1⟩ mk
      omega
  rw [a29] at e29
  obtain ⟨h30, e30, V30⟩ := lk_why V29 0 40 0
  have a30 : sp_why s 0 40 0 = -1 := by
    have q := g.ok.c (c := 0) (by omega)
    unfold sp_why
    rw [if_neg (by omega)]
  rw [a30] at e30
  have e31 := lk_nested V30 (tn_nT s) 0
  have a31 : sp_nested s (tn_nT s) 0 = -1 := by
    unfold sp_nested
    rw [if_neg (by omega)]
  rw [a31] at e31
  obtain ⟨h32, e32, V32⟩ := lk_gain V30 (tn_n s) (-1) (-1) (-1)
  have a32 : sp_gain s (tn_n s) (-1) (-1) (-1) = -1 := by
    unfold sp_gain sp_ask
    rw [if_neg (show ¬ tn_aV (tn_n s) (tn_n s) (-1) (-1) (-1) by unfold tn_aV; omega)]
    rfl
  rw [a32] at e32
  obtain ⟨h33, e33, V33⟩ := lk_print V32
  refine ⟨h33, ?_, V33⟩
  rw [fL_refused, e1, Option.bind_some]
  try dsimp only
  rw [e2, Option.bind_some]
  try dsimp only
  rw [e3, Option.bind_some]
  try dsimp only
  rw [e4, Option.bind_some]
  try dsimp only
  rw [if_pos rfl]
  try dsimp only
  rw [e5, Option.bind_some]
  try dsimp only
  rw [if_pos rfl]
  try dsimp only
  rw [e6, Option.bind_some]
  try dsimp only
  rw [if_pos rfl]
  try dsimp only
  rw [e7, Option.bind_some]
  try dsimp only
  rw [if_pos rfl]
  try dsimp only
  rw [e8, Option.bind_some]
  try dsimp only
  rw [if_pos rfl]
  try dsimp only
  rw [e9, Option.bind_some]
  try dsimp only
  rw [if_pos rfl]
  try dsimp only
  rw [e10, Option.bind_some]
  try dsimp only
  rw [if_pos rfl]
  try dsimp only
  rw [e11, Option.bind_some]
  try dsimp only
  rw [if_pos rfl]
  try dsimp only
  rw [e12, Option.bind_some]
  try dsimp only
  rw [if_pos rfl]
  try dsimp only
  rw [e13, Option.bind_some]
  try dsimp only
  rw [if_pos rfl]
  try dsimp only
  rw [e14, Option.bind_some]
  try dsimp only
  rw [if_pos rfl]
  try dsimp only
  rw [e15, Option.bind_some]
  try dsimp only
  rw [if_pos rfl]
  try dsimp only
  rw [e16, Option.bind_some]
  try dsimp only
  rw [if_pos rfl]
  try dsimp only
  rw [e17, Option.bind_some]
  try dsimp only
  rw [if_pos rfl]
  try dsimp only
  rw [e18, Option.bind_some]
  try dsimp only
  rw [if_pos rfl]
  try dsimp only
  rw [e19, Option.bind_some]
  try dsimp only
  rw [if_pos rfl]
  try dsimp only
  rw [e20, Option.bind_some]
  try dsimp only
  rw [if_pos rfl]
  rw [fL_refused_L203, if_neg (by omega)]
  rw [e21, Option.bind_some]
  try dsimp only
  rw [if_pos rfl]
  rw [e22, Option.bind_some, if_pos rfl]
  rw [e23, Option.bind_some, if_pos rfl]
  rw [e24, Option.bind_some]
  try dsimp only
  rw [if_pos rfl]
  rw [e25, Option.bind_some]
  try dsimp only
  rw [if_pos rfl]
  rw [e26, Option.bind_some]
  try dsimp only
  rw [if_pos rfl]
  rw [e27, Option.bind_some]
  try dsimp only
  rw [if_pos rfl]
  rw [e28, Option.bind_some]
  try dsimp only
  rw [e29, Option.bind_some]
  try dsimp only
  rw [if_pos rfl]
  rw [e30, Option.bind_some]
  try dsimp only
  rw [if_pos rfl]
  rw [e31, Option.bind_some, if_pos rfl]
  rw [e32, Option.bind_some]
  try dsimp only
  rw [if_pos rfl]
  rw [fL_refused_L341, if_neg (by omega), e33, Option.bind_some]
  try dsimp only
  rw [if_pos (tn_lcmp.mpr rfl)]
end RFS
