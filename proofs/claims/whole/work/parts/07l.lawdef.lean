def tm_sx (xs : Nat → Int) (L : Nat) (i : Int) : Option Int := if 0 ≤ i ∧ i < L then some (xs i.toNat) else none
noncomputable def fL_law_S (xs : Nat → Int) (L : Nat) (st : Nat × Nat × Int × tm_H) : Option ((Nat × Nat × Int × tm_H) ⊕ Int) := match st with
  | (x1, x2, x3, h) =>
    if (tm_wr (((L : Int)) - 5)) < x3 then
    (some (.inr 1))
    else
    ((tm_sx xs L x3).bind fun v5 =>
    if (tm_and v5 31) = 0 then
    ((tm_sx xs L (tm_wr (x3 + 1))).bind fun v6 =>
    (tm_sx xs L (tm_wr (x3 + 2))).bind fun v7 =>
    (tm_sx xs L (tm_wr (x3 + 3))).bind fun v8 =>
    (fX8_insert x1 v6 v7 v8 h).bind fun q9 =>
    (tm_sx xs L (tm_wr (x3 + 1))).bind fun v10 =>
    (tm_sx xs L (tm_wr (x3 + 2))).bind fun v11 =>
    (tm_sx xs L (tm_wr (x3 + 3))).bind fun v12 =>
    (fX9_insert x2 v10 v11 v12 q9.2).bind fun q13 =>
    if q9.1 = q13.1 then
    (some (.inl (x1, x2, (tm_wr (x3 + 5)), q13.2)))
    else
    (some (.inr 0)))
    else
    (if (tm_and v5 31) = 1 then
    ((tm_sx xs L (tm_wr (x3 + 1))).bind fun v15 =>
    (tm_sx xs L (tm_wr (x3 + 2))).bind fun v16 =>
    (tm_sx xs L (tm_wr (x3 + 3))).bind fun v17 =>
    (fX8_delete x1 v15 v16 v17 h).bind fun q18 =>
    (tm_sx xs L (tm_wr (x3 + 1))).bind fun v19 =>
    (tm_sx xs L (tm_wr (x3 + 2))).bind fun v20 =>
    (tm_sx xs L (tm_wr (x3 + 3))).bind fun v21 =>
    (fX9_delete x2 v19 v20 v21 q18.2).bind fun q22 =>
    if q18.1 = q22.1 then
    (some (.inl (x1, x2, (tm_wr (x3 + 5)), q22.2)))
    else
    (some (.inr 0)))
    else
    (if (tm_and v5 31) = 2 then
    ((tm_sx xs L (tm_wr (x3 + 1))).bind fun v24 =>
    (tm_sx xs L (tm_wr (x3 + 2))).bind fun v25 =>
    (fX8_replace x1 v24 v25 h).bind fun q26 =>
    (tm_sx xs L (tm_wr (x3 + 1))).bind fun v27 =>
    (tm_sx xs L (tm_wr (x3 + 2))).bind fun v28 =>
    (fX9_replace x2 v27 v28 q26.2).bind fun q29 =>
    if q26.1 = q29.1 then
    (some (.inl (x1, x2, (tm_wr (x3 + 5)), q29.2)))
    else
    (some (.inr 0)))
    else
    (if (tm_and v5 31) = 3 then
    ((tm_sx xs L (tm_wr (x3 + 1))).bind fun v31 =>
    (tm_sx xs L (tm_wr (x3 + 2))).bind fun v32 =>
    (fX8_swap x1 v31 v32 h).bind fun q33 =>
    (tm_sx xs L (tm_wr (x3 + 1))).bind fun v34 =>
    (tm_sx xs L (tm_wr (x3 + 2))).bind fun v35 =>
    (fX9_swap x2 v34 v35 q33.2).bind fun q36 =>
    if q33.1 = q36.1 then
    (some (.inl (x1, x2, (tm_wr (x3 + 5)), q36.2)))
    else
    (some (.inr 0)))
    else
    (if (tm_and v5 31) = 4 then
    ((tm_sx xs L (tm_wr (x3 + 1))).bind fun v38 =>
    (tm_sx xs L (tm_wr (x3 + 2))).bind fun v39 =>
    (tm_sx xs L (tm_wr (x3 + 3))).bind fun v40 =>
    (tm_sx xs L (tm_wr (x3 + 4))).bind fun v41 =>
    (fX8_addTerm x1 v38 v39 v40 v41 h).bind fun q42 =>
    (tm_sx xs L (tm_wr (x3 + 1))).bind fun v43 =>
    (tm_sx xs L (tm_wr (x3 + 2))).bind fun v44 =>
    (tm_sx xs L (tm_wr (x3 + 3))).bind fun v45 =>
    (tm_sx xs L (tm_wr (x3 + 4))).bind fun v46 =>
    (fX9_addTerm x2 v43 v44 v45 v46 q42.2).bind fun q47 =>
    if q42.1 = q47.1 then
    (some (.inl (x1, x2, (tm_wr (x3 + 5)), q47.2)))
    else
    (some (.inr 0)))
    else
    (if (tm_and v5 31) = 5 then
    ((tm_sx xs L (tm_wr (x3 + 1))).bind fun v49 =>
    (fX8_removeTerm x1 v49 h).bind fun q50 =>
    (tm_sx xs L (tm_wr (x3 + 1))).bind fun v51 =>
    (fX9_removeTerm x2 v51 q50.2).bind fun q52 =>
    if q50.1 = q52.1 then
    (some (.inl (x1, x2, (tm_wr (x3 + 5)), q52.2)))
    else
    (some (.inr 0)))
    else
    (if (tm_and v5 31) = 6 then
    ((tm_sx xs L (tm_wr (x3 + 1))).bind fun v54 =>
    (tm_sx xs L (tm_wr (x3 + 2))).bind fun v55 =>
    (fX8_setQuiet x1 v54 v55 h).bind fun q56 =>
    (tm_sx xs L (tm_wr (x3 + 1))).bind fun v57 =>
    (tm_sx xs L (tm_wr (x3 + 2))).bind fun v58 =>
    (fX9_setQuiet x2 v57 v58 q56.2).bind fun q59 =>
    if q56.1 = q59.1 then
    (some (.inl (x1, x2, (tm_wr (x3 + 5)), q59.2)))
    else
    (some (.inr 0)))
    else
    (if (tm_and v5 31) = 7 then
    ((tm_sx xs L (tm_wr (x3 + 1))).bind fun v61 =>
    (tm_sx xs L (tm_wr (x3 + 2))).bind fun v62 =>
    (fX8_setBase x1 v61 v62 h).bind fun q63 =>
    (tm_sx xs L (tm_wr (x3 + 1))).bind fun v64 =>
    (tm_sx xs L (tm_wr (x3 + 2))).bind fun v65 =>
    (fX9_setBase x2 v64 v65 q63.2).bind fun q66 =>
    if q63.1 = q66.1 then
    (some (.inl (x1, x2, (tm_wr (x3 + 5)), q66.2)))
    else
    (some (.inr 0)))
    else
    (if (tm_and v5 31) = 8 then
    ((tm_sx xs L (tm_wr (x3 + 1))).bind fun v68 =>
    (fX8_take x1 v68 h).bind fun q69 =>
    (tm_sx xs L (tm_wr (x3 + 1))).bind fun v70 =>
    (fX9_take x2 v70 q69.2).bind fun q71 =>
    if q69.1 = q71.1 then
    (some (.inl (x1, x2, (tm_wr (x3 + 5)), q71.2)))
    else
    (some (.inr 0)))
    else
    (if (tm_and v5 31) = 9 then
    ((tm_sx xs L (tm_wr (x3 + 1))).bind fun v73 =>
    (fX8_restore x1 v73 h).bind fun q74 =>
    (tm_sx xs L (tm_wr (x3 + 1))).bind fun v75 =>
    (fX9_restore x2 v75 q74.2).bind fun q76 =>
    if q74.1 = q76.1 then
    (some (.inl (x1, x2, (tm_wr (x3 + 5)), q76.2)))
    else
    (some (.inr 0)))
    else
    (if (tm_and v5 31) = 10 then
    ((fX8_undo x1 h).bind fun q78 =>
    (fX9_undo x2 q78.2).bind fun q79 =>
    if q78.1 = q79.1 then
    (some (.inl (x1, x2, (tm_wr (x3 + 5)), q79.2)))
    else
    (some (.inr 0)))
    else
    (if (tm_and v5 31) = 11 then
    ((tm_sx xs L (tm_wr (x3 + 1))).bind fun v81 =>
    (fX8_append x1 v81 h).bind fun q82 =>
    (tm_sx xs L (tm_wr (x3 + 1))).bind fun v83 =>
    (fX9_append x2 v83 q82.2).bind fun q84 =>
    if q82.1 = q84.1 then
    (some (.inl (x1, x2, (tm_wr (x3 + 5)), q84.2)))
    else
    (some (.inr 0)))
    else
    (if (tm_and v5 31) = 12 then
    ((fX8_clearText x1 h).bind fun q86 =>
    (fX9_clearText x2 q86.2).bind fun q87 =>
    if q86.1 = q87.1 then
    (some (.inl (x1, x2, (tm_wr (x3 + 5)), q87.2)))
    else
    (some (.inr 0)))
    else
    (if (tm_and v5 31) = 13 then
    ((fX8_load x1 h).bind fun q89 =>
    (fX9_load x2 q89.2).bind fun q90 =>
    if q89.1 = q90.1 then
    (some (.inl (x1, x2, (tm_wr (x3 + 5)), q90.2)))
    else
    (some (.inr 0)))
    else
    (if (tm_and v5 31) = 14 then
    ((tm_sx xs L (tm_wr (x3 + 1))).bind fun v92 =>
    (fX8_count x1 v92 h).bind fun q93 =>
    (tm_sx xs L (tm_wr (x3 + 1))).bind fun v94 =>
    (fX9_count x2 v94 q93.2).bind fun q95 =>
    if q93.1 = q95.1 then
    (some (.inl (x1, x2, (tm_wr (x3 + 5)), q95.2)))
    else
    (some (.inr 0)))
    else
    (if (tm_and v5 31) = 15 then
    ((tm_sx xs L (tm_wr (x3 + 1))).bind fun v97 =>
    (tm_sx xs L (tm_wr (x3 + 2))).bind fun v98 =>
    (fX8_letter x1 v97 v98 h).bind fun v99 =>
    (tm_sx xs L (tm_wr (x3 + 1))).bind fun v100 =>
    (tm_sx xs L (tm_wr (x3 + 2))).bind fun v101 =>
    (fX9_letter x2 v100 v101 h).bind fun v102 =>
    if v99 = v102 then
    (some (.inl (x1, x2, (tm_wr (x3 + 5)), h)))
    else
    (some (.inr 0)))
    else
    (if (tm_and v5 31) = 16 then
    ((tm_sx xs L (tm_wr (x3 + 1))).bind fun v104 =>
    (fX8_base x1 v104 h).bind fun v105 =>
    (tm_sx xs L (tm_wr (x3 + 1))).bind fun v106 =>
    (fX9_base x2 v106 h).bind fun v107 =>
    if v105 = v107 then
    (some (.inl (x1, x2, (tm_wr (x3 + 5)), h)))
    else
    (some (.inr 0)))
    else
    (if (tm_and v5 31) = 17 then
    ((tm_sx xs L (tm_wr (x3 + 1))).bind fun v109 =>
    (tm_sx xs L (tm_wr (x3 + 2))).bind fun v110 =>
    (tm_sx xs L (tm_wr (x3 + 3))).bind fun v111 =>
    (fX8_place x1 v109 v110 v111 h).bind fun q112 =>
    (tm_sx xs L (tm_wr (x3 + 1))).bind fun v113 =>
    (tm_sx xs L (tm_wr (x3 + 2))).bind fun v114 =>
    (tm_sx xs L (tm_wr (x3 + 3))).bind fun v115 =>
    (fX9_place x2 v113 v114 v115 q112.2).bind fun q116 =>
    if q112.1 = q116.1 then
    (some (.inl (x1, x2, (tm_wr (x3 + 5)), q116.2)))
    else
    (some (.inr 0)))
    else
    (if (tm_and v5 31) = 18 then
    ((tm_sx xs L (tm_wr (x3 + 1))).bind fun v118 =>
    (tm_sx xs L (tm_wr (x3 + 2))).bind fun v119 =>
    (fX8_term x1 v118 v119 h).bind fun q120 =>
    (tm_sx xs L (tm_wr (x3 + 1))).bind fun v121 =>
    (tm_sx xs L (tm_wr (x3 + 2))).bind fun v122 =>
    (fX9_term x2 v121 v122 q120.2).bind fun q123 =>
    if q120.1 = q123.1 then
    (some (.inl (x1, x2, (tm_wr (x3 + 5)), q123.2)))
    else
    (some (.inr 0)))
    else
    (if (tm_and v5 31) = 19 then
    ((tm_sx xs L (tm_wr (x3 + 1))).bind fun v125 =>
    (tm_sx xs L (tm_wr (x3 + 2))).bind fun v126 =>
    (fX8_firstUse x1 v125 v126 h).bind fun q127 =>
    (tm_sx xs L (tm_wr (x3 + 1))).bind fun v128 =>
    (tm_sx xs L (tm_wr (x3 + 2))).bind fun v129 =>
    (fX9_firstUse x2 v128 v129 q127.2).bind fun q130 =>
    if q127.1 = q130.1 then
    (some (.inl (x1, x2, (tm_wr (x3 + 5)), q130.2)))
    else
    (some (.inr 0)))
    else
    (if (tm_and v5 31) = 20 then
    ((tm_sx xs L (tm_wr (x3 + 1))).bind fun v132 =>
    (tm_sx xs L (tm_wr (x3 + 2))).bind fun v133 =>
    (fX8_mark x1 v132 v133 h).bind fun q134 =>
    (tm_sx xs L (tm_wr (x3 + 1))).bind fun v135 =>
    (tm_sx xs L (tm_wr (x3 + 2))).bind fun v136 =>
    (fX9_mark x2 v135 v136 q134.2).bind fun q137 =>
    if q134.1 = q137.1 then
    (some (.inl (x1, x2, (tm_wr (x3 + 5)), q137.2)))
    else
    (some (.inr 0)))
    else
    (if (tm_and v5 31) = 21 then
    ((tm_sx xs L (tm_wr (x3 + 1))).bind fun v139 =>
    (tm_sx xs L (tm_wr (x3 + 2))).bind fun v140 =>
    (tm_sx xs L (tm_wr (x3 + 3))).bind fun v141 =>
    (fX8_why x1 v139 v140 v141 h).bind fun q142 =>
    (tm_sx xs L (tm_wr (x3 + 1))).bind fun v143 =>
    (tm_sx xs L (tm_wr (x3 + 2))).bind fun v144 =>
    (tm_sx xs L (tm_wr (x3 + 3))).bind fun v145 =>
    (fX9_why x2 v143 v144 v145 q142.2).bind fun q146 =>
    if q142.1 = q146.1 then
    (some (.inl (x1, x2, (tm_wr (x3 + 5)), q146.2)))
    else
    (some (.inr 0)))
    else
    (if (tm_and v5 31) = 22 then
    ((tm_sx xs L (tm_wr (x3 + 1))).bind fun v148 =>
    (tm_sx xs L (tm_wr (x3 + 2))).bind fun v149 =>
    (fX8_nested x1 v148 v149 h).bind fun v150 =>
    (tm_sx xs L (tm_wr (x3 + 1))).bind fun v151 =>
    (tm_sx xs L (tm_wr (x3 + 2))).bind fun v152 =>
    (fX9_nested x2 v151 v152 h).bind fun v153 =>
    if v150 = v153 then
    (some (.inl (x1, x2, (tm_wr (x3 + 5)), h)))
    else
    (some (.inr 0)))
    else
    (if (tm_and v5 31) = 23 then
    ((tm_sx xs L (tm_wr (x3 + 1))).bind fun v155 =>
    (tm_sx xs L (tm_wr (x3 + 2))).bind fun v156 =>
    (tm_sx xs L (tm_wr (x3 + 3))).bind fun v157 =>
    (tm_sx xs L (tm_wr (x3 + 4))).bind fun v158 =>
    (fX8_gain x1 v155 v156 v157 v158 h).bind fun q159 =>
    (tm_sx xs L (tm_wr (x3 + 1))).bind fun v160 =>
    (tm_sx xs L (tm_wr (x3 + 2))).bind fun v161 =>
    (tm_sx xs L (tm_wr (x3 + 3))).bind fun v162 =>
    (tm_sx xs L (tm_wr (x3 + 4))).bind fun v163 =>
    (fX9_gain x2 v160 v161 v162 v163 q159.2).bind fun q164 =>
    if q159.1 = q164.1 then
    (some (.inl (x1, x2, (tm_wr (x3 + 5)), q164.2)))
    else
    (some (.inr 0)))
    else
    (if (tm_and v5 31) = 24 then
    ((fX8_greediest x1 h).bind fun q166 =>
    (fX9_greediest x2 q166.2).bind fun q167 =>
    if q166.1 = q167.1 then
    (some (.inl (x1, x2, (tm_wr (x3 + 5)), q167.2)))
    else
    (some (.inr 0)))
    else
    (some (.inl (x1, x2, (tm_wr (x3 + 5)), h))))))))))))))))))))))))))))
noncomputable def fL_law_L18 (xs : Nat → Int) (L : Nat) (x1 : Nat) (x2 : Nat) (x3 : Int) (h : tm_H) : Option Int := tm_wl (fL_law_S xs L) (x1, x2, x3, h)
theorem fL_law_L18_eq (xs : Nat → Int) (L : Nat) (x1 : Nat) (x2 : Nat) (x3 : Int) (h : tm_H) : fL_law_L18 xs L x1 x2 x3 h =
    if (tm_wr (((L : Int)) - 5)) < x3 then
    (some 1)
    else
    ((tm_sx xs L x3).bind fun v169 =>
    if (tm_and v169 31) = 0 then
    ((tm_sx xs L (tm_wr (x3 + 1))).bind fun v170 =>
    (tm_sx xs L (tm_wr (x3 + 2))).bind fun v171 =>
    (tm_sx xs L (tm_wr (x3 + 3))).bind fun v172 =>
    (fX8_insert x1 v170 v171 v172 h).bind fun q173 =>
    (tm_sx xs L (tm_wr (x3 + 1))).bind fun v174 =>
    (tm_sx xs L (tm_wr (x3 + 2))).bind fun v175 =>
    (tm_sx xs L (tm_wr (x3 + 3))).bind fun v176 =>
    (fX9_insert x2 v174 v175 v176 q173.2).bind fun q177 =>
    if q173.1 = q177.1 then
    (fL_law_L18 xs L x1 x2 (tm_wr (x3 + 5)) q177.2)
    else
    (some 0))
    else
    (if (tm_and v169 31) = 1 then
    ((tm_sx xs L (tm_wr (x3 + 1))).bind fun v179 =>
    (tm_sx xs L (tm_wr (x3 + 2))).bind fun v180 =>
    (tm_sx xs L (tm_wr (x3 + 3))).bind fun v181 =>
    (fX8_delete x1 v179 v180 v181 h).bind fun q182 =>
    (tm_sx xs L (tm_wr (x3 + 1))).bind fun v183 =>
    (tm_sx xs L (tm_wr (x3 + 2))).bind fun v184 =>
    (tm_sx xs L (tm_wr (x3 + 3))).bind fun v185 =>
    (fX9_delete x2 v183 v184 v185 q182.2).bind fun q186 =>
    if q182.1 = q186.1 then
    (fL_law_L18 xs L x1 x2 (tm_wr (x3 + 5)) q186.2)
    else
    (some 0))
    else
    (if (tm_and v169 31) = 2 then
    ((tm_sx xs L (tm_wr (x3 + 1))).bind fun v188 =>
    (tm_sx xs L (tm_wr (x3 + 2))).bind fun v189 =>
    (fX8_replace x1 v188 v189 h).bind fun q190 =>
    (tm_sx xs L (tm_wr (x3 + 1))).bind fun v191 =>
    (tm_sx xs L (tm_wr (x3 + 2))).bind fun v192 =>
    (fX9_replace x2 v191 v192 q190.2).bind fun q193 =>
    if q190.1 = q193.1 then
    (fL_law_L18 xs L x1 x2 (tm_wr (x3 + 5)) q193.2)
    else
    (some 0))
    else
    (if (tm_and v169 31) = 3 then
    ((tm_sx xs L (tm_wr (x3 + 1))).bind fun v195 =>
    (tm_sx xs L (tm_wr (x3 + 2))).bind fun v196 =>
    (fX8_swap x1 v195 v196 h).bind fun q197 =>
    (tm_sx xs L (tm_wr (x3 + 1))).bind fun v198 =>
    (tm_sx xs L (tm_wr (x3 + 2))).bind fun v199 =>
    (fX9_swap x2 v198 v199 q197.2).bind fun q200 =>
    if q197.1 = q200.1 then
    (fL_law_L18 xs L x1 x2 (tm_wr (x3 + 5)) q200.2)
    else
    (some 0))
    else
    (if (tm_and v169 31) = 4 then
    ((tm_sx xs L (tm_wr (x3 + 1))).bind fun v202 =>
    (tm_sx xs L (tm_wr (x3 + 2))).bind fun v203 =>
    (tm_sx xs L (tm_wr (x3 + 3))).bind fun v204 =>
    (tm_sx xs L (tm_wr (x3 + 4))).bind fun v205 =>
    (fX8_addTerm x1 v202 v203 v204 v205 h).bind fun q206 =>
    (tm_sx xs L (tm_wr (x3 + 1))).bind fun v207 =>
    (tm_sx xs L (tm_wr (x3 + 2))).bind fun v208 =>
    (tm_sx xs L (tm_wr (x3 + 3))).bind fun v209 =>
    (tm_sx xs L (tm_wr (x3 + 4))).bind fun v210 =>
    (fX9_addTerm x2 v207 v208 v209 v210 q206.2).bind fun q211 =>
    if q206.1 = q211.1 then
    (fL_law_L18 xs L x1 x2 (tm_wr (x3 + 5)) q211.2)
    else
    (some 0))
    else
    (if (tm_and v169 31) = 5 then
    ((tm_sx xs L (tm_wr (x3 + 1))).bind fun v213 =>
    (fX8_removeTerm x1 v213 h).bind fun q214 =>
    (tm_sx xs L (tm_wr (x3 + 1))).bind fun v215 =>
    (fX9_removeTerm x2 v215 q214.2).bind fun q216 =>
    if q214.1 = q216.1 then
    (fL_law_L18 xs L x1 x2 (tm_wr (x3 + 5)) q216.2)
    else
    (some 0))
    else
    (if (tm_and v169 31) = 6 then
    ((tm_sx xs L (tm_wr (x3 + 1))).bind fun v218 =>
    (tm_sx xs L (tm_wr (x3 + 2))).bind fun v219 =>
    (fX8_setQuiet x1 v218 v219 h).bind fun q220 =>
    (tm_sx xs L (tm_wr (x3 + 1))).bind fun v221 =>
    (tm_sx xs L (tm_wr (x3 + 2))).bind fun v222 =>
    (fX9_setQuiet x2 v221 v222 q220.2).bind fun q223 =>
    if q220.1 = q223.1 then
    (fL_law_L18 xs L x1 x2 (tm_wr (x3 + 5)) q223.2)
    else
    (some 0))
    else
    (if (tm_and v169 31) = 7 then
    ((tm_sx xs L (tm_wr (x3 + 1))).bind fun v225 =>
    (tm_sx xs L (tm_wr (x3 + 2))).bind fun v226 =>
    (fX8_setBase x1 v225 v226 h).bind fun q227 =>
    (tm_sx xs L (tm_wr (x3 + 1))).bind fun v228 =>
    (tm_sx xs L (tm_wr (x3 + 2))).bind fun v229 =>
    (fX9_setBase x2 v228 v229 q227.2).bind fun q230 =>
    if q227.1 = q230.1 then
    (fL_law_L18 xs L x1 x2 (tm_wr (x3 + 5)) q230.2)
    else
    (some 0))
    else
    (if (tm_and v169 31) = 8 then
    ((tm_sx xs L (tm_wr (x3 + 1))).bind fun v232 =>
    (fX8_take x1 v232 h).bind fun q233 =>
    (tm_sx xs L (tm_wr (x3 + 1))).bind fun v234 =>
    (fX9_take x2 v234 q233.2).bind fun q235 =>
    if q233.1 = q235.1 then
    (fL_law_L18 xs L x1 x2 (tm_wr (x3 + 5)) q235.2)
    else
    (some 0))
    else
    (if (tm_and v169 31) = 9 then
    ((tm_sx xs L (tm_wr (x3 + 1))).bind fun v237 =>
    (fX8_restore x1 v237 h).bind fun q238 =>
    (tm_sx xs L (tm_wr (x3 + 1))).bind fun v239 =>
    (fX9_restore x2 v239 q238.2).bind fun q240 =>
    if q238.1 = q240.1 then
    (fL_law_L18 xs L x1 x2 (tm_wr (x3 + 5)) q240.2)
    else
    (some 0))
    else
    (if (tm_and v169 31) = 10 then
    ((fX8_undo x1 h).bind fun q242 =>
    (fX9_undo x2 q242.2).bind fun q243 =>
    if q242.1 = q243.1 then
    (fL_law_L18 xs L x1 x2 (tm_wr (x3 + 5)) q243.2)
    else
    (some 0))
    else
    (if (tm_and v169 31) = 11 then
    ((tm_sx xs L (tm_wr (x3 + 1))).bind fun v245 =>
    (fX8_append x1 v245 h).bind fun q246 =>
    (tm_sx xs L (tm_wr (x3 + 1))).bind fun v247 =>
    (fX9_append x2 v247 q246.2).bind fun q248 =>
    if q246.1 = q248.1 then
    (fL_law_L18 xs L x1 x2 (tm_wr (x3 + 5)) q248.2)
    else
    (some 0))
    else
    (if (tm_and v169 31) = 12 then
    ((fX8_clearText x1 h).bind fun q250 =>
    (fX9_clearText x2 q250.2).bind fun q251 =>
    if q250.1 = q251.1 then
    (fL_law_L18 xs L x1 x2 (tm_wr (x3 + 5)) q251.2)
    else
    (some 0))
    else
    (if (tm_and v169 31) = 13 then
    ((fX8_load x1 h).bind fun q253 =>
    (fX9_load x2 q253.2).bind fun q254 =>
    if q253.1 = q254.1 then
    (fL_law_L18 xs L x1 x2 (tm_wr (x3 + 5)) q254.2)
    else
    (some 0))
    else
    (if (tm_and v169 31) = 14 then
    ((tm_sx xs L (tm_wr (x3 + 1))).bind fun v256 =>
    (fX8_count x1 v256 h).bind fun q257 =>
    (tm_sx xs L (tm_wr (x3 + 1))).bind fun v258 =>
    (fX9_count x2 v258 q257.2).bind fun q259 =>
    if q257.1 = q259.1 then
    (fL_law_L18 xs L x1 x2 (tm_wr (x3 + 5)) q259.2)
    else
    (some 0))
    else
    (if (tm_and v169 31) = 15 then
    ((tm_sx xs L (tm_wr (x3 + 1))).bind fun v261 =>
    (tm_sx xs L (tm_wr (x3 + 2))).bind fun v262 =>
    (fX8_letter x1 v261 v262 h).bind fun v263 =>
    (tm_sx xs L (tm_wr (x3 + 1))).bind fun v264 =>
    (tm_sx xs L (tm_wr (x3 + 2))).bind fun v265 =>
    (fX9_letter x2 v264 v265 h).bind fun v266 =>
    if v263 = v266 then
    (fL_law_L18 xs L x1 x2 (tm_wr (x3 + 5)) h)
    else
    (some 0))
    else
    (if (tm_and v169 31) = 16 then
    ((tm_sx xs L (tm_wr (x3 + 1))).bind fun v268 =>
    (fX8_base x1 v268 h).bind fun v269 =>
    (tm_sx xs L (tm_wr (x3 + 1))).bind fun v270 =>
    (fX9_base x2 v270 h).bind fun v271 =>
    if v269 = v271 then
    (fL_law_L18 xs L x1 x2 (tm_wr (x3 + 5)) h)
    else
    (some 0))
    else
    (if (tm_and v169 31) = 17 then
    ((tm_sx xs L (tm_wr (x3 + 1))).bind fun v273 =>
    (tm_sx xs L (tm_wr (x3 + 2))).bind fun v274 =>
    (tm_sx xs L (tm_wr (x3 + 3))).bind fun v275 =>
    (fX8_place x1 v273 v274 v275 h).bind fun q276 =>
    (tm_sx xs L (tm_wr (x3 + 1))).bind fun v277 =>
    (tm_sx xs L (tm_wr (x3 + 2))).bind fun v278 =>
    (tm_sx xs L (tm_wr (x3 + 3))).bind fun v279 =>
    (fX9_place x2 v277 v278 v279 q276.2).bind fun q280 =>
    if q276.1 = q280.1 then
    (fL_law_L18 xs L x1 x2 (tm_wr (x3 + 5)) q280.2)
    else
    (some 0))
    else
    (if (tm_and v169 31) = 18 then
    ((tm_sx xs L (tm_wr (x3 + 1))).bind fun v282 =>
    (tm_sx xs L (tm_wr (x3 + 2))).bind fun v283 =>
    (fX8_term x1 v282 v283 h).bind fun q284 =>
    (tm_sx xs L (tm_wr (x3 + 1))).bind fun v285 =>
    (tm_sx xs L (tm_wr (x3 + 2))).bind fun v286 =>
    (fX9_term x2 v285 v286 q284.2).bind fun q287 =>
    if q284.1 = q287.1 then
    (fL_law_L18 xs L x1 x2 (tm_wr (x3 + 5)) q287.2)
    else
    (some 0))
    else
    (if (tm_and v169 31) = 19 then
    ((tm_sx xs L (tm_wr (x3 + 1))).bind fun v289 =>
    (tm_sx xs L (tm_wr (x3 + 2))).bind fun v290 =>
    (fX8_firstUse x1 v289 v290 h).bind fun q291 =>
    (tm_sx xs L (tm_wr (x3 + 1))).bind fun v292 =>
    (tm_sx xs L (tm_wr (x3 + 2))).bind fun v293 =>
    (fX9_firstUse x2 v292 v293 q291.2).bind fun q294 =>
    if q291.1 = q294.1 then
    (fL_law_L18 xs L x1 x2 (tm_wr (x3 + 5)) q294.2)
    else
    (some 0))
    else
    (if (tm_and v169 31) = 20 then
    ((tm_sx xs L (tm_wr (x3 + 1))).bind fun v296 =>
    (tm_sx xs L (tm_wr (x3 + 2))).bind fun v297 =>
    (fX8_mark x1 v296 v297 h).bind fun q298 =>
    (tm_sx xs L (tm_wr (x3 + 1))).bind fun v299 =>
    (tm_sx xs L (tm_wr (x3 + 2))).bind fun v300 =>
    (fX9_mark x2 v299 v300 q298.2).bind fun q301 =>
    if q298.1 = q301.1 then
    (fL_law_L18 xs L x1 x2 (tm_wr (x3 + 5)) q301.2)
    else
    (some 0))
    else
    (if (tm_and v169 31) = 21 then
    ((tm_sx xs L (tm_wr (x3 + 1))).bind fun v303 =>
    (tm_sx xs L (tm_wr (x3 + 2))).bind fun v304 =>
    (tm_sx xs L (tm_wr (x3 + 3))).bind fun v305 =>
    (fX8_why x1 v303 v304 v305 h).bind fun q306 =>
    (tm_sx xs L (tm_wr (x3 + 1))).bind fun v307 =>
    (tm_sx xs L (tm_wr (x3 + 2))).bind fun v308 =>
    (tm_sx xs L (tm_wr (x3 + 3))).bind fun v309 =>
    (fX9_why x2 v307 v308 v309 q306.2).bind fun q310 =>
    if q306.1 = q310.1 then
    (fL_law_L18 xs L x1 x2 (tm_wr (x3 + 5)) q310.2)
    else
    (some 0))
    else
    (if (tm_and v169 31) = 22 then
    ((tm_sx xs L (tm_wr (x3 + 1))).bind fun v312 =>
    (tm_sx xs L (tm_wr (x3 + 2))).bind fun v313 =>
    (fX8_nested x1 v312 v313 h).bind fun v314 =>
    (tm_sx xs L (tm_wr (x3 + 1))).bind fun v315 =>
    (tm_sx xs L (tm_wr (x3 + 2))).bind fun v316 =>
    (fX9_nested x2 v315 v316 h).bind fun v317 =>
    if v314 = v317 then
    (fL_law_L18 xs L x1 x2 (tm_wr (x3 + 5)) h)
    else
    (some 0))
    else
    (if (tm_and v169 31) = 23 then
    ((tm_sx xs L (tm_wr (x3 + 1))).bind fun v319 =>
    (tm_sx xs L (tm_wr (x3 + 2))).bind fun v320 =>
    (tm_sx xs L (tm_wr (x3 + 3))).bind fun v321 =>
    (tm_sx xs L (tm_wr (x3 + 4))).bind fun v322 =>
    (fX8_gain x1 v319 v320 v321 v322 h).bind fun q323 =>
    (tm_sx xs L (tm_wr (x3 + 1))).bind fun v324 =>
    (tm_sx xs L (tm_wr (x3 + 2))).bind fun v325 =>
    (tm_sx xs L (tm_wr (x3 + 3))).bind fun v326 =>
    (tm_sx xs L (tm_wr (x3 + 4))).bind fun v327 =>
    (fX9_gain x2 v324 v325 v326 v327 q323.2).bind fun q328 =>
    if q323.1 = q328.1 then
    (fL_law_L18 xs L x1 x2 (tm_wr (x3 + 5)) q328.2)
    else
    (some 0))
    else
    (if (tm_and v169 31) = 24 then
    ((fX8_greediest x1 h).bind fun q330 =>
    (fX9_greediest x2 q330.2).bind fun q331 =>
    if q330.1 = q331.1 then
    (fL_law_L18 xs L x1 x2 (tm_wr (x3 + 5)) q331.2)
    else
    (some 0))
    else
    (fL_law_L18 xs L x1 x2 (tm_wr (x3 + 5)) h)))))))))))))))))))))))))) := by
  unfold fL_law_L18
  rw [tm_wl_eq]
  simp only [fL_law_S, tm_go_ite, tm_go_bind, tm_go_inl, tm_go_inr, tm_go_out, tm_go_th]
  try rfl
noncomputable def fL_law (xs : Nat → Int) (L : Nat) (h : tm_H) (n : Nat) : Option Int :=
  (tm_nw h n (.inl (8, [.inr none, .inr none, .inr none, .inr none, .inr none, .inr none]))).bind fun h1 =>
  (fX8_init n h1 (n + 1)).bind fun q2 =>
  (tm_nw q2.1 q2.2 (.inl (9, [.inr none, .inr none, .inr none, .inl 0, .inr none, .inl 0, .inr none, .inr none, .inr none, .inr none, .inr none, .inl 0, .inl 0, .inr none, .inl 0]))).bind fun h3 =>
  (fX9_init q2.2 h3 (q2.2 + 1)).bind fun q4 =>
  fL_law_L18 xs L n q2.2 0 q4.1
