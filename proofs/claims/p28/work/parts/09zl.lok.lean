section LOK
variable {l : Int} {x : Int → Int} {s : tn_St}
theorem tn_ok.addT (ok : tn_ok s) {k : Int} {W : Int → Int} (hk : 1 ≤ k ∧ k ≤ 4) (hn : tn_nT s < 13) (hW : ∀ j : Int, 0 ≤ j → j < k → 0 ≤ W j ∧ W j < tn_n s) : tn_ok (tn_addT s k W) := by
  obtain ⟨h1, h2, h3, h4, h5, h6, h7, h8⟩ := ok
  refine ⟨h1, h2, h3, h4, by show 0 ≤ tn_nT s + 1; omega, by show tn_nT s + 1 ≤ 13; omega, fun t t0 t1 => ?_, h8⟩
  have t1' : t < tn_nT s + 1 := t1
  show 1 ≤ (if t = tn_nT s then k else tn_tl s t) ∧ (if t = tn_nT s then k else tn_tl s t) ≤ 4 ∧ ((if t = tn_nT s then 0 else tn_tq s t) = 0 ∨ (if t = tn_nT s then 0 else tn_tq s t) = 1) ∧ ∀ j : Int, 0 ≤ j → j < (if t = tn_nT s then k else tn_tl s t) → 0 ≤ (if t = tn_nT s then W j else tn_tw s t j) ∧ (if t = tn_nT s then W j else tn_tw s t j) < tn_n s
  by_cases e : t = tn_nT s
  · simp only [if_pos e]; exact ⟨hk.1, hk.2, Or.inl trivial, hW⟩
  · simp only [if_neg e]; exact h7 t t0 (by omega)
theorem tn_ok.setB (ok : tn_ok s) {w b : Int} (hb : 0 ≤ b ∧ b < tn_n s) : tn_ok (tn_setB s w b) := by
  obtain ⟨h1, h2, h3, h4⟩ := ok
  refine ⟨h1, h2, fun v v0 v1 => ?_, h4⟩
  show 0 ≤ (if v = w then b else tn_bs s v) ∧ (if v = w then b else tn_bs s v) < tn_n s
  split
  · exact hb
  · exact h3 v v0 v1
end LOK
