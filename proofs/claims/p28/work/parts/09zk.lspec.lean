section LSP
variable {l : Int} {x : Int → Int}
end LSP
/-- a term is like one that is there -/
def tn_lik (s : tn_St) (k : Int) (W : Int → Int) : Prop := ∃ u : Int, 0 ≤ u ∧ u < tn_nT s ∧ tn_tl s u = k ∧ ∀ j : Int, 0 ≤ j → j < k → tn_bs s (tn_tw s u j) = tn_bs s (W j)
def tn_addT (s : tn_St) (k : Int) (W : Int → Int) : tn_St := (s.1, (s.2.1, ((tn_nT s + 1, ((fun t => if t = tn_nT s then k else tn_tl s t), ((fun t j => if t = tn_nT s then W j else tn_tw s t j), (fun t => if t = tn_nT s then 0 else tn_tq s t)))), s.2.2.2)))
def tn_setB (s : tn_St) (w b : Int) : tn_St := ((tn_n s, ((fun v => if v = w then b else tn_bs s v), tn_sp s)), s.2)
