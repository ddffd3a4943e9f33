theorem tm_law_ok (xs : Nat → Int) (L n : Nat) (hx : ∀ j, tm_rg (xs j)) (hL : L ≤ 2560) : fL_law xs L (fun _ => none) n = some 1 := sorry
