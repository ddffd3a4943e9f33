/-! the law's own instructions, and the script -/
def tm_xor (x y : Int) : Int := (Int32.ofInt x ^^^ Int32.ofInt y).toInt
def tm_ushr (x y : Int) : Int := (((Int32.ofInt x).toUInt32 >>> ((Int32.ofInt y).toUInt32 &&& Int32.toUInt32 31)).toInt32).toInt
def tm_rem (x y : Int) : Option Int := if y = 0 then none else some (Int32.ofInt x - Int32.ofInt x / Int32.ofInt y * Int32.ofInt y).toInt
abbrev tm_Xs : Type := (Nat → Int) × Nat
def tm_sx (X : tm_Xs) (i : Int) : Option Int := if 0 ≤ i ∧ i < X.2 then some (X.1 i.toNat) else none
theorem tm_xor_rg (x y : Int) : tm_rg (tm_xor x y) := tm_i32_rg _
theorem tm_ushr_rg (x y : Int) : tm_rg (tm_ushr x y) := tm_i32_rg _
