/-! reading does not depend on the terms' names -/
section NAM
variable {g g' w w' q q' : Int → Int}
theorem tn_rd_nm (e1 : ∀ p : Int, 0 ≤ p → w' (g' p) = w (g p)) : ∀ m : Nat, tn_rd g' w' m = tn_rd g w m
  | 0 => rfl
  | m + 1 => by
    simp only [tn_rd]
    rw [tn_rd_nm e1 m, e1 m (by omega)]
theorem tn_be_nm (e1 : ∀ p : Int, 0 ≤ p → w' (g' p) = w (g p)) (p : Int) : tn_be g' w' p ↔ tn_be g w p := by
  unfold tn_be
  rw [tn_rd_nm e1]
theorem tn_mk_nm (e1 : ∀ p : Int, 0 ≤ p → w' (g' p) = w (g p)) (e2 : ∀ p : Int, 0 ≤ p → (g' p = -99 ↔ g p = -99)) (e3 : ∀ p r : Int, 0 ≤ p → 0 ≤ r → (g' p = g' r ↔ g p = g r)) (e4 : ∀ p : Int, 0 ≤ p → g p ≠ -99 → (q' (g' p) = 0 ↔ q (g p) = 0)) {p : Int} (hp : 0 ≤ p) : tn_mk g' w' q' p ↔ tn_mk g w q p := by
  unfold tn_mk tn_us
  constructor
  · rintro ⟨a, c, d, e⟩
    have c' : g p ≠ -99 := fun k => c ((e2 p hp).mpr k)
    exact ⟨(tn_be_nm e1 p).mp a, c', (e4 p hp c').mp d, fun r r0 r1 k => e r r0 r1 ⟨(tn_be_nm e1 r).mpr k.1, (e3 r p r0 hp).mpr k.2⟩⟩
  · rintro ⟨a, c, d, e⟩
    exact ⟨(tn_be_nm e1 p).mpr a, fun k => c ((e2 p hp).mp k), (e4 p hp c).mpr d, fun r r0 r1 k => e r r0 r1 ⟨(tn_be_nm e1 r).mp k.1, (e3 r p r0 hp).mp k.2⟩⟩
theorem tn_km_nm (e1 : ∀ p : Int, 0 ≤ p → w' (g' p) = w (g p)) (e2 : ∀ p : Int, 0 ≤ p → (g' p = -99 ↔ g p = -99)) (e3 : ∀ p r : Int, 0 ≤ p → 0 ≤ r → (g' p = g' r ↔ g p = g r)) (e4 : ∀ p : Int, 0 ≤ p → g p ≠ -99 → (q' (g' p) = 0 ↔ q (g p) = 0)) (p : Int) : tn_km g' w' q' p = tn_km g w q p :=
  tn_sm_cg (fun i i0 _ => tn_bc (tn_mk_nm e1 e2 e3 e4 i0))
end NAM
