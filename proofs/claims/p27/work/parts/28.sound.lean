/-! a step keeps a potential -/
theorem step_rate {u l U L tw tk f0 fa fk : Int} (hl : 0 < l) (htk : 0 < tk) (hm : fk * tk = -(fa * tw)) (h : u * f0 = l * fa) (hs : U * (l * tk) = -(u * tw) * L) : U * f0 = L * fk := by
  have hp : l * tk ≠ 0 := Int.ne_of_gt (Int.mul_pos hl htk)
  have e1 : U * f0 * (l * tk) = L * fk * (l * tk) := by
    have a1 : U * f0 * (l * tk) = U * (l * tk) * f0 := by ac_rfl
    have a2 : -(u * tw) * L * f0 = -(tw * L * (u * f0)) := by
      rw [Int.neg_mul, Int.neg_mul]
      congr 1
      ac_rfl
    have a3 : L * fk * (l * tk) = L * l * (fk * tk) := by ac_rfl
    rw [a1, hs, a2, a3, hm, h, Int.mul_neg]
    congr 1
    ac_rfl
  exact Int.eq_of_mul_eq_mul_right hp e1
