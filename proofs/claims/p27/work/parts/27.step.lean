/-! one step of a rate, over a mesh -/
theorem fr_dvd (u l : Int64) (hu : -(2 ^ 63) < u.toInt) (hl : 0 < l.toInt) : (frL u l).toInt ∣ l.toInt := by
  rw [(fr_int u l hu hl).2]
  have d2 : (Int.gcd u.toInt l.toInt : Int) ∣ l.toInt := Int.gcd_dvd_right ..
  exact ⟨_, (Int.ediv_mul_cancel d2).symm⟩
theorem mul_step (p : Int64 × Int64) (a b : Int32) (B : Nat) (hB : B ≤ 10 ^ 14) (hp : Low p) (h1 : p.1.toInt.natAbs ≤ B) (h2 : p.2.toInt ≤ (B : Int)) (a0 : 4 ≤ a.toInt) (a1 : a.toInt ≤ 100) (b0 : 4 ≤ b.toInt) (b1 : b.toInt ≤ 100) :
    Low (mulF p (-a) b) ∧ (mulF p (-a) b).1.toInt * (p.2.toInt * b.toInt) = -(p.1.toInt * a.toInt) * (mulF p (-a) b).2.toInt ∧ (mulF p (-a) b).1.toInt.natAbs ≤ 100 * B ∧ (mulF p (-a) b).2.toInt ≤ ((100 * B : Nat) : Int) ∧ (mulF p (-a) b).2.toInt ∣ p.2.toInt * b.toInt := by
  have ea : (-a).toInt64.toInt = -a.toInt := by
    rw [Int32.toInt_toInt64, Int32.toInt_neg, Int.bmod_eq_of_le (by omega) (by omega)]
  have eb : b.toInt64.toInt = b.toInt := Int32.toInt_toInt64 b
  have m1 : (p.1.toInt * -a.toInt).natAbs ≤ B * 100 := by
    rw [Int.natAbs_mul]
    exact Nat.mul_le_mul h1 (by omega)
  have m2 : (p.2.toInt * b.toInt).natAbs ≤ B * 100 := by
    rw [Int.natAbs_mul]
    exact Nat.mul_le_mul (by have := hp.1; omega) (by omega)
  have mp : 0 < p.2.toInt * b.toInt := Int.mul_pos hp.1 (by omega)
  have e1 : (p.1 * (-a).toInt64).toInt = p.1.toInt * -a.toInt := by
    rw [Int64.toInt_mul, ea, Int.bmod_eq_of_le (by omega) (by omega)]
  have e2 : (p.2 * b.toInt64).toInt = p.2.toInt * b.toInt := by
    rw [Int64.toInt_mul, eb, Int.bmod_eq_of_le (by omega) (by omega)]
  have hu : -(2 ^ 63) < (p.1 * (-a).toInt64).toInt := by omega
  have hl : 0 < (p.2 * b.toInt64).toInt := by omega
  obtain ⟨f1, f2, f3, f4⟩ := fr_low (p.1 * (-a).toInt64) (p.2 * b.toInt64) hu hl
  have f5 := fr_dvd (p.1 * (-a).toInt64) (p.2 * b.toInt64) hu hl
  rw [e2] at f2 f3 f5
  rw [e1] at f2 f4
  refine ⟨f1, ?_, ?_, ?_, f5⟩
  · show (frU (p.1 * (-a).toInt64) (p.2 * b.toInt64)).toInt * _ = _
    rw [f2, Int.mul_neg]
    rfl
  · show (frU (p.1 * (-a).toInt64) (p.2 * b.toInt64)).toInt.natAbs ≤ _
    omega
  · show (frL (p.1 * (-a).toInt64) (p.2 * b.toInt64)).toInt ≤ _
    omega
