/-! behind how many turns all stands as it stood -/
theorem rem0 (a b : Int64) (ha : -(2 ^ 63) < a.toInt) (hb : 0 < b.toInt) : a - a / b * b = 0 ↔ b.toInt ∣ a.toInt := by
  have hlt := Int64.toInt_lt a
  have hd : (a / b).toInt = a.toInt.tdiv b.toInt := Int64.toInt_div_of_ne_right _ _ (fun q => by rw [q] at hb; exact absurd hb (by decide))
  have hq : (a.toInt.tdiv b.toInt * b.toInt).natAbs ≤ a.toInt.natAbs := by
    rw [Int.natAbs_mul, Int.natAbs_tdiv]
    exact Nat.div_mul_le_self ..
  have h1 : (a / b * b).toInt = a.toInt.tdiv b.toInt * b.toInt := by
    rw [Int64.toInt_mul, hd, Int.bmod_eq_of_le (by omega) (by omega)]
  have e := Int.tmod_add_mul_tdiv a.toInt b.toInt
  rw [Int.mul_comm] at e
  have hr : (a.toInt.tmod b.toInt).natAbs ≤ a.toInt.natAbs := by
    rw [Int.natAbs_tmod]
    exact Nat.mod_le ..
  have h2 : (a - a / b * b).toInt = a.toInt.tmod b.toInt := by
    rw [Int64.toInt_sub, h1, Int.bmod_eq_of_le (by omega) (by omega)]
    omega
  rw [← Int64.toInt_inj, h2]
  exact (Int.dvd_iff_tmod_eq_zero).symm
/-- the loop's number: the least that all the lower ones divide -/
theorem pt_lcm (st : Nat) (bc : Nat → Option Nat) (v : Nat → Int64 × Int64) (N : Int) (hN0 : 0 < N) (hN : N < 2 ^ 63) : ∀ k, (∀ j, j < k → 0 < (v (rtA st bc (nI j))).2.toInt ∧ (v (rtA st bc (nI j))).2.toInt ∣ N) → 0 < (ptL st bc v k).toInt ∧ (ptL st bc v k).toInt ∣ N ∧ (∀ j, j < k → (v (rtA st bc (nI j))).2.toInt ∣ (ptL st bc v k).toInt) ∧ ∀ M : Int, (∀ j, j < k → (v (rtA st bc (nI j))).2.toInt ∣ M) → (ptL st bc v k).toInt ∣ M := by
  intro k
  induction k with
  | zero =>
    intro _
    have e : (ptL st bc v 0).toInt = 1 := rfl
    rw [e]
    exact ⟨by decide, Int.one_dvd _, fun j hj => absurd hj (Nat.not_lt_zero _), fun M _ => Int.one_dvd _⟩
  | succ k ih =>
    intro h
    obtain ⟨i0, i1, i2, i3⟩ := ih (fun j hj => h j (by omega))
    obtain ⟨l0, l1⟩ := h k (by omega)
    have hg := cdF_gcd (ptL st bc v k) (v (rtA st bc (nI k))).2 (by omega) (by omega)
    have z : (0 : Int64).toInt = 0 := rfl
    have gp : 0 < Int.gcd (ptL st bc v k).toInt (v (rtA st bc (nI k))).2.toInt := Int.gcd_pos_of_ne_zero_right _ (by omega)
    have c : ¬ cdF (ptL st bc v k) (v (rtA st bc (nI k))).2 ≤ 0 := fun q => by
      have q1 := Int64.le_iff_toInt_le.mp q
      rw [z, hg] at q1
      omega
    have n1 : cdF (ptL st bc v k) (v (rtA st bc (nI k))).2 ≠ -1 := fun q => by
      rw [q] at hg
      have : ((-1 : Int64)).toInt = -1 := by decide
      omega
    have d1 : (Int.gcd (ptL st bc v k).toInt (v (rtA st bc (nI k))).2.toInt : Int) ∣ (ptL st bc v k).toInt := Int.gcd_dvd_left ..
    have hl : ∀ M : Int, (ptL st bc v k).toInt ∣ M → (v (rtA st bc (nI k))).2.toInt ∣ M → (ptL st bc v k).toInt / (Int.gcd (ptL st bc v k).toInt (v (rtA st bc (nI k))).2.toInt : Int) * (v (rtA st bc (nI k))).2.toInt ∣ M := by
      intro M m1 m2
      have e : (ptL st bc v k).toInt / (Int.gcd (ptL st bc v k).toInt (v (rtA st bc (nI k))).2.toInt : Int) * (v (rtA st bc (nI k))).2.toInt = (Int.lcm (ptL st bc v k).toInt (v (rtA st bc (nI k))).2.toInt : Int) := by
        have e1 := Int.gcd_mul_lcm (ptL st bc v k).toInt (v (rtA st bc (nI k))).2.toInt
        have e2 := Int.ediv_mul_cancel d1
        have e3 : ((ptL st bc v k).toInt * (v (rtA st bc (nI k))).2.toInt).natAbs = (ptL st bc v k).toInt * (v (rtA st bc (nI k))).2.toInt := Int.natAbs_of_nonneg (Int.mul_nonneg (by omega) (by omega))
        have e4 : (Int.gcd (ptL st bc v k).toInt (v (rtA st bc (nI k))).2.toInt : Int) * (Int.lcm (ptL st bc v k).toInt (v (rtA st bc (nI k))).2.toInt : Int) = (ptL st bc v k).toInt * (v (rtA st bc (nI k))).2.toInt := by
          have e5 := congrArg (fun x : Nat => (x : Int)) e1
          simp only [Int.natCast_mul] at e5
          rw [e5, Int.natAbs_of_nonneg (by omega), Int.natAbs_of_nonneg (by omega)]
        apply Int.eq_of_mul_eq_mul_left (a := (Int.gcd (ptL st bc v k).toInt (v (rtA st bc (nI k))).2.toInt : Int)) (by omega)
        rw [e4, ← Int.mul_assoc, Int.mul_comm (Int.gcd _ _ : Int), e2]
      rw [e]
      exact Int.dvd_natAbs.mp (Int.ofNat_dvd.mpr (Int.lcm_dvd (Int.dvd_natAbs.mpr m1) (Int.dvd_natAbs.mpr m2)))
    have pN := hl N i1 l1
    have pos : 0 < (ptL st bc v k).toInt / (Int.gcd (ptL st bc v k).toInt (v (rtA st bc (nI k))).2.toInt : Int) * (v (rtA st bc (nI k))).2.toInt := Int.mul_pos (Int.ediv_pos_of_pos_of_dvd i0 (by omega) d1) l0
    have le := Int.le_of_dvd hN0 pN
    have ev : (ptL st bc v (k + 1)).toInt = (ptL st bc v k).toInt / (Int.gcd (ptL st bc v k).toInt (v (rtA st bc (nI k))).2.toInt : Int) * (v (rtA st bc (nI k))).2.toInt := by
      rw [ptL, if_neg c, Int64.toInt_mul, Int64.toInt_div_of_ne_right _ _ n1, hg, Int.tdiv_eq_ediv_of_dvd d1, Int.bmod_eq_of_le (by omega) (by omega)]
    rw [ev]
    refine ⟨pos, pN, fun j hj => ?_, fun M hM => hl M (i3 M (fun j hj => hM j (by omega))) (hM k (by omega))⟩
    by_cases e : j = k
    · rw [e]
      exact Int.dvd_mul_left _ _
    · refine Int.dvd_trans (i2 j (by omega)) ?_
      have d2 : (Int.gcd (ptL st bc v k).toInt (v (rtA st bc (nI k))).2.toInt : Int) ∣ (v (rtA st bc (nI k))).2.toInt := Int.gcd_dvd_right ..
      have e2 := Int.ediv_mul_cancel d1
      obtain ⟨w, hw⟩ := d2
      refine ⟨w, ?_⟩
      conv => rhs; rw [← e2]
      rw [Int.mul_assoc, ← hw]
