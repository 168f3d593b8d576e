/-! the common divisor is the greatest -/
theorem rem64 (a b : Int64) (ha : 0 ≤ a.toInt) (hb : 0 < b.toInt) : (a - a / b * b).toInt = a.toInt % b.toInt := by
  have hlt := Int64.toInt_lt a
  have hd : (a / b).toInt = a.toInt / b.toInt := by
    rw [Int64.toInt_div_of_ne_right _ _ (fun q => by rw [q] at hb; exact absurd hb (by decide)), Int.tdiv_eq_ediv_of_nonneg ha]
  have q0 : 0 ≤ a.toInt / b.toInt * b.toInt := Int.mul_nonneg (Int.ediv_nonneg ha (Int.le_of_lt hb)) (Int.le_of_lt hb)
  have q1 : a.toInt / b.toInt * b.toInt ≤ a.toInt := Int.ediv_mul_le _ (Int.ne_of_gt hb)
  have h1 : (a / b * b).toInt = a.toInt / b.toInt * b.toInt := by
    rw [Int64.toInt_mul, hd, Int.bmod_eq_of_le (by omega) (by omega)]
  rw [Int64.toInt_sub, h1, Int.bmod_eq_of_le (by omega) (by omega)]
  have := Int.emod_add_mul_ediv a.toInt b.toInt
  rw [Int.mul_comm] at this
  omega
theorem half_rem {b r : Int} (h0 : 0 < r) (h1 : r < b) : 2 * (b % r) < b := by
  have e := Int.emod_add_mul_ediv b r
  have l := Int.emod_lt_of_pos b h0
  have q : 1 ≤ b / r := Int.le_ediv_of_mul_le h0 (by omega)
  have m : r * 1 ≤ r * (b / r) := Int.mul_le_mul_of_nonneg_left q (Int.le_of_lt h0)
  omega
theorem cdL_gcd : ∀ (k : Nat) (a b : Int64), 0 ≤ a.toInt → 0 ≤ b.toInt → b.toInt < 2 ^ k → ∀ f, 2 * k ≤ f → (cdL f a b).toInt = Int.gcd a.toInt b.toInt := by
  intro k
  have base : ∀ (a b : Int64) (f : Nat), 0 ≤ a.toInt → b.toInt = 0 → (cdL f a b).toInt = Int.gcd a.toInt b.toInt := by
    intro a b f ha hb
    have e : cdL f a b = a := by
      cases f with
      | zero => rfl
      | succ f => rw [cdL, if_pos (Int64.toInt_inj.mp hb)]
    rw [e, hb, Int.gcd_zero_right]
    omega
  have one : ∀ (a b : Int64) (f : Nat), ¬ b.toInt = 0 → cdL (f + 1) a b = cdL f b (a - a / b * b) := by
    intro a b f hb
    rw [cdL, if_neg (fun q => hb (by rw [q]; rfl))]
  have g1 : ∀ (x y : Int), 0 ≤ x → 0 ≤ y → Int.gcd y (x % y) = Int.gcd x y := by
    intro x y h1 h2
    obtain ⟨a, rfl⟩ := Int.eq_ofNat_of_zero_le h1
    obtain ⟨b, rfl⟩ := Int.eq_ofNat_of_zero_le h2
    rw [show ((a : Int) % (b : Int)) = ((a % b : Nat) : Int) from rfl]
    show Nat.gcd b (a % b) = Nat.gcd a b
    rw [Nat.gcd_comm a b, Nat.gcd_rec b a, Nat.gcd_comm]
  induction k with
  | zero =>
    intro a b ha hb hk f _
    exact base a b f ha (by simp at hk; omega)
  | succ k ih =>
    intro a b ha hb hk f hf
    by_cases hb0 : b.toInt = 0
    · exact base a b f ha hb0
    · obtain ⟨f1, rfl⟩ : ∃ f1, f = f1 + 1 := ⟨f - 1, by omega⟩
      rw [one a b f1 hb0]
      have hr := rem64 a b ha (by omega)
      have r0 := Int.emod_nonneg a.toInt hb0
      have r1 := Int.emod_lt_of_pos a.toInt (b := b.toInt) (by omega)
      by_cases hr0 : (a - a / b * b).toInt = 0
      · rw [base b _ f1 hb hr0, hr, g1 _ _ ha hb]
      · obtain ⟨f2, rfl⟩ : ∃ f2, f1 = f2 + 1 := ⟨f1 - 1, by omega⟩
        rw [one b _ f2 hr0]
        have hr2 := rem64 b (a - a / b * b) hb (by omega)
        have s0 := Int.emod_nonneg b.toInt hr0
        have hh := half_rem (b := b.toInt) (r := (a - a / b * b).toInt) (by omega) (by omega)
        rw [ih (a - a / b * b) _ (by omega) (by omega) (by rw [hr2]; rw [Int.pow_succ] at hk; omega) f2 (by omega), hr2, g1 _ _ hb (by omega), hr, g1 _ _ ha hb]
theorem abs64 (x : Int64) (h : -(2 ^ 63) < x.toInt) : (if x < 0 then -x else x).toInt = x.toInt.natAbs := by
  have hlt := Int64.toInt_lt x
  have z : (0 : Int64).toInt = 0 := rfl
  by_cases c : x < 0
  · rw [if_pos c]
    have c1 := Int64.lt_iff_toInt_lt.mp c
    rw [z] at c1
    rw [Int64.toInt_neg, Int.bmod_eq_of_le (by omega) (by omega)]
    omega
  · rw [if_neg c]
    have c1 : ¬ x.toInt < (0 : Int64).toInt := fun q => c (Int64.lt_iff_toInt_lt.mpr q)
    rw [z] at c1
    omega
theorem cdF_gcd (x y : Int64) (hx : -(2 ^ 63) < x.toInt) (hy : -(2 ^ 63) < y.toInt) : (cdF x y).toInt = Int.gcd x.toInt y.toInt := by
  unfold cdF
  have ax := abs64 x hx
  have ay := abs64 y hy
  have ly := Int64.toInt_lt y
  rw [cdL_gcd 64 _ _ (by omega) (by omega) (by rw [ay]; omega) 1000 (by decide), ax, ay]
  simp [Int.gcd]
