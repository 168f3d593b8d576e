/-! a fraction in lowest terms -/
theorem fr_int (u l : Int64) (hu : -(2 ^ 63) < u.toInt) (hl : 0 < l.toInt) : (frU u l).toInt = u.toInt / (Int.gcd u.toInt l.toInt : Int) ∧ (frL u l).toInt = l.toInt / (Int.gcd u.toInt l.toInt : Int) := by
  have hg := cdF_gcd u l hu (by omega)
  have gp : 0 < Int.gcd u.toInt l.toInt := Int.gcd_pos_of_ne_zero_right _ (by omega)
  have z : (1 : Int64).toInt = 1 := rfl
  by_cases c : cdF u l ≤ 1
  · have c1 := Int64.le_iff_toInt_le.mp c
    rw [z, hg] at c1
    have e : Int.gcd u.toInt l.toInt = 1 := by omega
    unfold frU frL
    rw [if_pos c, if_pos c, e]
    simp
  · have c1 : ¬ (cdF u l).toInt ≤ (1 : Int64).toInt := fun q => c (Int64.le_iff_toInt_le.mpr q)
    have d1 : (Int.gcd u.toInt l.toInt : Int) ∣ u.toInt := Int.gcd_dvd_left ..
    have d2 : (Int.gcd u.toInt l.toInt : Int) ∣ l.toInt := Int.gcd_dvd_right ..
    have n1 : cdF u l ≠ -1 := fun q => by rw [q] at c1; exact c1 (by decide)
    unfold frU frL
    rw [if_neg c, if_neg c, Int64.toInt_div_of_ne_right _ _ n1, Int64.toInt_div_of_ne_right _ _ n1, hg, Int.tdiv_eq_ediv_of_dvd d1, Int.tdiv_eq_ediv_of_dvd d2]
    exact ⟨rfl, rfl⟩
/-- in lowest terms, the lower one positive -/
def Low (q : Int64 × Int64) : Prop := 0 < q.2.toInt ∧ Int.gcd q.1.toInt q.2.toInt = 1
theorem fr_low (u l : Int64) (hu : -(2 ^ 63) < u.toInt) (hl : 0 < l.toInt) : Low (frU u l, frL u l) ∧ (frU u l).toInt * l.toInt = u.toInt * (frL u l).toInt ∧ (frL u l).toInt ≤ l.toInt ∧ (frU u l).toInt.natAbs ≤ u.toInt.natAbs := by
  obtain ⟨h1, h2⟩ := fr_int u l hu hl
  have gp : 0 < Int.gcd u.toInt l.toInt := Int.gcd_pos_of_ne_zero_right _ (by omega)
  have d1 : (Int.gcd u.toInt l.toInt : Int) ∣ u.toInt := Int.gcd_dvd_left ..
  have d2 : (Int.gcd u.toInt l.toInt : Int) ∣ l.toInt := Int.gcd_dvd_right ..
  have e1 := Int.ediv_mul_cancel d1
  have e2 := Int.ediv_mul_cancel d2
  refine ⟨⟨?_, ?_⟩, ?_, ?_, ?_⟩
  · show 0 < (frL u l).toInt
    rw [h2]
    exact Int.ediv_pos_of_pos_of_dvd hl (by omega) d2
  · show Int.gcd (frU u l).toInt (frL u l).toInt = 1
    rw [h1, h2]
    exact Int.gcd_ediv_gcd_ediv_gcd gp
  · rw [h1, h2]
    generalize u.toInt / (Int.gcd u.toInt l.toInt : Int) = a at *
    generalize l.toInt / (Int.gcd u.toInt l.toInt : Int) = b at *
    generalize (Int.gcd u.toInt l.toInt : Int) = g at *
    rw [← e1, ← e2, Int.mul_comm b g, ← Int.mul_assoc]
  · rw [h2]
    exact Int.ediv_le_self _ (by omega)
  · rw [h1]
    exact Int.natAbs_ediv_le_natAbs ..
theorem dvdCo {a b x : Int} (hg : Int.gcd b a = 1) (h : a ∣ b * x) : a ∣ x := by
  have h1 : a.natAbs ∣ b.natAbs * x.natAbs := by
    rw [← Int.natAbs_mul]
    exact Int.natAbs_dvd_natAbs.mpr h
  have h2 : Nat.gcd a.natAbs b.natAbs = 1 := (Nat.gcd_comm _ _).trans hg
  exact Int.natAbs_dvd_natAbs.mp (Nat.Coprime.dvd_of_dvd_mul_left h2 h1)
/-- two in lowest terms that are the same rate are the same -/
theorem Low.eq {p q : Int64 × Int64} (hp : Low p) (hq : Low q) (h : p.1.toInt * q.2.toInt = q.1.toInt * p.2.toInt) : p = q := by
  have a1 : p.2.toInt ∣ q.2.toInt := dvdCo hp.2 ⟨q.1.toInt, by rw [h, Int.mul_comm]⟩
  have a2 : q.2.toInt ∣ p.2.toInt := dvdCo hq.2 ⟨p.1.toInt, by rw [← h, Int.mul_comm]⟩
  have e2 : p.2.toInt = q.2.toInt := Int.dvd_antisymm (Int.le_of_lt hp.1) (Int.le_of_lt hq.1) a1 a2
  have e1 : p.1.toInt = q.1.toInt := by
    rw [e2] at h
    exact Int.eq_of_mul_eq_mul_right (Int.ne_of_gt hq.1) h
  exact Prod.ext (Int64.toInt_inj.mp e1) (Int64.toInt_inj.mp e2)
