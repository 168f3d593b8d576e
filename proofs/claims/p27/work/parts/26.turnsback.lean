/-! the law's own look at the period -/
theorem isL_iff (st : Nat) (bc : Nat → Option Nat) (v : Nat → Int64 × Int64) (t : Int32) : ∀ k, (isL st bc v t k = 1 ∨ isL st bc v t k = 0) ∧ (isL st bc v t k = 1 ↔ ∀ j, j < k → (v (rtA st bc (nI j))).1 * t.toInt64 - (v (rtA st bc (nI j))).1 * t.toInt64 / (v (rtA st bc (nI j))).2 * (v (rtA st bc (nI j))).2 = 0) := by
  intro k
  induction k with
  | zero => exact ⟨Or.inl rfl, fun _ j hj => absurd hj (Nat.not_lt_zero _), fun _ => rfl⟩
  | succ k ih =>
    obtain ⟨i1, i2⟩ := ih
    rw [isL]
    by_cases h : (v (rtA st bc (nI k))).1 * t.toInt64 - (v (rtA st bc (nI k))).1 * t.toInt64 / (v (rtA st bc (nI k))).2 * (v (rtA st bc (nI k))).2 = 0
    · rw [if_pos h]
      rcases i1 with e | e
      · rw [e]
        refine ⟨Or.inl (by decide), fun _ j hj => ?_, fun _ => by decide⟩
        by_cases q : j = k
        · rw [q]; exact h
        · exact i2.mp e j (by omega)
      · rw [e]
        refine ⟨Or.inr (by decide), fun q => absurd q (by decide), fun q => ?_⟩
        have := i2.mpr (fun j hj => q j (by omega))
        rw [e] at this
        exact absurd this (by decide)
    · rw [if_neg h]
      rcases i1 with e | e
      · rw [e]
        exact ⟨Or.inr (by decide), fun q => absurd q (by decide), fun q => absurd (q k (by omega)) h⟩
      · rw [e]
        exact ⟨Or.inr (by decide), fun q => absurd q (by decide), fun q => absurd (q k (by omega)) h⟩
theorem nI_inj {a b : Nat} (ha : a < 2 ^ 31) (hb : b < 2 ^ 31) (h : nI a = nI b) : a = b := by
  have h1 := nI_toInt ha
  rw [h, nI_toInt hb] at h1
  omega
theorem ip_law (st : Nat) (bc : Nat → Option Nat) (v : Nat → Int64 × Int64) (N : Int) (hN0 : 0 < N) (hN : N < 2 ^ 63) (hq : ∀ j, j < 7 → Low (v (rtA st bc (nI j))) ∧ (v (rtA st bc (nI j))).2.toInt ∣ N ∧ (v (rtA st bc (nI j))).1.toInt.natAbs < 2 ^ 53) (pz : Nat) (hp : pz < 1000) (h0 : 0 < ptL st bc v 7) (h1 : ptL st bc v 7 < 1000) (he : (ptL st bc v 7).toInt32 = nI pz) : ipL st bc v (nI pz) pz 1 = 1 := by
  have a0 := Int64.lt_iff_toInt_lt.mp h0
  have a1 := Int64.lt_iff_toInt_lt.mp h1
  rw [show (0 : Int64).toInt = 0 from rfl] at a0
  rw [show (1000 : Int64).toInt = 1000 from by decide] at a1
  have hP : (ptL st bc v 7).toInt = (pz : Int) := by
    have e := Int64.toInt_toInt32 (ptL st bc v 7)
    rw [he, nI_toInt (by omega), Int.bmod_eq_of_le (by omega) (by omega)] at e
    exact e.symm
  obtain ⟨-, -, m1, m2⟩ := pt_lcm st bc v N hN0 hN 7 (fun j hj => ⟨(hq j hj).1.1, (hq j hj).2.1⟩)
  have hc : ∀ t : Nat, t < 1000 → ∀ j, j < 7 → ((v (rtA st bc (nI j))).1 * (nI t).toInt64 - (v (rtA st bc (nI j))).1 * (nI t).toInt64 / (v (rtA st bc (nI j))).2 * (v (rtA st bc (nI j))).2 = 0 ↔ (v (rtA st bc (nI j))).2.toInt ∣ (t : Int)) := by
    intro t ht j hj
    obtain ⟨⟨l0, lg⟩, -, lu⟩ := hq j hj
    have et : (nI t).toInt64.toInt = (t : Int) := by rw [Int32.toInt_toInt64, nI_toInt (by omega)]
    have hb : ((v (rtA st bc (nI j))).1.toInt * (t : Int)).natAbs ≤ 2 ^ 53 * 1000 := by
      rw [Int.natAbs_mul]
      exact Nat.mul_le_mul (by omega) (by omega)
    have em : ((v (rtA st bc (nI j))).1 * (nI t).toInt64).toInt = (v (rtA st bc (nI j))).1.toInt * (t : Int) := by
      rw [Int64.toInt_mul, et, Int.bmod_eq_of_le (by omega) (by omega)]
    rw [rem0 _ _ (by omega) l0, em]
    exact ⟨fun q => dvdCo lg q, fun q => Int.dvd_trans q (Int.dvd_mul_left _ _)⟩
  have hs : ∀ t : Nat, 1 ≤ t → t ≤ pz → isL st bc v (nI t) 7 = if nI t = nI pz then 1 else 0 := by
    intro t t1 t2
    obtain ⟨i1, i2⟩ := isL_iff st bc v (nI t) 7
    by_cases e : t = pz
    · rw [if_pos (by rw [e])]
      refine i2.mpr (fun j hj => (hc t (by omega) j hj).mpr ?_)
      rw [e, ← hP]
      exact m1 j hj
    · rw [if_neg (fun q => e (nI_inj (by omega) (by omega) q))]
      refine i1.resolve_left (fun q => e ?_)
      have d := m2 (t : Int) (fun j hj => (hc t (by omega) j hj).mp (i2.mp q j hj))
      rw [hP] at d
      have := Int.le_of_dvd (by omega) d
      omega
  have hl : ∀ r t : Nat, 1 ≤ t → t + r = pz + 1 → ipL st bc v (nI pz) r t = 1 := by
    intro r
    induction r with
    | zero => intro t _ _; rfl
    | succ r ih =>
      intro t t1 t2
      rw [ipL, if_pos (hs t t1 (by omega))]
      exact ih (t + 1) (by omega) (by omega)
  exact hl pz 1 (Nat.le_refl _) (by omega)
