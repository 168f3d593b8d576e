/-! rates spread: what a table of rates holds -/
def aN (ax : Nat → Int32) (k : Nat) : Nat := (ax k).toNatClampNeg
def GE (n : Nat) (ax te me : Nat → Int32) : Prop := n ≤ 12 ∧ (∀ k, k < n → aN ax k < 7 ∧ ax k = nI (aN ax k)) ∧ (∀ k, k < n → 4 ≤ (te k).toInt ∧ (te k).toInt ≤ 100) ∧ ∀ k, k < 12 → ∀ j, j < 32 → bt (me k) j = true → k < n ∧ j < n ∧ bt (me j) k = true
def PO (ax te me : Nat → Int32) (ph : Nat → Int) : Prop := (∀ a, ph a ≠ 0) ∧ ∀ k, k < 12 → ∀ j, j < 32 → bt (me k) j = true → ph (aN ax j) * (te j).toInt = -(ph (aN ax k) * (te k).toInt)
def bN (o : Option (Int64 × Int64)) : Nat := if o.isSome = true then 1 else 0
def cR (r : RT) : Nat := bN (r 0) + bN (r 1) + bN (r 2) + bN (r 3) + bN (r 4) + bN (r 5) + bN (r 6)
theorem bN_le (o : Option (Int64 × Int64)) : bN o ≤ 1 := by
  unfold bN
  split <;> decide
theorem cR_le (r : RT) : cR r ≤ 7 := by
  unfold cR
  have h0 := bN_le (r 0)
  have h1 := bN_le (r 1)
  have h2 := bN_le (r 2)
  have h3 := bN_le (r 3)
  have h4 := bN_le (r 4)
  have h5 := bN_le (r 5)
  have h6 := bN_le (r 6)
  omega
theorem bN_some (p : Int64 × Int64) : bN (some p) = 1 := rfl
theorem bN_none : bN none = 0 := rfl
theorem cR_up {r : RT} {a : Nat} (ha : a < 7) (h : r a = none) (p : Int64 × Int64) : cR (va_up r a (some p)) = cR r + 1 := by
  have hc : a = 0 ∨ a = 1 ∨ a = 2 ∨ a = 3 ∨ a = 4 ∨ a = 5 ∨ a = 6 := by omega
  rcases hc with rfl | rfl | rfl | rfl | rfl | rfl | rfl <;> simp [cR, va_up, h, bN_some, bN_none] <;> omega
/-- what holds of a table of rates by one axle of potential f0, while it grows -/
def RI (ph : Nat → Int) (f0 : Int) (r : RT) : Prop := 1 ≤ cR r ∧ (∀ a q, r a = some q → a < 7 ∧ Low q ∧ q.1.toInt * f0 = q.2.toInt * ph a ∧ q.1.toInt.natAbs ≤ 100 ^ (cR r - 1) ∧ q.2.toInt ≤ ((100 ^ (cR r - 1) : Nat) : Int)) ∧ ∃ N : Nat, 0 < N ∧ N ≤ 100 ^ (cR r - 1) ∧ ∀ a q, r a = some q → q.2.toInt ∣ (N : Int)
/-- one table out of another: it grew, just if the mark says so -/
def GR (r r1 : RT) (f : Int32) : Prop := (∀ a q, r a = some q → r1 a = some q) ∧ (f = 0 → r1 = r) ∧ (¬ f = 0 → cR r < cR r1)
theorem GR.rf (r : RT) : GR r r 0 := ⟨fun _ _ h => h, fun _ => rfl, fun h => absurd rfl h⟩
theorem GR.le {r r1 : RT} {f : Int32} (h : GR r r1 f) : cR r ≤ cR r1 := by
  by_cases e : f = 0
  · rw [h.2.1 e]
    exact Nat.le_refl _
  · exact Nat.le_of_lt (h.2.2 e)
set_option maxHeartbeats 1000000 in
theorem sfS_ok {n : Nat} {ax te me : Nat → Int32} {ph : Nat → Int} {f0 : Int} (hG : GE n ax te me) (hP : PO ax te me ph) {w k : Nat} (hw : w < n) (hk : k < n) {p : Int64 × Int64} {r : RT} {s : RT × Int32} (hp : s.1 (aN ax w) = some p) (hI : RI ph f0 s.1) (hg : GR r s.1 s.2) :
    RI ph f0 (sfS ax te me (nI w) p k s).1 ∧ GR r (sfS ax te me (nI w) p k s).1 (sfS ax te me (nI w) p k s).2 ∧ (sfS ax te me (nI w) p k s).1 (aN ax w) = some p ∧ ((sfS ax te me (nI w) p k s).2 = 0 → s.2 = 0 ∧ (bt (me w) k = true → (s.1 (aN ax k)).isSome = true)) := by
  obtain ⟨hn, hA, hT, hM⟩ := hG
  unfold sfS
  rw [at12 me w (by omega), at12 ax k (by omega), at12 te w (by omega), at12 te k (by omega)]
  by_cases hb : bt (me w) k = true
  · rw [if_neg (fun q => by rw [(isIn0 (by omega)).mp q] at hb; cases hb)]
    have ha7 := (hA k hk).1
    have e0 : ¬ ax k < 0 := by rw [(hA k hk).2]; exact nI_pos (by omega)
    have e7 : ¬ nI 7 ≤ ax k := by rw [(hA k hk).2]; exact nI_ge ha7 (by decide)
    rw [if_neg e0, if_neg e7, show (ax k).toNatClampNeg = aN ax k from rfl]
    by_cases hs : (s.1 (aN ax k)).isSome = true
    · rw [if_pos hs]
      exact ⟨hI, hg, hp, fun q => ⟨q, fun _ => hs⟩⟩
    · rw [if_neg hs]
      have hnone : s.1 (aN ax k) = none := by simpa using hs
      obtain ⟨h1, h2, N, hN0, hN1, hN2⟩ := hI
      have hcu := cR_up ha7 hnone (mulF p (-te w) (te k))
      have hc : cR s.1 ≤ 6 := by
        have := cR_le (va_up s.1 (aN ax k) (some (mulF p (-te w) (te k))))
        omega
      have hB : 100 ^ (cR s.1 - 1) ≤ 10 ^ 14 := Nat.le_trans (Nat.pow_le_pow_right (by decide) (show cR s.1 - 1 ≤ 5 by omega)) (by decide)
      obtain ⟨p7, pL, pr, pu, pl⟩ := h2 _ _ hp
      obtain ⟨m1, m2, m3, m4, m5⟩ := mul_step p (te w) (te k) _ hB pL pu pl (hT w hw).1 (hT w hw).2 (hT k hk).1 (hT k hk).2
      have hpw : 100 ^ (cR (va_up s.1 (aN ax k) (some (mulF p (-te w) (te k)))) - 1) = 100 * 100 ^ (cR s.1 - 1) := by
        rw [hcu, show cR s.1 + 1 - 1 = (cR s.1 - 1) + 1 by omega, Nat.pow_succ, Nat.mul_comm]
      have htk : 0 < (te k).toInt := by
        have := (hT k hk).1
        omega
      have hst := step_rate pL.1 htk (hP.2 w (by omega) k (by omega) hb) pr m2
      have hle := hg.le
      have hne : ¬ aN ax w = aN ax k := fun q => by rw [q, hnone] at hp; cases hp
      dsimp only
      refine ⟨⟨by omega, fun a q hq => ?_, N * (te k).toInt.toNat, Nat.mul_pos hN0 (by omega), ?_, fun a q hq => ?_⟩, ⟨fun a q hq => ?_, fun q => absurd q (by decide), fun _ => by omega⟩, ?_, fun q => absurd q (by decide)⟩
      · rw [hpw]
        by_cases e : a = aN ax k
        · rw [e, va_up_self] at hq
          obtain rfl := Option.some.inj hq
          rw [e]
          exact ⟨ha7, m1, hst, m3, m4⟩
        · rw [va_up_ne _ _ e] at hq
          obtain ⟨k1, k2, k3, k4, k5⟩ := h2 a q hq
          generalize 100 ^ (cR s.1 - 1) = B at *
          exact ⟨k1, k2, k3, by omega, by omega⟩
      · rw [hpw]
        have t1 : (te k).toInt.toNat ≤ 100 := by
          have := (hT k hk).2
          omega
        have := Nat.mul_le_mul hN1 t1
        omega
      · have ec : ((N * (te k).toInt.toNat : Nat) : Int) = (N : Int) * (te k).toInt := by
          rw [Int.natCast_mul, Int.toNat_of_nonneg (Int.le_of_lt htk)]
        rw [ec]
        by_cases e : a = aN ax k
        · rw [e, va_up_self] at hq
          obtain rfl := Option.some.inj hq
          exact Int.dvd_trans m5 (Int.mul_dvd_mul (hN2 _ _ hp) (Int.dvd_refl _))
        · rw [va_up_ne _ _ e] at hq
          exact Int.dvd_trans (hN2 a q hq) (Int.dvd_mul_right _ _)
      · have h9 := hg.1 a q hq
        have e : ¬ a = aN ax k := fun z => by rw [z, hnone] at h9; cases h9
        rw [va_up_ne _ _ e]
        exact h9
      · rw [va_up_ne _ _ hne]
        exact hp
  · rw [if_pos ((isIn0 (by omega)).mpr (by simpa using hb))]
    exact ⟨hI, hg, hp, fun q => ⟨q, fun z => absurd z hb⟩⟩
theorem sfL_ok {n : Nat} {ax te me : Nat → Int32} {ph : Nat → Int} {f0 : Int} (hG : GE n ax te me) (hP : PO ax te me ph) {w : Nat} (hw : w < n) {p : Int64 × Int64} {r : RT} (hp : r (aN ax w) = some p) (hI : RI ph f0 r) : ∀ k, k ≤ n →
    RI ph f0 (sfL ax te me (nI w) p r k).1 ∧ GR r (sfL ax te me (nI w) p r k).1 (sfL ax te me (nI w) p r k).2 ∧ (sfL ax te me (nI w) p r k).1 (aN ax w) = some p ∧ ((sfL ax te me (nI w) p r k).2 = 0 → ∀ j, j < k → bt (me w) j = true → (r (aN ax j)).isSome = true) := by
  intro k
  induction k with
  | zero => intro _; exact ⟨hI, GR.rf r, hp, fun _ j hj => absurd hj (Nat.not_lt_zero _)⟩
  | succ k ih =>
    intro hk
    obtain ⟨i1, i2, i3, i4⟩ := ih (by omega)
    rw [sfL]
    obtain ⟨j1, j2, j3, j4⟩ := sfS_ok hG hP hw (show k < n by omega) i3 i1 i2
    refine ⟨j1, j2, j3, fun q j hj hb => ?_⟩
    obtain ⟨z1, z2⟩ := j4 q
    by_cases e : j = k
    · rw [e] at hb ⊢
      have := z2 hb
      rw [i2.2.1 z1] at this
      exact this
    · exact i4 z1 j (by omega) hb
theorem rin_at {ax : Nat → Int32} {k : Nat} (hk : k < 12) (h : aN ax k < 7 ∧ ax k = nI (aN ax k)) (r : RT) : rinR r (atF 12 ax (nI k)) = r (aN ax k) := by
  rw [at12 ax k hk]
  unfold rinR
  have e0 : ¬ ax k < 0 := by rw [h.2]; exact nI_pos (by omega)
  have e7 : ¬ nI 7 ≤ ax k := by rw [h.2]; exact nI_ge h.1 (by decide)
  rw [if_neg e0, if_neg e7]
  rfl
theorem sfw_ok {n : Nat} {ax te me : Nat → Int32} {ph : Nat → Int} {f0 : Int} (hG : GE n ax te me) (hP : PO ax te me ph) {w : Nat} (hw : w < n) {r : RT} (hI : RI ph f0 r) :
    RI ph f0 (sfw ax te me n (nI w) r).1 ∧ GR r (sfw ax te me n (nI w) r).1 (sfw ax te me n (nI w) r).2 ∧ ((sfw ax te me n (nI w) r).2 = 0 → (r (aN ax w)).isSome = true → ∀ j, j < n → bt (me w) j = true → (r (aN ax j)).isSome = true) := by
  have hn := hG.1
  unfold sfw
  rw [rin_at (by omega) (hG.2.1 w hw) r]
  cases hr : r (aN ax w) with
  | none => exact ⟨hI, GR.rf r, fun _ q => absurd q (by simp)⟩
  | some p =>
    obtain ⟨i1, i2, i3, i4⟩ := sfL_ok hG hP hw hr hI n (Nat.le_refl _)
    exact ⟨i1, i2, fun q _ => i4 q⟩
theorem swL_ok {n : Nat} {ax te me : Nat → Int32} {ph : Nat → Int} {f0 : Int} (hG : GE n ax te me) (hP : PO ax te me ph) {r : RT} (hI : RI ph f0 r) : ∀ k, k ≤ n →
    RI ph f0 (swL ax te me n r k).1 ∧ GR r (swL ax te me n r k).1 (swL ax te me n r k).2 ∧ ((swL ax te me n r k).2 = 0 → ∀ w, w < k → (r (aN ax w)).isSome = true → ∀ j, j < n → bt (me w) j = true → (r (aN ax j)).isSome = true) := by
  have hn := hG.1
  intro k
  induction k with
  | zero => intro _; exact ⟨hI, GR.rf r, fun _ w hw => absurd hw (Nat.not_lt_zero _)⟩
  | succ k ih =>
    intro hk
    obtain ⟨i1, i2, i3⟩ := ih (by omega)
    rw [swL, swS, at12 me k (by omega)]
    by_cases hm : me k = 0
    · rw [if_pos hm]
      refine ⟨i1, i2, fun q w hw hs j hj hb => ?_⟩
      by_cases e : w = k
      · rw [e, hm, bt_zero] at hb
        cases hb
      · exact i3 q w (by omega) hs j hj hb
    · rw [if_neg hm]
      obtain ⟨j1, j2, j3⟩ := sfw_ok hG hP (show k < n by omega) i1
      dsimp only
      refine ⟨j1, ⟨fun a q h => j2.1 a q (i2.1 a q h), fun q => ?_, fun q => ?_⟩, fun q w hw hs j hj hb => ?_⟩
      · by_cases c : (sfw ax te me n (nI k) (swL ax te me n r k).1).2 = 0
        · rw [if_pos c] at q
          rw [j2.2.1 c, i2.2.1 q]
        · rw [if_neg c] at q
          exact absurd q (by decide)
      · by_cases c : (sfw ax te me n (nI k) (swL ax te me n r k).1).2 = 0
        · rw [if_pos c] at q
          rw [j2.2.1 c]
          exact i2.2.2 q
        · exact Nat.lt_of_le_of_lt i2.le (j2.2.2 c)
      · by_cases c : (sfw ax te me n (nI k) (swL ax te me n r k).1).2 = 0
        · rw [if_pos c] at q
          by_cases e : w = k
          · rw [e] at hs hb
            rw [i2.2.1 q] at j3 c
            exact j3 c hs j hj hb
          · exact i3 q w (by omega) hs j hj hb
        · rw [if_neg c] at q
          exact absurd q (by decide)
def CLd (n : Nat) (ax me : Nat → Int32) (r : RT) : Prop := ∀ w, w < n → (r (aN ax w)).isSome = true → ∀ j, j < n → bt (me w) j = true → (r (aN ax j)).isSome = true
theorem spR_ok {n : Nat} {ax te me : Nat → Int32} {ph : Nat → Int} {f0 : Int} (hG : GE n ax te me) (hP : PO ax te me ph) : ∀ (x : Nat) (g : Int32) (r : RT), RI ph f0 r → ((g = 0 ∧ CLd n ax me r) ∨ (¬ g = 0 ∧ 8 ≤ cR r + x)) → RI ph f0 (spR ax te me n x g r) ∧ CLd n ax me (spR ax te me n x g r) ∧ ∀ a q, r a = some q → spR ax te me n x g r a = some q := by
  intro x
  induction x with
  | zero =>
    intro g r hI hc
    rw [spR]
    refine ⟨hI, ?_, fun _ _ h => h⟩
    rcases hc with h | h
    · exact h.2
    · have := cR_le r
      have := h.2
      omega
  | succ x ih =>
    intro g r hI hc
    rw [spR]
    by_cases e : g = 0
    · rw [if_pos e]
      refine ⟨hI, ?_, fun _ _ h => h⟩
      rcases hc with h | h
      · exact h.2
      · exact absurd e h.1
    · rw [if_neg e]
      obtain ⟨j1, j2, j3⟩ := swL_ok hG hP hI n (Nat.le_refl _)
      have hc2 : ((swL ax te me n r n).2 = 0 ∧ CLd n ax me (swL ax te me n r n).1) ∨ (¬ (swL ax te me n r n).2 = 0 ∧ 8 ≤ cR (swL ax te me n r n).1 + x) := by
        by_cases c : (swL ax te me n r n).2 = 0
        · refine Or.inl ⟨c, ?_⟩
          rw [j2.2.1 c]
          exact j3 c
        · have := j2.2.2 c
          rcases hc with h | h
          · exact absurd h.1 e
          · have := h.2
            exact Or.inr ⟨c, by omega⟩
      obtain ⟨k1, k2, k3⟩ := ih _ _ j1 hc2
      exact ⟨k1, k2, fun a q h => k3 a q (j2.1 a q h)⟩
