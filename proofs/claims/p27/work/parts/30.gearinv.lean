/-! what a spread table of rates says, and what a mesh more or less leaves of it -/
def SC (ax me : Nat → Int32) (ph : Nat → Int) (f0 : Int) (r : RT) : Prop := (∀ a q, r a = some q → a < 7 ∧ Low q ∧ q.1.toInt * f0 = q.2.toInt * ph a ∧ q.1.toInt.natAbs ≤ 10 ^ 12 ∧ q.2.toInt ≤ 10 ^ 12) ∧ (∃ N : Int, 0 < N ∧ N ≤ 10 ^ 12 ∧ ∀ a q, r a = some q → q.2.toInt ∣ N) ∧ ∀ k, k < 12 → ∀ j, j < 32 → bt (me k) j = true → (r (aN ax k)).isSome = true → (r (aN ax j)).isSome = true
theorem fW_eq : fW = (1, 1) := by decide +kernel
theorem fZ_eq : fZ = (0, 1) := by decide +kernel
theorem lowW : Low fW := by
  rw [fW_eq]
  exact ⟨by decide, by decide⟩
theorem lowZ : Low fZ := by
  rw [fZ_eq]
  exact ⟨by decide, by decide⟩
theorem r0_at {a0 : Nat} (h0 : a0 < 7) (w : Int64 × Int64) (k : Nat) : r0F (nI a0) w k = if k = a0 then some w else none := by
  unfold r0F
  by_cases e : k = a0
  · rw [e, if_pos ⟨h0, rfl⟩, if_pos rfl]
  · rw [if_neg (fun q => e (nI_inj (by omega) (by omega) q.2)), if_neg e]
theorem r0_c {a0 : Nat} (h0 : a0 < 7) (w : Int64 × Int64) : cR (r0F (nI a0) w) = 1 := by
  unfold cR
  rw [r0_at h0, r0_at h0, r0_at h0, r0_at h0, r0_at h0, r0_at h0, r0_at h0]
  have hc : a0 = 0 ∨ a0 = 1 ∨ a0 = 2 ∨ a0 = 3 ∨ a0 = 4 ∨ a0 = 5 ∨ a0 = 6 := by omega
  rcases hc with rfl | rfl | rfl | rfl | rfl | rfl | rfl <;> simp [bN_some, bN_none]
theorem RI_0 {ph : Nat → Int} {a0 : Nat} (h0 : a0 < 7) : RI ph (ph a0) (r0F (nI a0) fW) := by
  have e1 : fW.1.toInt = 1 := by rw [fW_eq]; decide
  have e2 : fW.2.toInt = 1 := by rw [fW_eq]; decide
  have hq : ∀ a q, r0F (nI a0) fW a = some q → a = a0 ∧ q = fW := by
    intro a q h
    rw [r0_at h0] at h
    by_cases e : a = a0
    · rw [if_pos e] at h
      exact ⟨e, (Option.some.inj h).symm⟩
    · rw [if_neg e] at h
      cases h
  refine ⟨by rw [r0_c h0]; decide, fun a q h => ?_, 1, by decide, by rw [r0_c h0]; decide, fun a q h => ?_⟩
  · obtain ⟨ea, eq⟩ := hq a q h
    rw [r0_c h0, ea, eq, e1, e2]
    exact ⟨h0, lowW, rfl, by decide, by decide⟩
  · obtain ⟨ea, eq⟩ := hq a q h
    rw [eq, e2]
    decide
theorem spr_ok {n : Nat} {ax te me : Nat → Int32} {ph : Nat → Int} (hG : GE n ax te me) (hP : PO ax te me ph) {a0 : Nat} (h0 : a0 < 7) : SC ax me ph (ph a0) (sprF ax te me n (nI a0) fW) ∧ sprF ax te me n (nI a0) fW a0 = some fW := by
  obtain ⟨k1, k2, k3⟩ := spR_ok hG hP 7 1 (r0F (nI a0) fW) (RI_0 h0) (Or.inr ⟨by decide, by rw [r0_c h0]; decide⟩)
  have k4 : sprF ax te me n (nI a0) fW a0 = some fW := k3 a0 fW (by rw [r0_at h0, if_pos rfl])
  refine ⟨?_, k4⟩
  change RI ph (ph a0) (sprF ax te me n (nI a0) fW) at k1
  change CLd n ax me (sprF ax te me n (nI a0) fW) at k2
  obtain ⟨i1, i2, N, i3, i4, i5⟩ := k1
  have hb : 100 ^ (cR (sprF ax te me n (nI a0) fW) - 1) ≤ 10 ^ 12 := Nat.le_trans (Nat.pow_le_pow_right (by decide) (show cR (sprF ax te me n (nI a0) fW) - 1 ≤ 6 by have := cR_le (sprF ax te me n (nI a0) fW); omega)) (by decide)
  generalize 100 ^ (cR (sprF ax te me n (nI a0) fW) - 1) = B at *
  refine ⟨fun a q h => ?_, ⟨(N : Int), by omega, by omega, i5⟩, fun k hk j hj hm hs => ?_⟩
  · obtain ⟨z1, z2, z3, z4, z5⟩ := i2 a q h
    exact ⟨z1, z2, z3, by omega, by omega⟩
  · obtain ⟨g1, g2, -⟩ := hG.2.2.2 k hk j hj hm
    exact k2 k g1 hs j g2 hm
/-- the rates that the house tells: of each axle, and 0 where no way leads -/
theorem key_rate {n : Nat} {ax te me : Nat → Int32} {ph : Nat → Int} {f0 : Int} {st : Nat} {bc : Nat → Option Nat} {v : Nat → Int64 × Int64} (hG : GE n ax te me) (hP : PO ax te me ph) (hS : SC ax me ph f0 (abR bc v)) (hz : v st = fZ) :
    ∃ ps : Nat → Int, (∀ a, a < 7 → Low (v (rtA st bc (nI a))) ∧ (v (rtA st bc (nI a))).1.toInt * f0 = (v (rtA st bc (nI a))).2.toInt * ps a ∧ (v (rtA st bc (nI a))).1.toInt.natAbs ≤ 10 ^ 12 ∧ (v (rtA st bc (nI a))).2.toInt ≤ 10 ^ 12) ∧ (∃ N : Int, 0 < N ∧ N ≤ 10 ^ 12 ∧ ∀ a, a < 7 → (v (rtA st bc (nI a))).2.toInt ∣ N) ∧ ∀ k, k < 12 → ∀ j, j < 32 → bt (me k) j = true → ps (aN ax j) * (te j).toInt = -(ps (aN ax k) * (te k).toInt) := by
  obtain ⟨h1, ⟨N, hN0, hN1, hN2⟩, h3⟩ := hS
  have z1 : fZ.1.toInt = 0 := by rw [fZ_eq]; decide
  have z2 : fZ.2.toInt = 1 := by rw [fZ_eq]; decide
  have ra : ∀ a, a < 7 → (∃ q, abR bc v a = some q ∧ v (rtA st bc (nI a)) = q) ∨ (abR bc v a = none ∧ v (rtA st bc (nI a)) = fZ) := by
    intro a ha
    have er : rtA st bc (nI a) = (bc a).getD st := by
      unfold rtA rinF
      rw [if_neg (nI_pos (by omega)), if_neg (nI_ge ha (by decide)), nI_clamp (by omega)]
    rw [er]
    unfold abR
    cases bc a with
    | none => exact Or.inr ⟨rfl, hz⟩
    | some x => exact Or.inl ⟨v x, rfl, rfl⟩
  refine ⟨fun a => if (abR bc v a).isSome = true then ph a else 0, fun a ha => ?_, ⟨N, hN0, hN1, fun a ha => ?_⟩, fun k hk j hj hm => ?_⟩
  · dsimp only
    rcases ra a ha with ⟨q, e1, e2⟩ | ⟨e1, e2⟩
    · rw [e2, e1, if_pos (show (some q).isSome = true from rfl)]
      exact (h1 a q e1).2
    · rw [e2, e1, if_neg (by decide), z1, z2]
      exact ⟨lowZ, by omega, by decide, by decide⟩
  · rcases ra a ha with ⟨q, e1, e2⟩ | ⟨e1, e2⟩
    · rw [e2]
      exact hN2 a q e1
    · rw [e2, z2]
      exact Int.one_dvd _
  · dsimp only
    obtain ⟨g1, g2, g3⟩ := hG.2.2.2 k hk j hj hm
    have hn := hG.1
    by_cases c : (abR bc v (aN ax k)).isSome = true
    · rw [if_pos c, if_pos (h3 k hk j hj hm c)]
      exact hP.2 k hk j hj hm
    · rw [if_neg c, if_neg (fun q => c (h3 j (by omega) k (by omega) g3 q))]
      omega
theorem jn1_bt (me : Nat → Int32) {w z : Nat} (hw : w < 12) (hz : z < 32) (k j : Nat) (hj : j < 32) : bt (jn1 me (nI w) (nI z) k) j = (bt (me k) j || (decide (k = w) && decide (j = z))) := by
  unfold jn1
  rw [put12 me w hw, at12 me w hw]
  by_cases e : k = w
  · rw [e, upd_self, bt_or, bt_one z hz j hj]
    simp
  · rw [upd_ne _ _ _ e]
    simp [e]
theorem jn_bt (me : Nat → Int32) {w z : Nat} (hw : w < 12) (hz : z < 12) (k j : Nat) (hj : j < 32) : bt (jnF me (nI w) (nI z) k) j = (bt (me k) j || (decide (k = w) && decide (j = z)) || (decide (k = z) && decide (j = w))) := by
  unfold jnF
  rw [jn1_bt _ hz (by omega) k j hj, jn1_bt _ hw (by omega) k j hj]
theorem se1_bt (me : Nat → Int32) {w z : Nat} (hw : w < 12) (hz : z < 32) (k j : Nat) (hj : j < 32) : bt (se1 me (nI w) (nI z) k) j = (bt (me k) j && !(decide (k = w) && decide (j = z))) := by
  unfold se1
  rw [put12 me w hw, at12 me w hw]
  by_cases e : k = w
  · rw [e, upd_self, bt_and, bt_not _ j hj, bt_one z hz j hj]
    simp
  · rw [upd_ne _ _ _ e]
    simp [e]
theorem se_bt (me : Nat → Int32) {w z : Nat} (hw : w < 12) (hz : z < 12) (k j : Nat) (hj : j < 32) : bt (seF me (nI w) (nI z) k) j = (bt (me k) j && !(decide (k = w) && decide (j = z)) && !(decide (k = z) && decide (j = w))) := by
  unfold seF
  rw [se1_bt _ hz (by omega) k j hj, se1_bt _ hw (by omega) k j hj]
theorem GE.join {n : Nat} {ax te me : Nat → Int32} (hG : GE n ax te me) {w z : Nat} (hw : w < n) (hz : z < n) : GE n ax te (jnF me (nI w) (nI z)) := by
  obtain ⟨hn, hA, hT, hM⟩ := hG
  refine ⟨hn, hA, hT, fun k hk j hj hm => ?_⟩
  rw [jn_bt me (by omega) (by omega) k j hj] at hm
  rw [jn_bt me (show w < 12 by omega) (show z < 12 by omega) j k (by omega)]
  simp only [Bool.or_eq_true, Bool.and_eq_true, decide_eq_true_eq] at hm ⊢
  rcases hm with (hm | ⟨rfl, rfl⟩) | ⟨rfl, rfl⟩
  · obtain ⟨g1, g2, g3⟩ := hM k hk j hj hm
    exact ⟨g1, g2, Or.inl (Or.inl g3)⟩
  · exact ⟨hw, hz, Or.inr ⟨rfl, rfl⟩⟩
  · exact ⟨hz, hw, Or.inl (Or.inr ⟨rfl, rfl⟩)⟩
theorem GE.part {n : Nat} {ax te me : Nat → Int32} (hG : GE n ax te me) {w z : Nat} (hw : w < n) (hz : z < n) : GE n ax te (seF me (nI w) (nI z)) := by
  obtain ⟨hn, hA, hT, hM⟩ := hG
  refine ⟨hn, hA, hT, fun k hk j hj hm => ?_⟩
  rw [se_bt me (by omega) (by omega) k j hj] at hm
  rw [se_bt me (show w < 12 by omega) (show z < 12 by omega) j k (by omega)]
  simp only [Bool.and_eq_true, Bool.not_eq_true', Bool.and_eq_false_imp, decide_eq_true_eq, decide_eq_false_iff_not] at hm ⊢
  obtain ⟨⟨m1, m2⟩, m3⟩ := hm
  obtain ⟨g1, g2, g3⟩ := hM k hk j hj m1
  exact ⟨g1, g2, ⟨g3, fun a b => m3 b a⟩, fun a b => m2 b a⟩
theorem PO.part {n : Nat} {ax te me : Nat → Int32} {ph : Nat → Int} (hP : PO ax te me ph) {w z : Nat} (hw : w < 12) (hz : z < 12) : PO ax te (seF me (nI w) (nI z)) ph := by
  refine ⟨hP.1, fun k hk j hj hm => hP.2 k hk j hj ?_⟩
  rw [se_bt me hw hz k j hj] at hm
  simp only [Bool.and_eq_true] at hm
  exact hm.1.1
theorem PO.old {ax te me : Nat → Int32} {ph : Nat → Int} (hP : PO ax te me ph) {w z : Nat} (hw : w < 12) (hz : z < 12) (h : ph (aN ax z) * (te z).toInt = -(ph (aN ax w) * (te w).toInt)) : PO ax te (jnF me (nI w) (nI z)) ph := by
  refine ⟨hP.1, fun k hk j hj hm => ?_⟩
  rw [jn_bt me hw hz k j hj] at hm
  simp only [Bool.or_eq_true, Bool.and_eq_true, decide_eq_true_eq] at hm
  rcases hm with (hm | ⟨rfl, rfl⟩) | ⟨rfl, rfl⟩
  · exact hP.2 k hk j hj hm
  · exact h
  · omega
/-- a mesh that does not jam: some potential goes with it too -/
theorem PO.join {n : Nat} {ax te me : Nat → Int32} {ph : Nat → Int} (hG : GE n ax te me) (hP : PO ax te me ph) {w z : Nat} (hw : w < n) (hz : z < n) (hj : wjF ax te me n fW (nI w) (nI z) = 0) : ∃ ph1, PO ax te (jnF me (nI w) (nI z)) ph1 := by
  have hn := hG.1
  have hw7 := hG.2.1 w hw
  have hz7 := hG.2.1 z hz
  obtain ⟨⟨s1, -, s3⟩, s4⟩ := spr_ok hG hP hw7.1
  have tw := hG.2.2.1 w hw
  have tz := hG.2.2.1 z hz
  unfold wjF at hj
  rw [rin_at (by omega) hz7, at12 ax w (by omega), hw7.2] at hj
  cases hr : sprF ax te me n (nI (aN ax w)) fW (aN ax z) with
  | some p =>
    rw [hr] at hj
    refine ⟨ph, hP.old (by omega) (by omega) ?_⟩
    obtain ⟨-, pL, pr, -, -⟩ := s1 _ p hr
    dsimp only [Option.elim] at hj
    by_cases c : p.1 = frU (-atF 12 te (nI w)).toInt64 (atF 12 te (nI z)).toInt64 ∧ p.2 = frL (-atF 12 te (nI w)).toInt64 (atF 12 te (nI z)).toInt64
    · obtain ⟨c1, c2⟩ := c
      rw [at12 te w (by omega), at12 te z (by omega)] at c1 c2
      have ea : (-te w).toInt64.toInt = -(te w).toInt := by
        rw [Int32.toInt_toInt64, Int32.toInt_neg, Int.bmod_eq_of_le (by omega) (by omega)]
      have eb : (te z).toInt64.toInt = (te z).toInt := Int32.toInt_toInt64 _
      have f2 := (fr_low (-te w).toInt64 (te z).toInt64 (by omega) (by omega)).2.1
      rw [← c1, ← c2, ea, eb] at f2
      have e1 : p.2.toInt * (ph (aN ax z) * (te z).toInt) = p.2.toInt * -(ph (aN ax w) * (te w).toInt) := by
        have a1 : p.2.toInt * (ph (aN ax z) * (te z).toInt) = p.2.toInt * ph (aN ax z) * (te z).toInt := (Int.mul_assoc ..).symm
        rw [a1, ← pr]
        have a2 : p.1.toInt * ph (aN ax w) * (te z).toInt = p.1.toInt * (te z).toInt * ph (aN ax w) := by ac_rfl
        rw [a2, f2, Int.neg_mul, Int.neg_mul, Int.mul_neg]
        exact congrArg Neg.neg (by ac_rfl)
      exact Int.eq_of_mul_eq_mul_left (Int.ne_of_gt pL.1) e1
    · rw [if_neg c] at hj
      exact absurd hj (by decide)
  | none =>
    generalize hrr : sprF ax te me n (nI (aN ax w)) fW = rr at *
    have n1 : ph (aN ax z) * (te z).toInt ≠ 0 := Int.mul_ne_zero (hP.1 _) (by omega)
    have n2 : -(ph (aN ax w) * (te w).toInt) ≠ 0 := Int.neg_ne_zero.mpr (Int.mul_ne_zero (hP.1 _) (by omega))
    have hsc : PO ax te me (fun a => if (rr a).isSome = true then ph a * (ph (aN ax z) * (te z).toInt) else ph a * -(ph (aN ax w) * (te w).toInt)) := by
      refine ⟨fun a => ?_, fun k hk j hj hm => ?_⟩
      · dsimp only
        split
        · exact Int.mul_ne_zero (hP.1 _) n1
        · exact Int.mul_ne_zero (hP.1 _) n2
      · dsimp only
        obtain ⟨g1, g2, g3⟩ := hG.2.2.2 k hk j hj hm
        have hr0 := hP.2 k hk j hj hm
        have sc : ∀ X : Int, ph (aN ax j) * X * (te j).toInt = -(ph (aN ax k) * X * (te k).toInt) := by
          intro X
          have a1 : ph (aN ax j) * X * (te j).toInt = ph (aN ax j) * (te j).toInt * X := by ac_rfl
          have a2 : ph (aN ax k) * X * (te k).toInt = ph (aN ax k) * (te k).toInt * X := by ac_rfl
          rw [a1, a2, hr0, Int.neg_mul]
        by_cases c : (rr (aN ax k)).isSome = true
        · rw [if_pos c, if_pos (s3 k hk j hj hm c)]
          exact sc _
        · rw [if_neg c, if_neg (fun q => c (s3 j (by omega) k (by omega) g3 q))]
          exact sc _
    refine ⟨_, hsc.old (by omega) (by omega) ?_⟩
    rw [s4, hr, if_pos (show (some fW).isSome = true from rfl), if_neg (by decide)]
    rw [Int.mul_neg, Int.neg_mul]
    exact congrArg Neg.neg (by ac_rfl)
