/-! what the law keeps -/
/-- with those on which they hang in turn -/
def NFo (cn : Nat) (nr nf : Nat → Int32) : Prop := ∀ k, k < cn → ∀ j, j < 32 → (bt (nf k) j = true ↔ bt (nr k) j = true ∨ ∃ i, i < k ∧ bt (nr k) i = true ∧ bt (nf i) j = true)
theorem ac_bt (on : Int32) (nf : Nat → Int32) (j : Nat) : ∀ k, k ≤ 12 → (bt (acL on nf k) j = true ↔ bt on j = true ∨ ∃ i, i < k ∧ bt on i = true ∧ bt (nf i) j = true) := by
  intro k
  induction k with
  | zero =>
    intro _
    rw [acL]
    exact ⟨Or.inl, fun h => h.elim id (fun ⟨i, hi, _⟩ => absurd hi (Nat.not_lt_zero _))⟩
  | succ k ih =>
    intro hk
    have ih := ih (by omega)
    rw [acL]
    by_cases c : isInF on (nI k) = 0
    · rw [if_pos c, ih]
      have hf := (isIn0 (by omega)).mp c
      refine or_congr Iff.rfl ⟨fun ⟨i, hi, h1, h2⟩ => ⟨i, by omega, h1, h2⟩, fun ⟨i, hi, h1, h2⟩ => ⟨i, ?_, h1, h2⟩⟩
      refine Nat.lt_of_le_of_ne (by omega) (fun e => ?_)
      rw [e, hf] at h1
      cases h1
    · rw [if_neg c, bt_or, at12 nf k (by omega), Bool.or_eq_true, ih]
      have hf : bt on k = true := by
        cases q : bt on k with
        | true => rfl
        | false => exact absurd ((isIn0 (by omega)).mpr q) c
      constructor
      · rintro ((h | ⟨i, hi, h1, h2⟩) | h)
        · exact Or.inl h
        · exact Or.inr ⟨i, by omega, h1, h2⟩
        · exact Or.inr ⟨k, by omega, hf, h⟩
      · rintro (h | ⟨i, hi, h1, h2⟩)
        · exact Or.inl (Or.inl h)
        · by_cases e : i = k
          · rw [e] at h2
            exact Or.inr h2
          · exact Or.inl (Or.inr ⟨i, by omega, h1, h2⟩)
theorem NFo.zero (nr nf : Nat → Int32) : NFo 0 nr nf := fun k hk => absurd hk (Nat.not_lt_zero _)
theorem NFo.add {cn : Nat} {nr nf : Nat → Int32} {i : Int32} (h : NFo cn nr nf) (hn : cn < 12) : NFo (cn + 1) (putF 12 nr (nI cn) i) (putF 12 nf (nI cn) (acL i nf cn)) := by
  rw [put12 nr cn hn, put12 nf cn hn]
  have hl : ∀ k, k < cn + 1 → ∀ z j, ((∃ x, x < k ∧ bt z x = true ∧ bt (upd nf cn (acL i nf cn) x) j = true) ↔ ∃ x, x < k ∧ bt z x = true ∧ bt (nf x) j = true) := by
    intro k hk z j
    constructor
    · rintro ⟨x, h1, h2, h3⟩
      rw [upd_ne _ _ _ (show ¬ x = cn by omega)] at h3
      exact ⟨x, h1, h2, h3⟩
    · rintro ⟨x, h1, h2, h3⟩
      refine ⟨x, h1, h2, ?_⟩
      rw [upd_ne _ _ _ (show ¬ x = cn by omega)]
      exact h3
  intro k hk j hj
  rw [hl k hk]
  by_cases e : k = cn
  · rw [e, upd_self, upd_self]
    exact ac_bt i nf j cn (by omega)
  · rw [upd_ne _ _ _ e, upd_ne _ _ _ e]
    exact h k (by omega) j hj
/-- what stands, and what is near or far of what is taken back: two ways to one answer -/
theorem st_nf {nr nf : Nat → Int32} {wd : Int32} {cn : Nat} (hn : cn ≤ 12) (hc : Cb cn nr) (hf : NFo cn nr nf) : ∀ m k, k < m → k < cn → (bt (stL nr wd cn) k = true ↔ bt wd k = false ∧ ∀ j, j < 32 → bt (nf k) j = true → bt wd j = false) := by
  intro m
  induction m with
  | zero => intro k h; omega
  | succ m ih =>
    intro k hk hkn
    rw [st_all hn hc k hkn]
    refine and_congr Iff.rfl ⟨fun h j hj hb => ?_, fun h i hi hb => ?_⟩
    · rcases (hf k hkn j hj).mp hb with q | ⟨i, hi, q1, q2⟩
      · have hjk := hc k hkn j hj q
        exact ((ih j (by omega) (by omega)).mp (h j hjk q)).1
      · exact ((ih i (by omega) (by omega)).mp (h i hi q1)).2 j hj q2
    · rw [ih i (by omega) (by omega)]
      exact ⟨h i (by omega) ((hf k hkn i (by omega)).mpr (Or.inl hb)), fun j hj q => h j hj ((hf k hkn j hj).mpr (Or.inr ⟨i, hi, hb, q⟩))⟩
theorem acn_one {nr nf : Nat → Int32} {wd : Int32} {cn : Nat} (hn : cn ≤ 12) (hc : Cb cn nr) (hf : NFo cn nr nf) : ∀ r k, k + r = cn → acnL (stL nr wd cn) wd nf r k = 1 := by
  intro r
  induction r with
  | zero => intro k _; rfl
  | succ r ih =>
    intro k hk
    rw [acnL, if_pos ?_]
    · exact ih (k + 1) (by omega)
    · rw [isIn_bt _ k (by omega), at12 nf k (by omega)]
      have hs := st_nf (wd := wd) hn hc hf (k + 1) k (by omega) (by omega)
      have he : ((nf k ||| 1 <<< (nI k &&& 31)) &&& wd = 0) ↔ bt (stL nr wd cn) k = true := by
        rw [hs, bt_and0]
        constructor
        · intro h
          refine ⟨h k (by omega) ?_, fun j hj hb => h j hj ?_⟩
          · rw [bt_or, bt_one k (by omega) k (by omega)]
            simp
          · rw [bt_or, hb]
            rfl
        · rintro ⟨h1, h2⟩ j hj hb
          rw [bt_or, bt_one k (by omega) j hj, Bool.or_eq_true] at hb
          rcases hb with q | q
          · exact h2 j hj q
          · rw [of_decide_eq_true q]
            exact h1
      by_cases q : bt (stL nr wd cn) k = true
      · rw [if_pos q, if_pos (he.mpr q)]
      · rw [if_neg q, if_neg (fun z => q (he.mp z))]
theorem ipr_one (p : Int64) (st : Nat) (bc : Nat → Option Nat) (v : Nat → Int64 × Int64) (hp : 0 < p.toInt) (h : ∀ k, k < 7 → 0 < (v (rtA st bc (nI k))).2.toInt ∧ (v (rtA st bc (nI k))).2.toInt ∣ p.toInt) : ∀ r k, k + r = 7 → iprL p st bc v r k = 1 := by
  have z : (0 : Int64).toInt = 0 := rfl
  have hle : ∀ x : Int64, 0 < x.toInt → ¬ x ≤ 0 := fun x hx q => by
    have := Int64.le_iff_toInt_le.mp q
    rw [z] at this
    omega
  intro r
  induction r with
  | zero =>
    intro k _
    rw [iprL, if_neg (hle p hp)]
  | succ r ih =>
    intro k hk
    obtain ⟨h1, h2⟩ := h k (by omega)
    rw [iprL, if_neg (hle _ h1), if_pos ((rem0 _ _ (by omega) h1).mpr h2)]
    exact ih (k + 1) (by omega)
/-- what has passed of a wheel -/
theorem pa_low (q : Int64 × Int64) (tu te : Int32) (hq : Low q) (h1 : q.1.toInt.natAbs ≤ 10 ^ 12) (h2 : q.2.toInt ≤ 10 ^ 12) (t0 : -9999 ≤ tu.toInt) (t1 : tu.toInt ≤ 9999) (e0 : 4 ≤ te.toInt) (e1 : te.toInt ≤ 100) : Low (paF q tu te) ∧ (paF q tu te).1.toInt * q.2.toInt = q.1.toInt * (tu.toInt * te.toInt) * (paF q tu te).2.toInt ∧ (paF q tu te).1.toInt.natAbs ≤ 10 ^ 18 := by
  have m0 : (tu.toInt * te.toInt).natAbs ≤ 9999 * 100 := by
    rw [Int.natAbs_mul]
    exact Nat.mul_le_mul (by omega) (by omega)
  have g0 : (tu.toInt64 * te.toInt64).toInt = tu.toInt * te.toInt := by
    rw [Int64.toInt_mul, Int32.toInt_toInt64, Int32.toInt_toInt64, Int.bmod_eq_of_le (by omega) (by omega)]
  have m1 : (q.1.toInt * (tu.toInt * te.toInt)).natAbs ≤ 10 ^ 12 * (9999 * 100) := by
    rw [Int.natAbs_mul]
    exact Nat.mul_le_mul h1 m0
  have g1 : (q.1 * (tu.toInt64 * te.toInt64)).toInt = q.1.toInt * (tu.toInt * te.toInt) := by
    rw [Int64.toInt_mul, g0, Int.bmod_eq_of_le (by omega) (by omega)]
  have g2 : q.2 * 1 = q.2 := Int64.mul_one _
  have hl := hq.1
  obtain ⟨f1, f2, -, f4⟩ := fr_low (q.1 * (tu.toInt64 * te.toInt64)) (q.2 * 1) (by rw [g1]; omega) (by rw [g2]; exact hl)
  rw [g1] at f2 f4
  refine ⟨f1, ?_, ?_⟩
  · rw [g2] at f2
    show (frU (q.1 * (tu.toInt64 * te.toInt64)) (q.2 * 1)).toInt * _ = _ * (frL (q.1 * (tu.toInt64 * te.toInt64)) (q.2 * 1)).toInt
    rw [g2]
    exact f2
  · show (frU (q.1 * (tu.toInt64 * te.toInt64)) (q.2 * 1)).toInt.natAbs ≤ _
    omega
theorem pa_pot {q P : Int64 × Int64} {f0 x tt : Int} (hq : Low q) (hr : q.1.toInt * f0 = q.2.toInt * x) (h : P.1.toInt * q.2.toInt = q.1.toInt * tt * P.2.toInt) : P.1.toInt * f0 = P.2.toInt * (x * tt) := by
  have hne : q.2.toInt ≠ 0 := Int.ne_of_gt hq.1
  apply Int.eq_of_mul_eq_mul_right hne
  have a1 : P.1.toInt * f0 * q.2.toInt = P.1.toInt * q.2.toInt * f0 := by ac_rfl
  have a2 : q.1.toInt * tt * P.2.toInt * f0 = q.1.toInt * f0 * (tt * P.2.toInt) := by ac_rfl
  rw [a1, h, a2, hr]
  ac_rfl
theorem pa_opp {q q1 : Int64 × Int64} {tu te te1 : Int32} {f0 x x1 : Int} (hf : f0 ≠ 0) (hq : Low q) (h1 : q.1.toInt.natAbs ≤ 10 ^ 12) (h2 : q.2.toInt ≤ 10 ^ 12) (hq1 : Low q1) (k1 : q1.1.toInt.natAbs ≤ 10 ^ 12) (k2 : q1.2.toInt ≤ 10 ^ 12) (t0 : -9999 ≤ tu.toInt) (t1 : tu.toInt ≤ 9999) (e0 : 4 ≤ te.toInt) (e1 : te.toInt ≤ 100) (d0 : 4 ≤ te1.toInt) (d1 : te1.toInt ≤ 100)
    (hr : q.1.toInt * f0 = q.2.toInt * x) (hr1 : q1.1.toInt * f0 = q1.2.toInt * x1) (hx : x1 * te1.toInt = -(x * te.toInt)) : (paF q tu te).1 = -(paF q1 tu te1).1 ∧ (paF q tu te).2 = (paF q1 tu te1).2 := by
  obtain ⟨a1, a2, a3⟩ := pa_low q tu te hq h1 h2 t0 t1 e0 e1
  obtain ⟨b1, b2, b3⟩ := pa_low q1 tu te1 hq1 k1 k2 t0 t1 d0 d1
  have p1 := pa_pot hq hr a2
  have p2 := pa_pot hq1 hr1 b2
  generalize paF q tu te = P at *
  generalize paF q1 tu te1 = R at *
  have hn : (-R.1).toInt = -R.1.toInt := by
    rw [Int64.toInt_neg, Int.bmod_eq_of_le (by omega) (by omega)]
  have hX : x1 * (tu.toInt * te1.toInt) = -(x * (tu.toInt * te.toInt)) := by
    have c1 : x1 * (tu.toInt * te1.toInt) = x1 * te1.toInt * tu.toInt := by ac_rfl
    rw [c1, hx, Int.neg_mul]
    exact congrArg Neg.neg (by ac_rfl)
  rw [hX] at p2
  have hL : Low (-R.1, R.2) := ⟨b1.1, by
    show Int.gcd (-R.1).toInt R.2.toInt = 1
    rw [hn, Int.neg_gcd]
    exact b1.2⟩
  have hcr : P.1.toInt * R.2.toInt = (-R.1).toInt * P.2.toInt := by
    rw [hn]
    apply Int.eq_of_mul_eq_mul_right hf
    have c1 : P.1.toInt * R.2.toInt * f0 = P.1.toInt * f0 * R.2.toInt := by ac_rfl
    have c2 : -R.1.toInt * P.2.toInt * f0 = -(R.1.toInt * f0 * P.2.toInt) := by
      rw [Int.neg_mul, Int.neg_mul]
      exact congrArg Neg.neg (by ac_rfl)
    rw [c1, c2, p1, p2, Int.mul_neg, Int.neg_mul, Int.neg_neg]
    ac_rfl
  have he := Low.eq a1 hL hcr
  rw [he]
  exact ⟨rfl, rfl⟩
/-- rates of two in mesh, crosswise -/
theorem ra_cross {q q1 : Int64 × Int64} {te te1 : Int32} {f0 x x1 : Int} (hf : f0 ≠ 0) (hr : q.1.toInt * f0 = q.2.toInt * x) (hr1 : q1.1.toInt * f0 = q1.2.toInt * x1) (hx : x1 * te1.toInt = -(x * te.toInt)) : q.1 * te.toInt64 * q1.2 = -q1.1 * te1.toInt64 * q.2 := by
  have hi : q.1.toInt * te.toInt * q1.2.toInt = -q1.1.toInt * te1.toInt * q.2.toInt := by
    apply Int.eq_of_mul_eq_mul_right hf
    have c1 : q.1.toInt * te.toInt * q1.2.toInt * f0 = q.1.toInt * f0 * (te.toInt * q1.2.toInt) := by ac_rfl
    have c2 : -q1.1.toInt * te1.toInt * q.2.toInt * f0 = -(q1.1.toInt * f0 * (te1.toInt * q.2.toInt)) := by
      rw [Int.neg_mul, Int.neg_mul, Int.neg_mul]
      exact congrArg Neg.neg (by ac_rfl)
    have c3 : q1.2.toInt * x1 * (te1.toInt * q.2.toInt) = x1 * te1.toInt * (q1.2.toInt * q.2.toInt) := by ac_rfl
    rw [c1, c2, hr, hr1, c3, hx, Int.neg_mul, Int.neg_neg]
    ac_rfl
  have z : ∀ y : Int64, y = Int64.ofInt y.toInt := fun y => (Int64.ofInt_toInt y).symm
  have ht : te.toInt64 = Int64.ofInt te.toInt := by rw [z te.toInt64, Int32.toInt_toInt64]
  have ht1 : te1.toInt64 = Int64.ofInt te1.toInt := by rw [z te1.toInt64, Int32.toInt_toInt64]
  rw [ht, ht1, z q.1, z q.2, z q1.1, z q1.2, ← Int64.ofInt_mul, ← Int64.ofInt_mul, ← Int64.ofInt_neg, ← Int64.ofInt_mul, ← Int64.ofInt_mul, hi]
