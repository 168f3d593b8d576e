/-! a claim more; the law's draws -/
theorem bt_shrj (s : Int32) (k j : Nat) (hk : k < 32) (h : k + j < 32) : bt (s >>> (nI k &&& 31)) j = bt s (k + j) := by
  unfold bt
  rw [m31 k hk, Int32.toBitVec_shiftRight, BitVec.sshiftRight', sm32 k hk, BitVec.getLsbD_sshiftRight]
  simp [h]
  omega
theorem put12 (f : Nat → Int32) (k : Nat) (hk : k < 12) (x : Int32) : putF 12 f (nI k) x = upd f k x := by
  unfold putF
  rw [if_neg (nI_pos (n := k) (by omega)), if_neg (nI_ge (a := k) (b := 12) hk (by decide)), nI_clamp (by omega)]
theorem upd_self (f : Nat → Int32) (k : Nat) (x : Int32) : upd f k x k = x := by simp [upd]
theorem upd_ne (f : Nat → Int32) (k : Nat) (x : Int32) {j : Nat} (h : ¬ j = k) : upd f k x j = f j := by simp [upd, h]
theorem Cb.add {n : Nat} {nr : Nat → Int32} {i : Int32} (h : Cb n nr) (hn : n < 12) (hi : i >>> (nI n &&& 31) = 0) : Cb (n + 1) (putF 12 nr (nI n) i) := by
  intro k hk j hj hb
  rw [put12 nr n hn i] at hb
  by_cases e : k = n
  · rw [e, upd_self] at hb
    rw [e]
    refine Nat.lt_of_not_le fun hq => ?_
    have h1 := bt_shrj i n (j - n) (by omega) (by omega)
    rw [hi, bt_zero, show n + (j - n) = j by omega, hb] at h1
    exact absurd h1 (by decide)
  · rw [upd_ne _ _ _ e] at hb
    exact h k (by omega) j hj hb
theorem Cb.zero (nr : Nat → Int32) : Cb 0 nr := fun k hk => absurd hk (Nat.not_lt_zero _)
/-- a draw is never negative -/
theorem draw0 (x : Int32) : 0 ≤ (x &&& 2147483647).toInt := by
  have hm : (x &&& 2147483647).toBitVec.msb = false := by
    rw [Int32.toBitVec_and, BitVec.msb_and, show (2147483647 : Int32).toBitVec.msb = false from by decide, Bool.and_false]
  rw [← Int32.toInt_toBitVec, BitVec.toInt_eq_toNat_of_msb hm]
  exact Int.natCast_nonneg _
theorem draw30 (y : Int32) (h0 : 0 ≤ y.toInt) : (y - y / 30 * 30).toInt = y.toInt % 30 := by
  have e30 : (30 : Int32).toInt = 30 := by decide
  have hlt := Int32.toInt_lt y
  have hd : (y / 30).toInt = y.toInt / 30 := by
    rw [Int32.toInt_div_of_ne_right _ _ (by decide), e30, Int.tdiv_eq_ediv_of_nonneg h0]
  have h1 : (y / 30 * 30).toInt = y.toInt / 30 * 30 := by
    rw [Int32.toInt_mul, hd, e30, Int.bmod_eq_of_le (by omega) (by omega)]
  rw [Int32.toInt_sub, h1, Int.bmod_eq_of_le (by omega) (by omega)]
  omega
theorem bw34 (x : Int32) : ¬ withinF ((4 : Int32) + beF x 30) 4 100 = 0 := by
  have h0 := draw0 x
  have h1 : (beF x 30).toInt = (x &&& 2147483647).toInt % 30 := draw30 _ h0
  have h2 : ((4 : Int32) + beF x 30).toInt = 4 + (x &&& 2147483647).toInt % 30 := by
    rw [Int32.toInt_add, h1, show (4 : Int32).toInt = 4 from by decide, Int.bmod_eq_of_le (by omega) (by omega)]
  have a1 : ¬ (4 : Int32) + beF x 30 < 4 := by
    rw [Int32.lt_iff_toInt_lt, h2, show (4 : Int32).toInt = 4 from by decide]
    omega
  have a2 : ¬ (100 : Int32) < (4 : Int32) + beF x 30 := by
    rw [Int32.lt_iff_toInt_lt, h2, show (100 : Int32).toInt = 100 from by decide]
    omega
  unfold withinF
  rw [if_neg a1, if_neg a2]
  decide
