/-! sets of numbers below 32 in an int, and the law's small numbers -/
def bt (x : Int32) (k : Nat) : Bool := x.toBitVec.getLsbD k
theorem and1 (y : Int32) : (y &&& 1 = 1) ↔ bt y 0 = true := by
  unfold bt
  have h := BitVec.and_one_eq_setWidth_ofBool_getLsbD (x := y.toBitVec)
  rw [← Int32.toBitVec_inj, Int32.toBitVec_and, show (1 : Int32).toBitVec = 1#32 from rfl, h]
  cases y.toBitVec.getLsbD 0 <;> decide
theorem m31 : ∀ k, k < 32 → nI k &&& 31 = nI k := by decide +kernel
theorem sm32 : ∀ k, k < 32 → ((nI k).toBitVec.smod 32).toNat = k := by decide +kernel
theorem bt_shr (s : Int32) (k : Nat) (hk : k < 32) : bt (s >>> (nI k &&& 31)) 0 = bt s k := by
  unfold bt
  rw [m31 k hk, Int32.toBitVec_shiftRight, BitVec.sshiftRight', sm32 k hk, BitVec.getLsbD_sshiftRight]
  simp [hk]
theorem isIn_bt (s : Int32) (k : Nat) (hk : k < 32) : isInF s (nI k) = if bt s k = true then 1 else 0 := by
  unfold isInF
  by_cases h : bt s k = true
  · rw [if_pos ((and1 _).mpr ((bt_shr s k hk).trans h)), if_pos h]
  · rw [if_neg (fun q => h ((bt_shr s k hk).symm.trans ((and1 _).mp q))), if_neg h]
theorem isIn0 {s : Int32} {k : Nat} (hk : k < 32) : isInF s (nI k) = 0 ↔ bt s k = false := by
  rw [isIn_bt s k hk]
  cases bt s k <;> decide
theorem bt_and (a b : Int32) (k : Nat) : bt (a &&& b) k = (bt a k && bt b k) := by
  unfold bt
  rw [Int32.toBitVec_and, BitVec.getLsbD_and]
theorem bt_or (a b : Int32) (k : Nat) : bt (a ||| b) k = (bt a k || bt b k) := by
  unfold bt
  rw [Int32.toBitVec_or, BitVec.getLsbD_or]
theorem bt_not (a : Int32) (k : Nat) (hk : k < 32) : bt (a ^^^ (-1)) k = !bt a k := by
  unfold bt
  rw [Int32.toBitVec_xor, BitVec.getLsbD_xor, show (-1 : Int32).toBitVec = BitVec.allOnes 32 from by decide, BitVec.getLsbD_allOnes]
  simp [hk]
theorem bt_one : ∀ k, k < 32 → ∀ j, j < 32 → bt ((1 : Int32) <<< (nI k &&& 31)) j = decide (j = k) := by decide +kernel
theorem bt_zero (k : Nat) : bt 0 k = false := by
  unfold bt
  rw [show (0 : Int32).toBitVec = 0#32 from rfl, BitVec.getLsbD_zero]
theorem bt_ext {a b : Int32} (h : ∀ k, k < 32 → bt a k = bt b k) : a = b := by
  apply Int32.toBitVec_inj.mp
  exact BitVec.eq_of_getLsbD_eq (fun i hi => h i hi)
theorem bt_and0 {a b : Int32} : a &&& b = 0 ↔ ∀ k, k < 32 → bt a k = true → bt b k = false := by
  constructor
  · intro h k hk ha
    have h1 := bt_and a b k
    rw [h, bt_zero, ha] at h1
    simpa using h1.symm
  · intro h
    refine bt_ext (fun k hk => ?_)
    rw [bt_and, bt_zero]
    cases h1 : bt a k with
    | false => rfl
    | true => rw [h k hk h1]; rfl
