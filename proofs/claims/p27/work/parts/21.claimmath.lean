/-! claims: what stands, and what hangs -/
theorem at12 (f : Nat → Int32) (k : Nat) (hk : k < 12) : atF 12 f (nI k) = f k := by
  unfold atF
  rw [if_neg (nI_pos (n := k) (by omega)), if_neg (nI_ge (a := k) (b := 12) hk (by decide)), nI_clamp (by omega)]
theorem st_step (nr : Nat → Int32) (wd : Int32) (k : Nat) (hk : k < 12) (j : Nat) (hj : j < 32) : bt (stL nr wd (k + 1)) j = (bt (stL nr wd k) j || (decide (j = k) && (!bt wd k && decide (nr k &&& (stL nr wd k ^^^ (-1)) = 0)))) := by
  rw [stL, at12 nr k hk]
  by_cases h : isInF wd (nI k) = 0
  · rw [if_pos h]
    have hw := (isIn0 (by omega)).mp h
    by_cases h2 : nr k &&& (stL nr wd k ^^^ (-1)) = 0
    · rw [if_pos h2, bt_or, bt_one k (by omega) j hj, hw, decide_eq_true h2]
      simp
    · rw [if_neg h2, decide_eq_false h2]
      simp
  · rw [if_neg h]
    have hw : bt wd k = true := by
      cases q : bt wd k with
      | true => rfl
      | false => exact absurd ((isIn0 (by omega)).mpr q) h
    simp [hw]
theorem st_hi (nr : Nat → Int32) (wd : Int32) : ∀ k, k ≤ 12 → ∀ j, k ≤ j → j < 32 → bt (stL nr wd k) j = false := by
  intro k
  induction k with
  | zero => intro _ j _ _; exact bt_zero j
  | succ k ih =>
    intro hk j hkj hj
    rw [st_step nr wd k (by omega) j hj, ih (by omega) j (by omega) hj]
    simp [show ¬ j = k by omega]
theorem st_keep (nr : Nat → Int32) (wd : Int32) (k : Nat) : ∀ n, k < n → n ≤ 12 → bt (stL nr wd n) k = bt (stL nr wd (k + 1)) k := by
  intro n
  induction n with
  | zero => intro h; omega
  | succ n ih =>
    intro h hn
    by_cases e : n = k
    · rw [e]
    · rw [st_step nr wd n (by omega) k (by omega), ih (by omega) (by omega)]
      simp [show ¬ k = n by omega]
theorem st_at (nr : Nat → Int32) (wd : Int32) (k : Nat) (hk : k < 12) : bt (stL nr wd (k + 1)) k = true ↔ bt wd k = false ∧ ∀ i, i < 32 → bt (nr k) i = true → bt (stL nr wd k) i = true := by
  rw [st_step nr wd k hk k (by omega), st_hi nr wd k (by omega) k (Nat.le_refl _) (by omega)]
  simp only [Bool.false_or, decide_true, Bool.true_and, Bool.and_eq_true, Bool.not_eq_true', decide_eq_true_eq]
  refine and_congr Iff.rfl ?_
  rw [bt_and0]
  constructor
  · intro h i hi hb
    have h1 := h i hi hb
    rw [bt_not _ i hi] at h1
    simpa using h1
  · intro h i hi hb
    rw [bt_not _ i hi, h i hi hb]
    rfl
/-- what a claim hangs on lies before it -/
def Cb (n : Nat) (nr : Nat → Int32) : Prop := ∀ k, k < n → ∀ i, i < 32 → bt (nr k) i = true → i < k
theorem st_all {nr : Nat → Int32} {wd : Int32} {n : Nat} (hn : n ≤ 12) (hc : Cb n nr) (k : Nat) (hk : k < n) : bt (stL nr wd n) k = true ↔ bt wd k = false ∧ ∀ i, i < k → bt (nr k) i = true → bt (stL nr wd n) i = true := by
  rw [st_keep nr wd k n hk hn, st_at nr wd k (by omega)]
  refine and_congr Iff.rfl ⟨fun h i hi hb => ?_, fun h i hi hb => ?_⟩
  · rw [st_keep nr wd i n (by omega) hn, ← st_keep nr wd i k hi (by omega)]
    exact h i (by omega) hb
  · have hik := hc k hk i hi hb
    rw [st_keep nr wd i k hik (by omega), ← st_keep nr wd i n (by omega) hn]
    exact h i hik hb
theorem hgL_iff (b : Int32) (F : Nat → Int32) : ∀ k, k ≤ 12 → (hgL b F k = 0 ∨ hgL b F k = 1) ∧ (hgL b F k = 0 ↔ ∀ j, j < k → bt b j = true → F j = 0) := by
  intro k
  induction k with
  | zero => intro _; exact ⟨Or.inl rfl, fun _ j hj => absurd hj (Nat.not_lt_zero _), fun _ => rfl⟩
  | succ k ih =>
    intro hk
    obtain ⟨i1, i2⟩ := ih (by omega)
    rw [hgL]
    by_cases h1 : hgL b F k = 1
    · rw [if_pos h1]
      refine ⟨Or.inr rfl, fun q => absurd q (by decide), fun q => ?_⟩
      have : hgL b F k = 0 := i2.mpr (fun j hj hb => q j (by omega) hb)
      rw [this] at h1
      exact absurd h1 (by decide)
    · rw [if_neg h1]
      have h0 : hgL b F k = 0 := i1.resolve_right h1
      have hb' : (b >>> (nI k &&& 31) &&& 1 = 1) ↔ bt b k = true := (and1 _).trans (by rw [bt_shr b k (by omega)])
      by_cases h2 : b >>> (nI k &&& 31) &&& 1 = 1
      · rw [if_pos h2]
        by_cases h3 : F k = 0
        · rw [if_pos h3]
          refine ⟨Or.inl rfl, fun _ j hj hb => ?_, fun _ => rfl⟩
          by_cases e : j = k
          · rw [e]; exact h3
          · exact i2.mp h0 j (by omega) hb
        · rw [if_neg h3]
          exact ⟨Or.inr rfl, fun q => absurd q (by decide), fun q => absurd (q k (by omega) (hb'.mp h2)) h3⟩
      · rw [if_neg h2]
        refine ⟨Or.inl rfl, fun _ j hj hb => ?_, fun _ => rfl⟩
        by_cases e : j = k
        · rw [e] at hb; exact absurd (hb'.mpr hb) h2
        · exact i2.mp h0 j (by omega) hb
theorem hg_st {nr : Nat → Int32} {wd : Int32} {n : Nat} (hn : n ≤ 12) (hc : Cb n nr) : ∀ d k, k < d → k < n → (hgF n wd nr d k = 0 ↔ bt (stL nr wd n) k = true) := by
  intro d
  induction d with
  | zero => intro k h; omega
  | succ d ih =>
    intro k hkd hk
    have o1 : ocF n wd nr (nI k) 1 = 1 ↔ bt wd k = true := by
      have e : ocF n wd nr (nI k) 1 = if isInF wd (nI k) = 0 then 0 else 1 := by simp [ocF]
      rw [e, isIn_bt wd k (by omega)]
      cases bt wd k <;> decide
    have o0 : ocF n wd nr (nI k) 0 = nr k := by
      have e : ocF n wd nr (nI k) 0 = atF 12 nr (nI k) := by simp [ocF]
      rw [e, at12 nr k (by omega)]
    rw [hgF, o0, st_all hn hc k hk]
    by_cases h : ocF n wd nr (nI k) 1 = 1
    · rw [if_pos h]
      refine ⟨fun q => absurd q (by decide), fun q => ?_⟩
      rw [o1.mp h] at q
      exact absurd q.1 (by decide)
    · rw [if_neg h, (hgL_iff (nr k) (hgF n wd nr d) k (by omega)).2]
      have hw : bt wd k = false := by
        cases q : bt wd k with
        | false => rfl
        | true => exact absurd (o1.mpr q) h
      refine ⟨fun q => ⟨hw, fun i hi hb => (ih i (by omega) (by omega)).mp (q i hi hb)⟩, fun q i hi hb => (ih i (by omega) (by omega)).mpr (q.2 i hi hb)⟩
theorem cl_law {nr : Nat → Int32} {wd : Int32} {n : Nat} (hn : n ≤ 12) (hc : Cb n nr) (k : Nat) (hk : k < n) : ocF n wd nr (nI k) 2 = if hgF n wd nr 12 k = 0 then 1 else 0 := by
  have e : ocF n wd nr (nI k) 2 = if isInF (stL nr wd n) (nI k) = 0 then 0 else 1 := by simp [ocF]
  have h := hg_st (wd := wd) hn hc 12 k (by omega) hk
  rw [e, isIn_bt _ k (by omega)]
  by_cases q : bt (stL nr wd n) k = true
  · rw [if_pos (h.mpr q), if_pos q]
    decide
  · rw [if_neg (fun z => q (h.mp z)), if_neg q]
    decide
