/-! the invariant keeps, and says what the law asks -/
def JJ (wh st : Nat) (tu : Int32) (ja : Int32) (re : Int32) (n : Nat) (ax : Nat → Int32) (te : Nat → Int32) (me : Nat → Int32) (bc : Nat → Option Nat) (ba : Nat → Option Nat) (cn : Nat) (wd : Int32) (nr : Nat → Int32) (nf : Nat → Int32) (cs : Nat → Int32) (LP : List Nat) (v : Nat → Int64 × Int64) : Prop :=
  bOK LP bc ∧ bOK LP ba ∧ cn ≤ 12 ∧ wh ∈ LP ∧ st ∈ LP ∧ v wh = fW ∧ v st = fZ ∧ (-9999 ≤ tu.toInt ∧ tu.toInt ≤ 9999) ∧ Cb cn nr ∧ NFo cn nr nf ∧ GE n ax te me ∧ ∃ ph, PO ax te me ph ∧ SC ax me ph (ph 0) (abR bc v)
theorem none_if {α : Type} {c : Prop} [Decidable c] {x : α} {y : Option α} (h : (if c then some x else y) = none) : ¬ c ∧ y = none := by
  by_cases e : c
  · rw [if_pos e] at h
    cases h
  · rw [if_neg e] at h
    exact ⟨e, h⟩
theorem win_spec {x a b : Int32} (h : ¬ withinF x a b = 0) : a.toInt ≤ x.toInt ∧ x.toInt ≤ b.toInt := by
  unfold withinF at h
  by_cases c : x < a
  · rw [if_pos c] at h
    exact absurd rfl h
  · rw [if_neg c] at h
    by_cases c2 : b < x
    · rw [if_pos c2] at h
      exact absurd rfl h
    · have q1 : ¬ x.toInt < a.toInt := fun q => c (Int32.lt_iff_toInt_lt.mpr q)
      have q2 : ¬ b.toInt < x.toInt := fun q => c2 (Int32.lt_iff_toInt_lt.mpr q)
      omega
theorem nI_back {x : Int32} {k : Nat} (hk : k < 2 ^ 31) (h : x.toInt = (k : Int)) : x = nI k := Int32.toInt_inj.mp (by rw [h, nI_toInt hk])
theorem win_a {x : Int32} (h : ¬ withinF x 0 6 = 0) : ∃ a, a < 7 ∧ x = nI a := by
  obtain ⟨h1, h2⟩ := win_spec h
  rw [show (0 : Int32).toInt = 0 from rfl] at h1
  rw [show (6 : Int32).toInt = 6 from by decide] at h2
  exact ⟨x.toInt.toNat, by omega, nI_back (by omega) (by omega)⟩
theorem win_n {x : Int32} {n : Nat} (hn : n ≤ 12) (h : ¬ withinF x 0 (nI n - 1) = 0) : ∃ w, w < n ∧ x = nI w := by
  obtain ⟨h1, h2⟩ := win_spec h
  have e : (nI n - 1).toInt = (n : Int) - 1 := by
    rw [Int32.toInt_sub, nI_toInt (by omega), show (1 : Int32).toInt = 1 from by decide, Int.bmod_eq_of_le (by omega) (by omega)]
  rw [show (0 : Int32).toInt = 0 from rfl] at h1
  rw [e] at h2
  exact ⟨x.toInt.toNat, by omega, nI_back (by omega) (by omega)⟩
theorem aN_ne {ax : Nat → Int32} {n k : Nat} {i : Int32} (h : ¬ k = n) : aN (upd ax n i) k = aN ax k := by
  unfold aN
  rw [upd_ne _ _ _ h]
theorem lt12_of {n : Nat} (hn : n ≤ 12) (h : ¬ (12 : Int32) ≤ nI n) : n < 12 := by
  refine Nat.lt_of_le_of_ne hn (fun e => h ?_)
  rw [e]
  decide
theorem JJ.wheel {wh st : Nat} {tu ja re : Int32} {n : Nat} {ax te me : Nat → Int32} {bc ba : Nat → Option Nat} {cn : Nat} {wd : Int32} {nr nf cs : Nat → Int32} {LP : List Nat} {v : Nat → Int64 × Int64} {i j : Int32} (hJ : JJ wh st tu ja re n ax te me bc ba cn wd nr nf cs LP v) (h : (if withinF i 0 6 = 0 then some xI else if withinF j 4 100 = 0 then some xA else if (12 : Int32) ≤ nI n then some xS else none) = none) : JJ wh st tu ja re (n + 1) (putF 12 ax (nI n) i) (putF 12 te (nI n) j) me bc ba cn wd nr nf cs LP v := by
  obtain ⟨b1, b2, b3, b4, b5, b6, b7, b8, b9, b10, ⟨hn, hA, hT, hM⟩, ph, hP, s1, s2, s3⟩ := hJ
  obtain ⟨c1, h⟩ := none_if h
  obtain ⟨c2, h⟩ := none_if h
  obtain ⟨c3, h⟩ := none_if h
  have hn2 := lt12_of hn c3
  rw [put12 ax n hn2, put12 te n hn2]
  obtain ⟨a, ha, rfl⟩ := win_a c1
  have t2 := win_spec c2
  rw [show (4 : Int32).toInt = 4 from by decide, show (100 : Int32).toInt = 100 from by decide] at t2
  refine ⟨b1, b2, b3, b4, b5, b6, b7, b8, b9, b10, ⟨by omega, fun k hk => ?_, fun k hk => ?_, fun k hk z hz hm => ?_⟩, ph, ⟨hP.1, fun k hk z hz hm => ?_⟩, s1, s2, fun k hk z hz hm => ?_⟩
  · by_cases e : k = n
    · have eq : aN (upd ax n (nI a)) k = a := by
        unfold aN
        rw [e, upd_self, nI_clamp (by omega)]
      rw [eq, e, upd_self]
      exact ⟨ha, rfl⟩
    · rw [aN_ne e, upd_ne _ _ _ e]
      exact hA k (by omega)
  · by_cases e : k = n
    · rw [e, upd_self]
      exact t2
    · rw [upd_ne _ _ _ e]
      exact hT k (by omega)
  · obtain ⟨g1, g2, g3⟩ := hM k hk z hz hm
    exact ⟨by omega, by omega, g3⟩
  · obtain ⟨g1, g2, g3⟩ := hM k hk z hz hm
    rw [aN_ne (show ¬ k = n by omega), aN_ne (show ¬ z = n by omega), upd_ne _ _ _ (show ¬ k = n by omega), upd_ne _ _ _ (show ¬ z = n by omega)]
    exact hP.2 k hk z hz hm
  · obtain ⟨g1, g2, g3⟩ := hM k hk z hz hm
    rw [aN_ne (show ¬ k = n by omega), aN_ne (show ¬ z = n by omega)]
    exact s3 k hk z hz hm
theorem JJ.mesh {wh st : Nat} {tu ja re : Int32} {n : Nat} {ax te me : Nat → Int32} {bc ba : Nat → Option Nat} {cn : Nat} {wd : Int32} {nr nf cs : Nat → Int32} {LP : List Nat} {v : Nat → Int64 × Int64} {i j : Int32} {u : Int32 × (Nat → Int32) × (Nat → Option Nat) × (Nat → Option Nat) × List Nat × (Nat → Int64 × Int64)} (hJ : JJ wh st tu ja re n ax te me bc ba cn wd nr nf cs LP v) (h : (if withinF i 0 (nI n - 1) = 0 then some xI else if withinF j 0 (nI n - 1) = 0 then some xI else if atF 12 ax i = atF 12 ax j then some xA else none) = none)
    (u2 : u.2.1 = (if wjF ax te me n (v wh) i j = 0 then jnF me i j else me)) (u3 : bOK u.2.2.2.2.1 u.2.2.1) (u4 : bOK u.2.2.2.2.1 u.2.2.2.1) (u5 : keepL LP u.2.2.2.2.1 v u.2.2.2.2.2) (u6 : abR u.2.2.1 u.2.2.2.2.2 = (if wjF ax te me n (v wh) i j = 0 then sprF ax te (jnF me i j) n 0 (v wh) else abR bc v)) : JJ wh st tu u.1 re n ax te u.2.1 u.2.2.1 u.2.2.2.1 cn wd nr nf cs u.2.2.2.2.1 u.2.2.2.2.2 := by
  obtain ⟨b1, b2, b3, b4, b5, b6, b7, b8, b9, b10, hG, ph, hP, hS⟩ := hJ
  obtain ⟨c1, h⟩ := none_if h
  obtain ⟨c2, h⟩ := none_if h
  obtain ⟨w, hw, rfl⟩ := win_n hG.1 c1
  obtain ⟨z, hz, rfl⟩ := win_n hG.1 c2
  have v6 := (u5 wh b4).2.trans b6
  have v7 := (u5 st b5).2.trans b7
  rw [b6] at u2 u6
  by_cases e : wjF ax te me n fW (nI w) (nI z) = 0
  · rw [if_pos e] at u2 u6
    rw [u2]
    obtain ⟨ph1, hP1⟩ := PO.join hG hP hw hz e
    have hG1 := hG.join hw hz
    refine ⟨u3, u4, b3, (u5 wh b4).1, (u5 st b5).1, v6, v7, b8, b9, b10, hG1, ph1, hP1, ?_⟩
    rw [u6]
    exact (spr_ok hG1 hP1 (a0 := 0) (by decide)).1
  · rw [if_neg e] at u2 u6
    rw [u2]
    refine ⟨u3, u4, b3, (u5 wh b4).1, (u5 st b5).1, v6, v7, b8, b9, b10, hG, ph, hP, ?_⟩
    rw [u6]
    exact hS
theorem JJ.part {wh st : Nat} {tu ja re : Int32} {n : Nat} {ax te me : Nat → Int32} {bc ba : Nat → Option Nat} {cn : Nat} {wd : Int32} {nr nf cs : Nat → Int32} {LP : List Nat} {v : Nat → Int64 × Int64} {i j : Int32} {u : (Nat → Int32) × (Nat → Option Nat) × List Nat × (Nat → Int64 × Int64)} (hJ : JJ wh st tu ja re n ax te me bc ba cn wd nr nf cs LP v) (h : (if withinF i 0 (nI n - 1) = 0 then some xI else if withinF j 0 (nI n - 1) = 0 then some xI else none) = none)
    (u1 : u.1 = (if isInF (atF 12 me i) j = 0 then me else seF me i j)) (u2 : bOK u.2.2.1 u.2.1) (u3 : keepL LP u.2.2.1 v u.2.2.2) (u4 : abR u.2.1 u.2.2.2 = (if isInF (atF 12 me i) j = 0 then abR bc v else sprF ax te (seF me i j) n 0 (v wh))) : JJ wh st tu ja re n ax te u.1 u.2.1 ba cn wd nr nf cs u.2.2.1 u.2.2.2 := by
  obtain ⟨b1, b2, b3, b4, b5, b6, b7, b8, b9, b10, hG, ph, hP, hS⟩ := hJ
  obtain ⟨c1, h⟩ := none_if h
  obtain ⟨c2, h⟩ := none_if h
  obtain ⟨w, hw, rfl⟩ := win_n hG.1 c1
  obtain ⟨z, hz, rfl⟩ := win_n hG.1 c2
  have hn := hG.1
  have v6 := (u3 wh b4).2.trans b6
  have v7 := (u3 st b5).2.trans b7
  rw [b6] at u4
  by_cases e : isInF (atF 12 me (nI w)) (nI z) = 0
  · rw [if_pos e] at u1 u4
    rw [u1]
    refine ⟨u2, b2.keep u3, b3, (u3 wh b4).1, (u3 st b5).1, v6, v7, b8, b9, b10, hG, ph, hP, ?_⟩
    rw [u4]
    exact hS
  · rw [if_neg e] at u1 u4
    rw [u1]
    have hG1 := hG.part hw hz
    have hP1 : PO ax te (seF me (nI w) (nI z)) ph := PO.part (n := n) hP (by omega) (by omega)
    refine ⟨u2, b2.keep u3, b3, (u3 wh b4).1, (u3 st b5).1, v6, v7, b8, b9, b10, hG1, ph, hP1, ?_⟩
    rw [u4]
    exact (spr_ok hG1 hP1 (a0 := 0) (by decide)).1
theorem JJ.new {wh st : Nat} {b1 : Nat → Option Nat} {LP1 : List Nat} {v1 : Nat → Int64 × Int64} (h1 : wh ∈ LP1) (h2 : st ∈ LP1) (h3 : v1 wh = fW) (h4 : v1 st = fZ) (h5 : bOK LP1 b1) (h6 : abR b1 v1 = sprF zI zI zI 0 0 fW) : JJ wh st 0 0 0 0 zI zI zI b1 nQ 0 0 zI zI (csL 7) LP1 v1 := by
  have z0 : ∀ k j, ¬ bt (zI k) j = true := fun k j q => by
    rw [show zI k = 0 from rfl, bt_zero] at q
    cases q
  have hG : GE 0 zI zI zI := ⟨by decide, fun k hk => absurd hk (Nat.not_lt_zero _), fun k hk => absurd hk (Nat.not_lt_zero _), fun k _ j _ q => absurd q (z0 k j)⟩
  have hP : PO zI zI zI (fun _ => 1) := ⟨fun _ => (by decide : (1 : Int) ≠ 0), fun k _ j _ q => absurd q (z0 k j)⟩
  have hq0 : ∀ k a, nQ k = some a → a ∈ LP1 := fun k a q => absurd (show (none : Option Nat) = some a from q) (by simp)
  refine ⟨h5, ⟨hq0, fun k _ => rfl⟩, by decide, h1, h2, h3, h4, ⟨by decide, by decide⟩, Cb.zero _, NFo.zero _ _, hG, _, hP, ?_⟩
  rw [h6]
  exact (spr_ok hG hP (a0 := 0) (by decide)).1
/-- all that the law asks rests on this -/
theorem JJ.key {wh st : Nat} {tu ja re : Int32} {n : Nat} {ax te me : Nat → Int32} {bc ba : Nat → Option Nat} {cn : Nat} {wd : Int32} {nr nf cs : Nat → Int32} {LP : List Nat} {v : Nat → Int64 × Int64} (hJ : JJ wh st tu ja re n ax te me bc ba cn wd nr nf cs LP v) : ∃ (f0 : Int) (ps : Nat → Int), f0 ≠ 0 ∧ (∀ a, a < 7 → Low (v (rtA st bc (nI a))) ∧ (v (rtA st bc (nI a))).1.toInt * f0 = (v (rtA st bc (nI a))).2.toInt * ps a ∧ (v (rtA st bc (nI a))).1.toInt.natAbs ≤ 10 ^ 12 ∧ (v (rtA st bc (nI a))).2.toInt ≤ 10 ^ 12) ∧ (∃ N : Int, 0 < N ∧ N ≤ 10 ^ 12 ∧ ∀ a, a < 7 → (v (rtA st bc (nI a))).2.toInt ∣ N) ∧ ∀ k, k < 12 → ∀ j, j < 32 → bt (me k) j = true → ps (aN ax j) * (te j).toInt = -(ps (aN ax k) * (te k).toInt) := by
  obtain ⟨b1, b2, b3, b4, b5, b6, b7, b8, b9, b10, hG, ph, hP, hS⟩ := hJ
  obtain ⟨ps, k1, k2, k3⟩ := key_rate hG hP hS b7
  exact ⟨ph 0, ps, hP.1 0, k1, k2, k3⟩
theorem JJ.ge {wh st : Nat} {tu ja re : Int32} {n : Nat} {ax te me : Nat → Int32} {bc ba : Nat → Option Nat} {cn : Nat} {wd : Int32} {nr nf cs : Nat → Int32} {LP : List Nat} {v : Nat → Int64 × Int64} (hJ : JJ wh st tu ja re n ax te me bc ba cn wd nr nf cs LP v) : GE n ax te me := hJ.2.2.2.2.2.2.2.2.2.2.1
theorem JJ.tu {wh st : Nat} {tu ja re : Int32} {n : Nat} {ax te me : Nat → Int32} {bc ba : Nat → Option Nat} {cn : Nat} {wd : Int32} {nr nf cs : Nat → Int32} {LP : List Nat} {v : Nat → Int64 × Int64} (hJ : JJ wh st tu ja re n ax te me bc ba cn wd nr nf cs LP v) : -9999 ≤ tu.toInt ∧ tu.toInt ≤ 9999 := hJ.2.2.2.2.2.2.2.1
/-- of two in mesh just as many teeth have passed, the opposite way -/
theorem JJ.opp {wh st : Nat} {tu ja re : Int32} {n : Nat} {ax te me : Nat → Int32} {bc ba : Nat → Option Nat} {cn : Nat} {wd : Int32} {nr nf cs : Nat → Int32} {LP : List Nat} {v : Nat → Int64 × Int64} (hJ : JJ wh st tu ja re n ax te me bc ba cn wd nr nf cs LP v) {k j : Nat} (hk : k < n) (hj : j < n) (hm : bt (me k) j = true) : (paF (v (rtA st bc (atF 12 ax (nI k)))) tu (atF 12 te (nI k))).1 = -(paF (v (rtA st bc (atF 12 ax (nI j)))) tu (atF 12 te (nI j))).1 ∧ (paF (v (rtA st bc (atF 12 ax (nI k)))) tu (atF 12 te (nI k))).2 = (paF (v (rtA st bc (atF 12 ax (nI j)))) tu (atF 12 te (nI j))).2 := by
  obtain ⟨f0, ps, hf, k1, -, k3⟩ := hJ.key
  obtain ⟨hn, hA, hT, -⟩ := hJ.ge
  obtain ⟨t0, t1⟩ := hJ.tu
  rw [at12 ax k (by omega), at12 ax j (by omega), at12 te k (by omega), at12 te j (by omega), (hA k hk).2, (hA j hj).2]
  obtain ⟨x1, x2, x3, x4⟩ := k1 (aN ax k) (hA k hk).1
  obtain ⟨y1, y2, y3, y4⟩ := k1 (aN ax j) (hA j hj).1
  exact pa_opp hf x1 x3 x4 y1 y3 y4 t0 t1 (hT k hk).1 (hT k hk).2 (hT j hj).1 (hT j hj).2 x2 y2 (k3 k (by omega) j (by omega) hm)
theorem dm_one {wh st : Nat} {tu ja re : Int32} {n : Nat} {ax te me : Nat → Int32} {bc ba : Nat → Option Nat} {cn : Nat} {wd : Int32} {nr nf cs : Nat → Int32} {LP : List Nat} {v : Nat → Int64 × Int64} (hJ : JJ wh st tu ja re n ax te me bc ba cn wd nr nf cs LP v) : dmO st bc v ax te me tu n n 0 = 1 := by
  have hn := hJ.ge.1
  have h1 : ∀ k, k < n → ∀ r j, j + r = n → dmI st bc v ax te me tu k r j = 1 := by
    intro k hk r
    induction r with
    | zero => intro j _; rfl
    | succ r ih =>
      intro j hj
      rw [dmI]
      by_cases c : isInF (atF 12 me (nI k)) (nI j) = 0
      · rw [if_pos c]
        exact ih (j + 1) (by omega)
      · rw [if_neg c]
        have hm : bt (me k) j = true := by
          rw [at12 me k (by omega)] at c
          cases q : bt (me k) j with
          | true => rfl
          | false => exact absurd ((isIn0 (by omega)).mpr q) c
        rw [if_pos (show (pbF st bc v ax te tu (nI k)).1 = -(pbF st bc v ax te tu (nI j)).1 ∧ (pbF st bc v ax te tu (nI k)).2 = (pbF st bc v ax te tu (nI j)).2 from hJ.opp hk (by omega) hm)]
        exact ih (j + 1) (by omega)
  have h2 : ∀ r k, k + r = n → dmO st bc v ax te me tu n r k = 1 := by
    intro r
    induction r with
    | zero => intro k _; rfl
    | succ r ih =>
      intro k hk
      rw [dmO, h1 k (by omega) _ _ (by omega), if_neg (by decide)]
      exact ih (k + 1) (by omega)
  exact h2 n 0 (by omega)
theorem JJ.per {wh st : Nat} {tu ja re : Int32} {n : Nat} {ax te me : Nat → Int32} {bc ba : Nat → Option Nat} {cn : Nat} {wd : Int32} {nr nf cs : Nat → Int32} {LP : List Nat} {v : Nat → Int64 × Int64} (hJ : JJ wh st tu ja re n ax te me bc ba cn wd nr nf cs LP v) : 0 < (ptL st bc v 7).toInt ∧ ∀ k, k < 7 → 0 < (v (rtA st bc (nI k))).2.toInt ∧ (v (rtA st bc (nI k))).2.toInt ∣ (ptL st bc v 7).toInt := by
  obtain ⟨f0, ps, hf, k1, ⟨N, n1, n2, n3⟩, -⟩ := hJ.key
  obtain ⟨i0, -, i2, -⟩ := pt_lcm st bc v N n1 (by omega) 7 (fun j hj => ⟨(k1 j hj).1.1, n3 j hj⟩)
  exact ⟨i0, fun k hk => ⟨(k1 k hk).1.1, i2 k hk⟩⟩
theorem JJ.sound {wh st : Nat} {tu ja re : Int32} {n : Nat} {ax te me : Nat → Int32} {bc ba : Nat → Option Nat} {cn : Nat} {wd : Int32} {nr nf cs : Nat → Int32} {LP : List Nat} {v : Nat → Int64 × Int64} (hJ : JJ wh st tu ja re n ax te me bc ba cn wd nr nf cs LP v) : ¬ isF st bc v ax te me tu n cn wd nr nf = 0 := by
  have h1 := dm_one hJ
  obtain ⟨p0, p1⟩ := hJ.per
  have h2 := ipr_one (ptL st bc v 7) st bc v p0 p1 7 0 rfl
  have h3 := acn_one (wd := wd) hJ.2.2.1 hJ.2.2.2.2.2.2.2.2.1 hJ.2.2.2.2.2.2.2.2.2.1 cn 0 (by omega)
  unfold isF
  rw [h1, h2, h3, if_neg (by decide), if_neg (by decide), if_neg (by decide)]
  decide
theorem cl_none {cn : Nat} {i : Int32} (hn : cn ≤ 12) (h : (if (if i < 0 then 0 else if i >>> (nI cn &&& 31) = 0 then 1 else 0) = (0 : Int32) then some xA else if (12 : Int32) ≤ nI cn then some xS else none) = none) : cn < 12 ∧ i >>> (nI cn &&& 31) = 0 := by
  obtain ⟨c1, h⟩ := none_if h
  obtain ⟨c2, h⟩ := none_if h
  refine ⟨lt12_of hn c2, ?_⟩
  by_cases e : i < 0
  · rw [if_pos e] at c1
    exact absurd rfl c1
  · rw [if_neg e] at c1
    by_cases e2 : i >>> (nI cn &&& 31) = 0
    · exact e2
    · rw [if_neg e2] at c1
      exact absurd rfl c1
set_option maxHeartbeats 4000000 in
theorem iv_ok : IvOK JJ := by
  refine ⟨?_, ?_, ?_, ?_, ?_, ?_, ?_, ?_, ?_, ?_, ?_, ?_, ?_, ?_, ?_, ?_, ?_, ?_⟩
  · intro wh st tu ja re n ax te me bc ba cn wd nr nf cs LP v hJ
    exact ⟨hJ.1, hJ.2.1, hJ.ge.1, hJ.2.2.1, hJ.2.2.2.1⟩
  · intro wh st tu ja re n ax te me bc ba cn wd nr nf cs LP v i j hJ h
    exact hJ.wheel h
  · intro wh st tu ja re n ax te me bc ba cn wd nr nf cs LP v i j r u hJ h hu
    obtain ⟨-, -, u2, u3, u4, u5, u6⟩ := hu
    exact hJ.mesh h u2 u3 u4 u5 u6
  · intro wh st tu ja re n ax te me bc ba cn wd nr nf cs LP v i j r u hJ h hu
    obtain ⟨-, u1, u2, u3, u4⟩ := hu
    exact hJ.part h u1 u2 u3 u4
  · intro wh st tu ja re n ax te me bc ba cn wd nr nf cs LP v i hJ h
    obtain ⟨b1, b2, b3, b4, b5, b6, b7, b8, b9⟩ := hJ
    obtain ⟨c1, h⟩ := none_if h
    obtain ⟨c2, h⟩ := none_if h
    have t2 := win_spec c2
    rw [show (-9999 : Int32).toInt = -9999 from by decide, show (9999 : Int32).toInt = 9999 from by decide] at t2
    exact ⟨b1, b2, b3, b4, b5, b6, b7, t2, b9⟩
  · intro wh st tu ja re n ax te me bc ba cn wd nr nf cs LP v i hJ h
    obtain ⟨b1, b2, b3, b4, b5, b6, b7, b8, b9, b10, b11⟩ := hJ
    obtain ⟨c1, c2⟩ := cl_none b3 h
    exact ⟨b1, b2, by omega, b4, b5, b6, b7, b8, b9.add c1 c2, b10.add c1, b11⟩
  · intro wh st tu ja re n ax te me bc ba cn wd nr nf cs LP v i b hJ h
    exact hJ
  · intro wh st tu ja re n ax te me bc ba cn wd nr nf cs LP v i j hJ h
    exact hJ
  · intro wh st tu ja re n ax te me bc ba cn wd nr nf cs LP v hJ
    exact hJ.2.2.2.2.1
  · intro wh st b1 LP1 v1 h1 h2 h3 h4 h5 h6
    exact JJ.new h1 h2 h3 h4 h5 h6
  · intro wh st tu ja re n ax te me bc ba cn wd nr nf cs LP v iz hJ hi
    obtain ⟨hn, hA, -, -⟩ := hJ.ge
    have e : owF ax te me bc (nI iz) 0 = nI (aN ax iz) := by
      have e1 : owF ax te me bc (nI iz) 0 = atF 12 ax (nI iz) := by simp [owF]
      rw [e1, at12 ax iz (by omega)]
      exact (hA iz hi).2
    rw [e]
    exact winK (k := aN ax iz) (b := 6) (by have := (hA iz hi).1; omega) (by decide)
  · intro wh st tu ja re n ax te me bc ba cn wd nr nf cs LP v iz jz hJ hi hj hb
    have hn := hJ.ge.1
    have e1 : owF ax te me bc (nI iz) 2 = atF 12 me (nI iz) := by simp [owF]
    rw [e1, at12 me iz (by omega)] at hb
    have hm := (and1 _).mp hb
    rw [bt_shr _ jz (by omega)] at hm
    exact hJ.opp hi (by omega) hm
  · intro wh st tu ja re n ax te me bc ba cn wd nr nf cs LP v iz jz hJ hi hj hb
    obtain ⟨f0, ps, hf, k1, -, k3⟩ := hJ.key
    obtain ⟨hn, hA, hT, -⟩ := hJ.ge
    have o2 : owF ax te me bc (nI iz) 2 = atF 12 me (nI iz) := by simp [owF]
    have o0 : ∀ k, owF ax te me bc (nI k) 0 = atF 12 ax (nI k) := fun k => by simp [owF]
    have o1 : ∀ k, owF ax te me bc (nI k) 1 = atF 12 te (nI k) := fun k => by simp [owF]
    rw [o2, at12 me iz (by omega)] at hb
    have hm := (and1 _).mp hb
    rw [bt_shr _ jz (by omega)] at hm
    rw [o0, o0, o1, o1, at12 ax iz (by omega), at12 ax jz (by omega), at12 te iz (by omega), at12 te jz (by omega), (hA iz hi).2, (hA jz (by omega)).2]
    have r0 : ∀ q, raF q 0 = q.1 := fun q => by simp [raF, vp_updL]
    have r1 : ∀ q, raF q 1 = q.2 := fun q => by simp [raF, vp_updL]
    rw [r0, r0, r1, r1]
    obtain ⟨x1, x2, -, -⟩ := k1 (aN ax iz) (hA iz hi).1
    obtain ⟨y1, y2, -, -⟩ := k1 (aN ax jz) (hA jz (by omega)).1
    exact ra_cross hf x2 y2 (k3 iz (by omega) jz (by omega) hm)
  · intro wh st tu ja re n ax te me bc ba cn wd nr nf cs LP v k hJ hk h0
    have := (hJ.per.2 k hk).1
    rw [h0] at this
    exact absurd this (by decide)
  · intro wh st tu ja re n ax te me bc ba cn wd nr nf cs LP v pz hJ hp h0 h1 he
    obtain ⟨f0, ps, hf, k1, ⟨N, n1, n2, n3⟩, -⟩ := hJ.key
    rw [ip_law st bc v N n1 (by omega) (fun j hj => ⟨(k1 j hj).1, n3 j hj, by have := (k1 j hj).2.2.1; omega⟩) pz hp h0 h1 he]
    decide
  · intro wh st tu ja re n ax te me bc ba cn wd nr nf cs LP v k hJ hk
    exact cl_law hJ.2.2.1 hJ.2.2.2.2.2.2.2.2.1 k hk
  · exact bw34
  · intro wh st tu ja re n ax te me bc ba cn wd nr nf cs LP v hJ
    exact hJ.sound
