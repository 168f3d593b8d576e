/-! the gearing: what is asked -/
def rinF (n : Nat) (f : Nat → Option Nat) (i : Int32) : Option Nat := if i < 0 then none else if nI n ≤ i then none else f i.toNatClampNeg
def rtA (st : Nat) (bc : Nat → Option Nat) (i : Int32) : Nat := (rinF 7 bc i).getD st
def cmL (me : Nat → Int32) : Nat → Int32
  | 0 => 0
  | k + 1 => cmL me k + bcF (atF 12 me (nI k))
def cvL (bc : Nat → Option Nat) : Nat → Int32
  | 0 => 0
  | k + 1 => if rinF 7 bc (nI k) = none then cvL bc k else cvL bc k + 1
def ptL (st : Nat) (bc : Nat → Option Nat) (v : Nat → Int64 × Int64) : Nat → Int64
  | 0 => 1
  | k + 1 => if cdF (ptL st bc v k) (v (rtA st bc (nI k))).2 ≤ 0 then ptL st bc v k else ptL st bc v k / cdF (ptL st bc v k) (v (rtA st bc (nI k))).2 * (v (rtA st bc (nI k))).2
def iprL (p : Int64) (st : Nat) (bc : Nat → Option Nat) (v : Nat → Int64 × Int64) : Nat → Nat → Int32
  | 0, _ => if p ≤ 0 then 0 else 1
  | r + 1, k => if (v (rtA st bc (nI k))).2 ≤ 0 then iprL p st bc v r (k + 1) else if p - p / (v (rtA st bc (nI k))).2 * (v (rtA st bc (nI k))).2 = 0 then iprL p st bc v r (k + 1) else 0
theorem rinF_mem {LP : List Nat} {bc : Nat → Option Nat} (hbc : ∀ k, k < 7 → ∀ a, bc k = some a → a ∈ LP) {i : Int32} {a : Nat} (h : rinF 7 bc i = some a) : a ∈ LP := by
  unfold rinF at h
  split at h
  · cases h
  · split at h
    · cases h
    · rename_i h0 h1
      obtain ⟨j, hj, rfl⟩ := nI_of h0
      rw [nI_clamp hj] at h
      exact hbc j (Nat.lt_of_not_le fun z => h1 ((nI_leI (by decide) hj).mpr z)) a h
theorem rtA_mem {LP : List Nat} {bc : Nat → Option Nat} {st : Nat} (hst : st ∈ LP) (hbc : ∀ k, k < 7 → ∀ a, bc k = some a → a ∈ LP) (i : Int32) : rtA st bc i ∈ LP := by
  unfold rtA
  cases h : rinF 7 bc i with
  | none => exact hst
  | some a => exact rinF_mem hbc h

set_option maxHeartbeats 4000000 in
set_option maxRecDepth 100000 in
theorem c_X2_axleOf (l : Launch) (dC : Nat → ClassId) (dI : Nat → Nat → Nat) (cI cF : ClassId) (tr : List (ClassId × FieldType)) (sz : Nat) (g : Nat) (n : Nat) (xa : Nat) (xt : Nat) (xm : Nat) (wh : Nat) (st : Nat) (xb : Nat) (xc : Nat) (ax : Nat → Int32) (i : Int32) : Met l yX2_axleOf wsX2_axleOf ({ frames := 1, cells := 0, slots := 0, locals := 21 } : Room) (cPc dC dI ((cI, .int) :: (cF, .object RX1) :: tr) sz ([(g, .inr (iX2, [.int (nI n), .ref xa, .ref xt, .ref xm, .ref wh, .ref st, .ref xb, .ref xc])), (xa, .inl (cI, 12, .inl (ax)))]) [.ref g, .int i]) (va_Qi (fun (r : Int32) (_ : Unit) => r = atF 12 ax i) (fun _ _ => True) (va_A ([]) sz)) 0 0 (va_A ([]) sz) := by
  refine Met.ofW (cc := cX2_axleOf) (maxL := 2) (ret := (some .int)) (by decide) rfl ?_
  intro p e s m args below meth c s₁ B hml hv
  obtain ⟨rfl, hsz, hP, hK, hN⟩ := hv
  have hx := B.exec
  have hb := B.bytes
  have hr := B.returns
  have hts := atoms_spec (ws := wsX2_axleOf) B.pre
  have hown : s.vm.findClass RX2 = some m.cls := findClass_of_methodNamed B.named
  have hlocks := B.notSynchronized
  subst hsz
  generalize hAe : va_A [] s.heap.size = A
  have hA : ∀ q : Nat, s.heap.size ≤ q → A q := fun q h => by rw [← hAe]; exact Or.inr h
  have hS : va_S A s.heap s.heap [] := va_S.rf
  have hAn : ∀ q : Nat, q < s.heap.size → ¬ A q := fun q h => by rw [← hAe]; exact notZ h
  have hAg : ∀ q : Nat, A q → s.heap.size ≤ q := fun q h => geZ (hAe ▸ h)
  have hR0 : va_P (dC, dI) vwCl ([(g, .inr (iX2, [.int (nI n), .ref xa, .ref xt, .ref xm, .ref wh, .ref st, .ref xb, .ref xc])), (xa, .inl (cI, 12, .inl (ax)))]) s.heap := hP
  have hR : va_P (dC, dI) vwCl ([(g, .inr (iX2, [.int (nI n), .ref xa, .ref xt, .ref xm, .ref wh, .ref st, .ref xb, .ref xc])), (xa, .inl (cI, 12, .inl (ax)))]) s.heap := hP
  have hP : va_P (dC, dI) vwCl [] s.heap := fun k q h => by simp at h
  have hD : va_D A [] := ⟨fun i j p q h => by simp at h, fun k q h => by simp at h⟩
  have hl := lv_entry ([.ref g, .int i]) (n := 2) (Nat.le_of_ble_eq_true rfl)
  rw [lg_entry_eq]
  generalize (lg_sl ([.ref g, .int i]) ++ List.replicate (2 - (lg_sl ([.ref g, .int i])).length) Slot.unset).toArray = ls at hl ⊢
  have hl : lv_has ls 2 [(0, .ref g), (1, .int i)] := hl
  have hfl_9 := hts (.fieldLink RX2 9 "Greenwheels$Gearing" "axles" "[I") (by decide +kernel)
  have hin_X2 : ∀ w ∈ u_ws RX2 TX2 8, w ∈ wsX2_axleOf := by decide +kernel
  have hw_iniX5 := hts (.initialized RX5) (by decide +kernel)
  have hw_staX5_at := hts (.static yX5_at) (by decide +kernel)
  refine lv_aload_n hx hb dX2_axleOf_0 rfl (lv_at hl 0 rfl) ?_
  refine va_get (D := (dC, dI)) (ci := iX2) (v := .ref xa) (C := RX2) (T := TX2) (N := 8) hx hb hts hin_X2 hown hK hR 0 rfl rfl 1 (by decide) hfl_9 (fun _ h9 => h9) rfl dX2_axleOf_1 ?_
  refine lv_iload_n hx hb dX2_axleOf_4 rfl (lv_at hl 1 rfl) ?_
  have hPc : va_P (dC, dI) vwCl ([(xa, .inl (cI, 12, .inl (ax)))]) _ := hR.sub [1] rfl
  have hFc := frZ hS hA
  refine va_calli (va_runSN (host := RX5) (As := [.ref xa, .int i]) (rest := []) ⟨hx, hb, hml, hown, hts⟩ (c_X5_at l dC dI cI cF tr (s.heap).size xa 12 ax i (by decide)) ⟨va_cnB 2 hts gX2_axleOf_X5_at_n52 rfl rfl rfl (nwAt hN (RX2, 52, yX5_at) (by decide +kernel)) hw_iniX5 (by decide +kernel) ⟨Nat.le_of_ble_eq_true rfl, Nat.le_of_ble_eq_true rfl⟩, hw_staX5_at, trivial⟩ ⟨cBl, (cPre hPc hK hN)⟩ rfl rfl hl.1 rfl (lv_room (Nat.le_of_ble_eq_true rfl)) dX2_axleOf_5 ⟨(Nat.le_of_ble_eq_true rfl), (Nat.le_of_ble_eq_true rfl)⟩) hS (fun q _ h => hFc q h) hFc (fun r_1 u t H1 locs ht hvm hw_r_1 hB hz1 hk1 hS => ?_)
  refine W.widen (k := 0) (n := 0) (Nat.le_refl _) (Nat.le_refl _) ?_
  have hP := keepP hP hk1
  have hR := keepP hR hk1
  generalize H1 = H at hP hR hS ⊢
  have hP : va_P (dC, dI) vwCl ([]) H := hP
  try dsimp only at hw_r_1
  subst hw_r_1
  refine W.widen (k := 0) (n := 0) (by omega) (by omega) ?_
  exact W.iret (v := atF 12 ax i) hx hb hr (fun t ht hW => ⟨⟨atF 12 ax i, (), rfl, (by first | (simp []; done) | contradiction), trivial⟩, hS.F ht⟩) hS.2.2 dX2_axleOf_8

set_option maxHeartbeats 4000000 in
set_option maxRecDepth 100000 in
theorem c_X2_teethOf (l : Launch) (dC : Nat → ClassId) (dI : Nat → Nat → Nat) (cI cF : ClassId) (tr : List (ClassId × FieldType)) (sz : Nat) (g : Nat) (n : Nat) (xa : Nat) (xt : Nat) (xm : Nat) (wh : Nat) (st : Nat) (xb : Nat) (xc : Nat) (te : Nat → Int32) (i : Int32) : Met l yX2_teethOf wsX2_teethOf ({ frames := 1, cells := 0, slots := 0, locals := 21 } : Room) (cPc dC dI ((cI, .int) :: (cF, .object RX1) :: tr) sz ([(g, .inr (iX2, [.int (nI n), .ref xa, .ref xt, .ref xm, .ref wh, .ref st, .ref xb, .ref xc])), (xt, .inl (cI, 12, .inl (te)))]) [.ref g, .int i]) (va_Qi (fun (r : Int32) (_ : Unit) => r = atF 12 te i) (fun _ _ => True) (va_A ([]) sz)) 0 0 (va_A ([]) sz) := by
  refine Met.ofW (cc := cX2_teethOf) (maxL := 2) (ret := (some .int)) (by decide) rfl ?_
  intro p e s m args below meth c s₁ B hml hv
  obtain ⟨rfl, hsz, hP, hK, hN⟩ := hv
  have hx := B.exec
  have hb := B.bytes
  have hr := B.returns
  have hts := atoms_spec (ws := wsX2_teethOf) B.pre
  have hown : s.vm.findClass RX2 = some m.cls := findClass_of_methodNamed B.named
  have hlocks := B.notSynchronized
  subst hsz
  generalize hAe : va_A [] s.heap.size = A
  have hA : ∀ q : Nat, s.heap.size ≤ q → A q := fun q h => by rw [← hAe]; exact Or.inr h
  have hS : va_S A s.heap s.heap [] := va_S.rf
  have hAn : ∀ q : Nat, q < s.heap.size → ¬ A q := fun q h => by rw [← hAe]; exact notZ h
  have hAg : ∀ q : Nat, A q → s.heap.size ≤ q := fun q h => geZ (hAe ▸ h)
  have hR0 : va_P (dC, dI) vwCl ([(g, .inr (iX2, [.int (nI n), .ref xa, .ref xt, .ref xm, .ref wh, .ref st, .ref xb, .ref xc])), (xt, .inl (cI, 12, .inl (te)))]) s.heap := hP
  have hR : va_P (dC, dI) vwCl ([(g, .inr (iX2, [.int (nI n), .ref xa, .ref xt, .ref xm, .ref wh, .ref st, .ref xb, .ref xc])), (xt, .inl (cI, 12, .inl (te)))]) s.heap := hP
  have hP : va_P (dC, dI) vwCl [] s.heap := fun k q h => by simp at h
  have hD : va_D A [] := ⟨fun i j p q h => by simp at h, fun k q h => by simp at h⟩
  have hl := lv_entry ([.ref g, .int i]) (n := 2) (Nat.le_of_ble_eq_true rfl)
  rw [lg_entry_eq]
  generalize (lg_sl ([.ref g, .int i]) ++ List.replicate (2 - (lg_sl ([.ref g, .int i])).length) Slot.unset).toArray = ls at hl ⊢
  have hl : lv_has ls 2 [(0, .ref g), (1, .int i)] := hl
  have hfl_15 := hts (.fieldLink RX2 15 "Greenwheels$Gearing" "teeth" "[I") (by decide +kernel)
  have hin_X2 : ∀ w ∈ u_ws RX2 TX2 8, w ∈ wsX2_teethOf := by decide +kernel
  have hw_iniX5 := hts (.initialized RX5) (by decide +kernel)
  have hw_staX5_at := hts (.static yX5_at) (by decide +kernel)
  refine lv_aload_n hx hb dX2_teethOf_0 rfl (lv_at hl 0 rfl) ?_
  refine va_get (D := (dC, dI)) (ci := iX2) (v := .ref xt) (C := RX2) (T := TX2) (N := 8) hx hb hts hin_X2 hown hK hR 0 rfl rfl 2 (by decide) hfl_15 (fun _ h9 => h9) rfl dX2_teethOf_1 ?_
  refine lv_iload_n hx hb dX2_teethOf_4 rfl (lv_at hl 1 rfl) ?_
  have hPc : va_P (dC, dI) vwCl ([(xt, .inl (cI, 12, .inl (te)))]) _ := hR.sub [1] rfl
  have hFc := frZ hS hA
  refine va_calli (va_runSN (host := RX5) (As := [.ref xt, .int i]) (rest := []) ⟨hx, hb, hml, hown, hts⟩ (c_X5_at l dC dI cI cF tr (s.heap).size xt 12 te i (by decide)) ⟨va_cnB 2 hts gX2_teethOf_X5_at_n52 rfl rfl rfl (nwAt hN (RX2, 52, yX5_at) (by decide +kernel)) hw_iniX5 (by decide +kernel) ⟨Nat.le_of_ble_eq_true rfl, Nat.le_of_ble_eq_true rfl⟩, hw_staX5_at, trivial⟩ ⟨cBl, (cPre hPc hK hN)⟩ rfl rfl hl.1 rfl (lv_room (Nat.le_of_ble_eq_true rfl)) dX2_teethOf_5 ⟨(Nat.le_of_ble_eq_true rfl), (Nat.le_of_ble_eq_true rfl)⟩) hS (fun q _ h => hFc q h) hFc (fun r_1 u t H1 locs ht hvm hw_r_1 hB hz1 hk1 hS => ?_)
  refine W.widen (k := 0) (n := 0) (Nat.le_refl _) (Nat.le_refl _) ?_
  have hP := keepP hP hk1
  have hR := keepP hR hk1
  generalize H1 = H at hP hR hS ⊢
  have hP : va_P (dC, dI) vwCl ([]) H := hP
  try dsimp only at hw_r_1
  subst hw_r_1
  refine W.widen (k := 0) (n := 0) (by omega) (by omega) ?_
  exact W.iret (v := atF 12 te i) hx hb hr (fun t ht hW => ⟨⟨atF 12 te i, (), rfl, (by first | (simp []; done) | contradiction), trivial⟩, hS.F ht⟩) hS.2.2 dX2_teethOf_8

set_option maxHeartbeats 4000000 in
set_option maxRecDepth 100000 in
theorem c_X2_meshedWith (l : Launch) (dC : Nat → ClassId) (dI : Nat → Nat → Nat) (cI cF : ClassId) (tr : List (ClassId × FieldType)) (sz : Nat) (g : Nat) (n : Nat) (xa : Nat) (xt : Nat) (xm : Nat) (wh : Nat) (st : Nat) (xb : Nat) (xc : Nat) (me : Nat → Int32) (i : Int32) : Met l yX2_meshedWith wsX2_meshedWith ({ frames := 1, cells := 0, slots := 0, locals := 21 } : Room) (cPc dC dI ((cI, .int) :: (cF, .object RX1) :: tr) sz ([(g, .inr (iX2, [.int (nI n), .ref xa, .ref xt, .ref xm, .ref wh, .ref st, .ref xb, .ref xc])), (xm, .inl (cI, 12, .inl (me)))]) [.ref g, .int i]) (va_Qi (fun (r : Int32) (_ : Unit) => r = atF 12 me i) (fun _ _ => True) (va_A ([]) sz)) 0 0 (va_A ([]) sz) := by
  refine Met.ofW (cc := cX2_meshedWith) (maxL := 2) (ret := (some .int)) (by decide) rfl ?_
  intro p e s m args below meth c s₁ B hml hv
  obtain ⟨rfl, hsz, hP, hK, hN⟩ := hv
  have hx := B.exec
  have hb := B.bytes
  have hr := B.returns
  have hts := atoms_spec (ws := wsX2_meshedWith) B.pre
  have hown : s.vm.findClass RX2 = some m.cls := findClass_of_methodNamed B.named
  have hlocks := B.notSynchronized
  subst hsz
  generalize hAe : va_A [] s.heap.size = A
  have hA : ∀ q : Nat, s.heap.size ≤ q → A q := fun q h => by rw [← hAe]; exact Or.inr h
  have hS : va_S A s.heap s.heap [] := va_S.rf
  have hAn : ∀ q : Nat, q < s.heap.size → ¬ A q := fun q h => by rw [← hAe]; exact notZ h
  have hAg : ∀ q : Nat, A q → s.heap.size ≤ q := fun q h => geZ (hAe ▸ h)
  have hR0 : va_P (dC, dI) vwCl ([(g, .inr (iX2, [.int (nI n), .ref xa, .ref xt, .ref xm, .ref wh, .ref st, .ref xb, .ref xc])), (xm, .inl (cI, 12, .inl (me)))]) s.heap := hP
  have hR : va_P (dC, dI) vwCl ([(g, .inr (iX2, [.int (nI n), .ref xa, .ref xt, .ref xm, .ref wh, .ref st, .ref xb, .ref xc])), (xm, .inl (cI, 12, .inl (me)))]) s.heap := hP
  have hP : va_P (dC, dI) vwCl [] s.heap := fun k q h => by simp at h
  have hD : va_D A [] := ⟨fun i j p q h => by simp at h, fun k q h => by simp at h⟩
  have hl := lv_entry ([.ref g, .int i]) (n := 2) (Nat.le_of_ble_eq_true rfl)
  rw [lg_entry_eq]
  generalize (lg_sl ([.ref g, .int i]) ++ List.replicate (2 - (lg_sl ([.ref g, .int i])).length) Slot.unset).toArray = ls at hl ⊢
  have hl : lv_has ls 2 [(0, .ref g), (1, .int i)] := hl
  have hfl_18 := hts (.fieldLink RX2 18 "Greenwheels$Gearing" "meshSets" "[I") (by decide +kernel)
  have hin_X2 : ∀ w ∈ u_ws RX2 TX2 8, w ∈ wsX2_meshedWith := by decide +kernel
  have hw_iniX5 := hts (.initialized RX5) (by decide +kernel)
  have hw_staX5_at := hts (.static yX5_at) (by decide +kernel)
  refine lv_aload_n hx hb dX2_meshedWith_0 rfl (lv_at hl 0 rfl) ?_
  refine va_get (D := (dC, dI)) (ci := iX2) (v := .ref xm) (C := RX2) (T := TX2) (N := 8) hx hb hts hin_X2 hown hK hR 0 rfl rfl 3 (by decide) hfl_18 (fun _ h9 => h9) rfl dX2_meshedWith_1 ?_
  refine lv_iload_n hx hb dX2_meshedWith_4 rfl (lv_at hl 1 rfl) ?_
  have hPc : va_P (dC, dI) vwCl ([(xm, .inl (cI, 12, .inl (me)))]) _ := hR.sub [1] rfl
  have hFc := frZ hS hA
  refine va_calli (va_runSN (host := RX5) (As := [.ref xm, .int i]) (rest := []) ⟨hx, hb, hml, hown, hts⟩ (c_X5_at l dC dI cI cF tr (s.heap).size xm 12 me i (by decide)) ⟨va_cnB 2 hts gX2_meshedWith_X5_at_n52 rfl rfl rfl (nwAt hN (RX2, 52, yX5_at) (by decide +kernel)) hw_iniX5 (by decide +kernel) ⟨Nat.le_of_ble_eq_true rfl, Nat.le_of_ble_eq_true rfl⟩, hw_staX5_at, trivial⟩ ⟨cBl, (cPre hPc hK hN)⟩ rfl rfl hl.1 rfl (lv_room (Nat.le_of_ble_eq_true rfl)) dX2_meshedWith_5 ⟨(Nat.le_of_ble_eq_true rfl), (Nat.le_of_ble_eq_true rfl)⟩) hS (fun q _ h => hFc q h) hFc (fun r_1 u t H1 locs ht hvm hw_r_1 hB hz1 hk1 hS => ?_)
  refine W.widen (k := 0) (n := 0) (Nat.le_refl _) (Nat.le_refl _) ?_
  have hP := keepP hP hk1
  have hR := keepP hR hk1
  generalize H1 = H at hP hR hS ⊢
  have hP : va_P (dC, dI) vwCl ([]) H := hP
  try dsimp only at hw_r_1
  subst hw_r_1
  refine W.widen (k := 0) (n := 0) (by omega) (by omega) ?_
  exact W.iret (v := atF 12 me i) hx hb hr (fun t ht hW => ⟨⟨atF 12 me i, (), rfl, (by first | (simp []; done) | contradiction), trivial⟩, hS.F ht⟩) hS.2.2 dX2_meshedWith_8

set_option maxHeartbeats 4000000 in
set_option maxRecDepth 100000 in
theorem c_X2_areOnOneAxle (l : Launch) (dC : Nat → ClassId) (dI : Nat → Nat → Nat) (cI cF : ClassId) (tr : List (ClassId × FieldType)) (sz : Nat) (g : Nat) (n : Nat) (xa : Nat) (xt : Nat) (xm : Nat) (wh : Nat) (st : Nat) (xb : Nat) (xc : Nat) (ax : Nat → Int32) (i : Int32) (j : Int32) : Met l yX2_areOnOneAxle wsX2_areOnOneAxle ({ frames := 2, cells := 0, slots := 0, locals := 42 } : Room) (cPc dC dI ((cI, .int) :: (cF, .object RX1) :: tr) sz ([(g, .inr (iX2, [.int (nI n), .ref xa, .ref xt, .ref xm, .ref wh, .ref st, .ref xb, .ref xc])), (xa, .inl (cI, 12, .inl (ax)))]) [.ref g, .int i, .int j]) (va_Qi (fun (r : Int32) (_ : Unit) => r = if atF 12 ax i = atF 12 ax j then 1 else 0) (fun _ _ => True) (va_A ([]) sz)) 0 0 (va_A ([]) sz) := by
  refine Met.ofW (cc := cX2_areOnOneAxle) (maxL := 3) (ret := (some .boolean)) (by decide) rfl ?_
  intro p e s m args below meth c s₁ B hml hv
  obtain ⟨rfl, hsz, hP, hK, hN⟩ := hv
  have hx := B.exec
  have hb := B.bytes
  have hr := B.returns
  have hts := atoms_spec (ws := wsX2_areOnOneAxle) B.pre
  have hown : s.vm.findClass RX2 = some m.cls := findClass_of_methodNamed B.named
  have hlocks := B.notSynchronized
  subst hsz
  generalize hAe : va_A [] s.heap.size = A
  have hA : ∀ q : Nat, s.heap.size ≤ q → A q := fun q h => by rw [← hAe]; exact Or.inr h
  have hS : va_S A s.heap s.heap [] := va_S.rf
  have hAn : ∀ q : Nat, q < s.heap.size → ¬ A q := fun q h => by rw [← hAe]; exact notZ h
  have hAg : ∀ q : Nat, A q → s.heap.size ≤ q := fun q h => geZ (hAe ▸ h)
  have hR0 : va_P (dC, dI) vwCl ([(g, .inr (iX2, [.int (nI n), .ref xa, .ref xt, .ref xm, .ref wh, .ref st, .ref xb, .ref xc])), (xa, .inl (cI, 12, .inl (ax)))]) s.heap := hP
  have hR : va_P (dC, dI) vwCl ([(g, .inr (iX2, [.int (nI n), .ref xa, .ref xt, .ref xm, .ref wh, .ref st, .ref xb, .ref xc])), (xa, .inl (cI, 12, .inl (ax)))]) s.heap := hP
  have hP : va_P (dC, dI) vwCl [] s.heap := fun k q h => by simp at h
  have hD : va_D A [] := ⟨fun i j p q h => by simp at h, fun k q h => by simp at h⟩
  have hl := lv_entry ([.ref g, .int i, .int j]) (n := 3) (Nat.le_of_ble_eq_true rfl)
  rw [lg_entry_eq]
  generalize (lg_sl ([.ref g, .int i, .int j]) ++ List.replicate (3 - (lg_sl ([.ref g, .int i, .int j])).length) Slot.unset).toArray = ls at hl ⊢
  have hl : lv_has ls 3 [(0, .ref g), (1, .int i), (2, .int j)] := hl
  refine lv_aload_n hx hb dX2_areOnOneAxle_0 rfl (lv_at hl 0 rfl) ?_
  refine lv_iload_n hx hb dX2_areOnOneAxle_1 rfl (lv_at hl 1 rfl) ?_
  have hPc : va_P (dC, dI) vwCl ([(g, .inr (iX2, [.int (nI n), .ref xa, .ref xt, .ref xm, .ref wh, .ref st, .ref xb, .ref xc])), (xa, .inl (cI, 12, .inl (ax)))]) _ := hR.sub [0, 1] rfl
  have hFc := frZ hS hA
  refine va_calli (va_runV (As := [.int i]) (rest := []) ⟨hx, hb, hml, hown, hts⟩ (c_X2_axleOf l dC dI cI cF tr (s.heap).size g n xa xt xm wh st xb xc ax i) (cwV 1 hts gX2_areOnOneAxle_X2_axleOf rfl rfl rfl (by decide +kernel) ⟨Nat.le_of_ble_eq_true rfl, Nat.le_of_ble_eq_true rfl⟩) ⟨cBl, (va_recv hK hPc (ci := iX2) (q0 := 0) rfl rfl), (cPre hPc hK hN)⟩ rfl rfl hl.1 rfl (lv_room (Nat.le_of_ble_eq_true rfl)) dX2_areOnOneAxle_2 ⟨(Nat.le_of_ble_eq_true rfl), (Nat.le_of_ble_eq_true rfl)⟩) hS (fun q _ h => hFc q h) hFc (fun r_1 u t H1 locs ht hvm hw_r_1 hB hz1 hk1 hS => ?_)
  refine W.widen (k := 0) (n := 0) (Nat.le_refl _) (Nat.le_refl _) ?_
  have hP := keepP hP hk1
  have hR := keepP hR hk1
  generalize H1 = H at hP hR hS ⊢
  have hP : va_P (dC, dI) vwCl ([]) H := hP
  try dsimp only at hw_r_1
  subst hw_r_1
  refine lv_aload_n hx hb dX2_areOnOneAxle_5 rfl (lv_at hl 0 rfl) ?_
  refine lv_iload_n hx hb dX2_areOnOneAxle_6 rfl (lv_at hl 2 rfl) ?_
  have hPc : va_P (dC, dI) vwCl ([(g, .inr (iX2, [.int (nI n), .ref xa, .ref xt, .ref xm, .ref wh, .ref st, .ref xb, .ref xc])), (xa, .inl (cI, 12, .inl (ax)))]) _ := hR.sub [0, 1] rfl
  have hFc := frZ hS hA
  refine va_calli (va_runV (As := [.int j]) (rest := [.int (atF 12 ax i)]) ⟨hx, hb, hml, hown, hts⟩ (c_X2_axleOf l dC dI cI cF tr (H).size g n xa xt xm wh st xb xc ax j) (cwV 1 hts gX2_areOnOneAxle_X2_axleOf rfl rfl rfl (by decide +kernel) ⟨Nat.le_of_ble_eq_true rfl, Nat.le_of_ble_eq_true rfl⟩) ⟨cBl, (va_recv hK hPc (ci := iX2) (q0 := 0) rfl rfl), (cPre hPc hK hN)⟩ rfl rfl hl.1 rfl (lv_room (Nat.le_of_ble_eq_true rfl)) dX2_areOnOneAxle_7 ⟨(Nat.le_of_ble_eq_true rfl), (Nat.le_of_ble_eq_true rfl)⟩) hS (fun q _ h => hFc q h) hFc (fun r_2 u t H1 locs ht hvm hw_r_2 hB hz1 hk1 hS => ?_)
  refine W.widen (k := 0) (n := 0) (Nat.le_refl _) (Nat.le_refl _) ?_
  have hP := keepP hP hk1
  have hR := keepP hR hk1
  generalize H1 = H at hP hR hS ⊢
  have hP : va_P (dC, dI) vwCl ([]) H := hP
  try dsimp only at hw_r_2
  subst hw_r_2
  refine lv_icmp_ne (tgt := 17) hx hb dX2_areOnOneAxle_10 (by decide) (fun c_3 => ?_) (fun c_3 => ?_)
  · refine lv_iconst (v := 0) hx hb dX2_areOnOneAxle_17 (by decide) ?_
    refine W.widen (k := 0) (n := 0) (by omega) (by omega) ?_
    exact W.zret (v := 0) hx hb hr (by first | rfl | simp [narrow] | assumption) (fun t ht hW => ⟨⟨0, (), rfl, (by first | (simp [c_3]; done) | contradiction), trivial⟩, hS.F ht⟩) hS.2.2 dX2_areOnOneAxle_18
  · refine lv_iconst (v := 1) hx hb dX2_areOnOneAxle_13 (by decide) ?_
    refine lv_goto (tgt := 18) hx hb dX2_areOnOneAxle_14 (by decide) ?_
    refine W.widen (k := 0) (n := 0) (by omega) (by omega) ?_
    exact W.zret (v := 1) hx hb hr (by first | rfl | simp [narrow] | assumption) (fun t ht hW => ⟨⟨1, (), rfl, (by first | (simp [c_3]; done) | contradiction), trivial⟩, hS.F ht⟩) hS.2.2 dX2_areOnOneAxle_18

set_option maxHeartbeats 4000000 in
set_option maxRecDepth 100000 in
theorem c_X2_areMeshed (l : Launch) (dC : Nat → ClassId) (dI : Nat → Nat → Nat) (cI cF : ClassId) (tr : List (ClassId × FieldType)) (sz : Nat) (g : Nat) (n : Nat) (xa : Nat) (xt : Nat) (xm : Nat) (wh : Nat) (st : Nat) (xb : Nat) (xc : Nat) (me : Nat → Int32) (i : Int32) (j : Int32) : Met l yX2_areMeshed wsX2_areMeshed ({ frames := 2, cells := 0, slots := 0, locals := 42 } : Room) (cPc dC dI ((cI, .int) :: (cF, .object RX1) :: tr) sz ([(g, .inr (iX2, [.int (nI n), .ref xa, .ref xt, .ref xm, .ref wh, .ref st, .ref xb, .ref xc])), (xm, .inl (cI, 12, .inl (me)))]) [.ref g, .int i, .int j]) (va_Qi (fun (r : Int32) (_ : Unit) => r = isInF (atF 12 me i) j) (fun _ _ => True) (va_A ([]) sz)) 0 0 (va_A ([]) sz) := by
  refine Met.ofW (cc := cX2_areMeshed) (maxL := 3) (ret := (some .boolean)) (by decide) rfl ?_
  intro p e s m args below meth c s₁ B hml hv
  obtain ⟨rfl, hsz, hP, hK, hN⟩ := hv
  have hx := B.exec
  have hb := B.bytes
  have hr := B.returns
  have hts := atoms_spec (ws := wsX2_areMeshed) B.pre
  have hown : s.vm.findClass RX2 = some m.cls := findClass_of_methodNamed B.named
  have hlocks := B.notSynchronized
  subst hsz
  generalize hAe : va_A [] s.heap.size = A
  have hA : ∀ q : Nat, s.heap.size ≤ q → A q := fun q h => by rw [← hAe]; exact Or.inr h
  have hS : va_S A s.heap s.heap [] := va_S.rf
  have hAn : ∀ q : Nat, q < s.heap.size → ¬ A q := fun q h => by rw [← hAe]; exact notZ h
  have hAg : ∀ q : Nat, A q → s.heap.size ≤ q := fun q h => geZ (hAe ▸ h)
  have hR0 : va_P (dC, dI) vwCl ([(g, .inr (iX2, [.int (nI n), .ref xa, .ref xt, .ref xm, .ref wh, .ref st, .ref xb, .ref xc])), (xm, .inl (cI, 12, .inl (me)))]) s.heap := hP
  have hR : va_P (dC, dI) vwCl ([(g, .inr (iX2, [.int (nI n), .ref xa, .ref xt, .ref xm, .ref wh, .ref st, .ref xb, .ref xc])), (xm, .inl (cI, 12, .inl (me)))]) s.heap := hP
  have hP : va_P (dC, dI) vwCl [] s.heap := fun k q h => by simp at h
  have hD : va_D A [] := ⟨fun i j p q h => by simp at h, fun k q h => by simp at h⟩
  have hl := lv_entry ([.ref g, .int i, .int j]) (n := 3) (Nat.le_of_ble_eq_true rfl)
  rw [lg_entry_eq]
  generalize (lg_sl ([.ref g, .int i, .int j]) ++ List.replicate (3 - (lg_sl ([.ref g, .int i, .int j])).length) Slot.unset).toArray = ls at hl ⊢
  have hl : lv_has ls 3 [(0, .ref g), (1, .int i), (2, .int j)] := hl
  have hw_iniX5 := hts (.initialized RX5) (by decide +kernel)
  have hw_staX5_isIn := hts (.static yX5_isIn) (by decide +kernel)
  refine lv_aload_n hx hb dX2_areMeshed_0 rfl (lv_at hl 0 rfl) ?_
  refine lv_iload_n hx hb dX2_areMeshed_1 rfl (lv_at hl 1 rfl) ?_
  have hPc : va_P (dC, dI) vwCl ([(g, .inr (iX2, [.int (nI n), .ref xa, .ref xt, .ref xm, .ref wh, .ref st, .ref xb, .ref xc])), (xm, .inl (cI, 12, .inl (me)))]) _ := hR.sub [0, 1] rfl
  have hFc := frZ hS hA
  refine va_calli (va_runV (As := [.int i]) (rest := []) ⟨hx, hb, hml, hown, hts⟩ (c_X2_meshedWith l dC dI cI cF tr (s.heap).size g n xa xt xm wh st xb xc me i) (cwV 1 hts gX2_areMeshed_X2_meshedWith rfl rfl rfl (by decide +kernel) ⟨Nat.le_of_ble_eq_true rfl, Nat.le_of_ble_eq_true rfl⟩) ⟨cBl, (va_recv hK hPc (ci := iX2) (q0 := 0) rfl rfl), (cPre hPc hK hN)⟩ rfl rfl hl.1 rfl (lv_room (Nat.le_of_ble_eq_true rfl)) dX2_areMeshed_2 ⟨(Nat.le_of_ble_eq_true rfl), (Nat.le_of_ble_eq_true rfl)⟩) hS (fun q _ h => hFc q h) hFc (fun r_1 u t H1 locs ht hvm hw_r_1 hB hz1 hk1 hS => ?_)
  refine W.widen (k := 0) (n := 0) (Nat.le_refl _) (Nat.le_refl _) ?_
  have hP := keepP hP hk1
  have hR := keepP hR hk1
  generalize H1 = H at hP hR hS ⊢
  have hP : va_P (dC, dI) vwCl ([]) H := hP
  try dsimp only at hw_r_1
  subst hw_r_1
  refine lv_iload_n hx hb dX2_areMeshed_5 rfl (lv_at hl 2 rfl) ?_
  have hPc : va_P (dC, dI) vwCl [] H := nilP
  have hFc := frZ hS hA
  refine va_calli (va_runSN (host := RX5) (As := [.int (atF 12 me i), .int j]) (rest := []) ⟨hx, hb, hml, hown, hts⟩ (c_X5_isIn l dC dI cI cF tr (H).size (atF 12 me i) j) ⟨va_cnB 2 hts gX2_areMeshed_X5_isIn_n63 rfl rfl rfl (nwAt hN (RX2, 63, yX5_isIn) (by decide +kernel)) hw_iniX5 (by decide +kernel) ⟨Nat.le_of_ble_eq_true rfl, Nat.le_of_ble_eq_true rfl⟩, hw_staX5_isIn, trivial⟩ ⟨cBl, (cPre hPc hK hN)⟩ rfl rfl hl.1 rfl (lv_room (Nat.le_of_ble_eq_true rfl)) dX2_areMeshed_6 ⟨(Nat.le_of_ble_eq_true rfl), (Nat.le_of_ble_eq_true rfl)⟩) hS (fun q _ h => hFc q h) hFc (fun r_2 u t H1 locs ht hvm hw_r_2 hB hz1 hk1 hS => ?_)
  refine W.widen (k := 0) (n := 0) (Nat.le_refl _) (Nat.le_refl _) ?_
  have hP := keepP hP hk1
  have hR := keepP hR hk1
  generalize H1 = H at hP hR hS ⊢
  have hP : va_P (dC, dI) vwCl ([]) H := hP
  try dsimp only at hw_r_2
  subst hw_r_2
  refine W.widen (k := 0) (n := 0) (by omega) (by omega) ?_
  exact W.zret (v := isInF (atF 12 me i) j) hx hb hr (isInF_01 _ _) (fun t ht hW => ⟨⟨isInF (atF 12 me i) j, (), rfl, (by first | (simp []; done) | contradiction), trivial⟩, hS.F ht⟩) hS.2.2 dX2_areMeshed_9

set_option maxHeartbeats 4000000 in
set_option maxRecDepth 100000 in
theorem c_X2_rateIn (l : Launch) (dC : Nat → ClassId) (dI : Nat → Nat → Nat) (cI cF : ClassId) (tr : List (ClassId × FieldType)) (sz : Nat) (h : Nat) (f : Nat → Option Nat) (i : Int32) : Met l yX2_rateIn wsX2_rateIn ({ frames := 0, cells := 0, slots := 0, locals := 0 } : Room) (cPc dC dI ((cI, .int) :: (cF, .object RX1) :: tr) sz ([(h, .inl (cF, 7, .inr (.inr (.inr (.inr (f))))))]) [.ref h, .int i]) (va_Qq (fun (r : Option Nat) (_ : Unit) => r = rinF 7 f i) (fun _ _ => True) (va_A ([]) sz)) 0 0 (va_A ([]) sz) := by
  refine Met.ofW (cc := cX2_rateIn) (maxL := 2) (ret := (some (.object "Greenwheels$Fraction"))) (by decide) rfl ?_
  intro p e s m args below meth c s₁ B hml hv
  obtain ⟨rfl, hsz, hP, hK, hN⟩ := hv
  have hx := B.exec
  have hb := B.bytes
  have hr := B.returns
  have hts := atoms_spec (ws := wsX2_rateIn) B.pre
  have hown : s.vm.findClass RX2 = some m.cls := findClass_of_methodNamed B.named
  have hlocks := B.notSynchronized
  subst hsz
  generalize hAe : va_A [] s.heap.size = A
  have hA : ∀ q : Nat, s.heap.size ≤ q → A q := fun q h => by rw [← hAe]; exact Or.inr h
  have hS : va_S A s.heap s.heap [] := va_S.rf
  have hAn : ∀ q : Nat, q < s.heap.size → ¬ A q := fun q h => by rw [← hAe]; exact notZ h
  have hAg : ∀ q : Nat, A q → s.heap.size ≤ q := fun q h => geZ (hAe ▸ h)
  have hR0 : va_P (dC, dI) vwCl ([(h, .inl (cF, 7, .inr (.inr (.inr (.inr (f))))))]) s.heap := hP
  have hR : va_P (dC, dI) vwCl ([(h, .inl (cF, 7, .inr (.inr (.inr (.inr (f))))))]) s.heap := hP
  have hP : va_P (dC, dI) vwCl [] s.heap := fun k q h => by simp at h
  have hD : va_D A [] := ⟨fun i j p q h => by simp at h, fun k q h => by simp at h⟩
  have hl := lv_entry ([.ref h, .int i]) (n := 2) (Nat.le_of_ble_eq_true rfl)
  rw [lg_entry_eq]
  generalize (lg_sl ([.ref h, .int i]) ++ List.replicate (2 - (lg_sl ([.ref h, .int i])).length) Slot.unset).toArray = ls at hl ⊢
  have hl : lv_has ls 2 [(0, .ref h), (1, .int i)] := hl
  refine lv_iload_n hx hb dX2_rateIn_0 rfl (lv_at hl 1 rfl) ?_
  refine lv_if_lt (tgt := 16) hx hb dX2_rateIn_1 (by decide) (fun c_1 => ?_) (fun c_1 => ?_)
  · refine lv_null hx hb dX2_rateIn_16 ?_
    refine W.widen (k := 0) (n := 0) (by omega) (by omega) ?_
    exact W.aret (v := .null) hx hb hr (Or.inl ⟨_, rfl⟩) (Or.inl rfl) (fun t ht hW => ⟨⟨none, (), rfl, (by first | (simp [rinF, c_1]; done) | contradiction), trivial⟩, hS.F ht⟩) hS.2.2 dX2_rateIn_17
  · refine lv_iload_n hx hb dX2_rateIn_4 rfl (lv_at hl 1 rfl) ?_
    refine lv_aload_n hx hb dX2_rateIn_5 rfl (lv_at hl 0 rfl) ?_
    refine va_alen (D := (dC, dI)) (v := nI 7) hx hb hK hR 0 1 rfl rfl rfl dX2_rateIn_6 ?_
    refine lv_icmp_ge (tgt := 16) hx hb dX2_rateIn_7 (by decide) (fun c_2 => ?_) (fun c_2 => ?_)
    · refine lv_null hx hb dX2_rateIn_16 ?_
      refine W.widen (k := 0) (n := 0) (by omega) (by omega) ?_
      exact W.aret (v := .null) hx hb hr (Or.inl ⟨_, rfl⟩) (Or.inl rfl) (fun t ht hW => ⟨⟨none, (), rfl, (by first | (simp [rinF, c_1, c_2]; done) | contradiction), trivial⟩, hS.F ht⟩) hS.2.2 dX2_rateIn_17
    · refine lv_aload_n hx hb dX2_rateIn_10 rfl (lv_at hl 0 rfl) ?_
      refine lv_iload_n hx hb dX2_rateIn_11 rfl (lv_at hl 1 rfl) ?_
      refine va_aldq (D := (dC, dI)) hx hb hK hR 0 1 rfl rfl (vpin_of (by decide) c_1 c_2) dX2_rateIn_12 ?_
      refine lv_goto (tgt := 17) hx hb dX2_rateIn_13 (by decide) ?_
      refine W.widen (k := 0) (n := 0) (by omega) (by omega) ?_
      exact W.aret (v := va_rf (f (i).toNatClampNeg)) hx hb hr (Or.inl ⟨_, rfl⟩) (rfOr _) (fun t ht hW => ⟨⟨f (i).toNatClampNeg, (), rfl, (by first | (simp [rinF, c_1, c_2]; done) | contradiction), trivial⟩, hS.F ht⟩) hS.2.2 dX2_rateIn_17

set_option maxHeartbeats 4000000 in
set_option maxRecDepth 100000 in
theorem c_X2_isMoved (l : Launch) (dC : Nat → ClassId) (dI : Nat → Nat → Nat) (cI cF : ClassId) (tr : List (ClassId × FieldType)) (sz : Nat) (g : Nat) (n : Nat) (xa : Nat) (xt : Nat) (xm : Nat) (wh : Nat) (st : Nat) (xb : Nat) (xc : Nat) (bc : Nat → Option Nat) (i : Int32) : Met l yX2_isMoved wsX2_isMoved ({ frames := 1, cells := 0, slots := 0, locals := 21 } : Room) (cPc dC dI ((cI, .int) :: (cF, .object RX1) :: tr) sz ([(g, .inr (iX2, [.int (nI n), .ref xa, .ref xt, .ref xm, .ref wh, .ref st, .ref xb, .ref xc])), (xb, .inl (cF, 7, .inr (.inr (.inr (.inr (bc))))))]) [.ref g, .int i]) (va_Qi (fun (r : Int32) (_ : Unit) => r = if rinF 7 bc i = none then 0 else 1) (fun _ _ => True) (va_A ([]) sz)) 0 0 (va_A ([]) sz) := by
  refine Met.ofW (cc := cX2_isMoved) (maxL := 2) (ret := (some .boolean)) (by decide) rfl ?_
  intro p e s m args below meth c s₁ B hml hv
  obtain ⟨rfl, hsz, hP, hK, hN⟩ := hv
  have hx := B.exec
  have hb := B.bytes
  have hr := B.returns
  have hts := atoms_spec (ws := wsX2_isMoved) B.pre
  have hown : s.vm.findClass RX2 = some m.cls := findClass_of_methodNamed B.named
  have hlocks := B.notSynchronized
  subst hsz
  generalize hAe : va_A [] s.heap.size = A
  have hA : ∀ q : Nat, s.heap.size ≤ q → A q := fun q h => by rw [← hAe]; exact Or.inr h
  have hS : va_S A s.heap s.heap [] := va_S.rf
  have hAn : ∀ q : Nat, q < s.heap.size → ¬ A q := fun q h => by rw [← hAe]; exact notZ h
  have hAg : ∀ q : Nat, A q → s.heap.size ≤ q := fun q h => geZ (hAe ▸ h)
  have hR0 : va_P (dC, dI) vwCl ([(g, .inr (iX2, [.int (nI n), .ref xa, .ref xt, .ref xm, .ref wh, .ref st, .ref xb, .ref xc])), (xb, .inl (cF, 7, .inr (.inr (.inr (.inr (bc))))))]) s.heap := hP
  have hR : va_P (dC, dI) vwCl ([(g, .inr (iX2, [.int (nI n), .ref xa, .ref xt, .ref xm, .ref wh, .ref st, .ref xb, .ref xc])), (xb, .inl (cF, 7, .inr (.inr (.inr (.inr (bc))))))]) s.heap := hP
  have hP : va_P (dC, dI) vwCl [] s.heap := fun k q h => by simp at h
  have hD : va_D A [] := ⟨fun i j p q h => by simp at h, fun k q h => by simp at h⟩
  have hl := lv_entry ([.ref g, .int i]) (n := 2) (Nat.le_of_ble_eq_true rfl)
  rw [lg_entry_eq]
  generalize (lg_sl ([.ref g, .int i]) ++ List.replicate (2 - (lg_sl ([.ref g, .int i])).length) Slot.unset).toArray = ls at hl ⊢
  have hl : lv_has ls 2 [(0, .ref g), (1, .int i)] := hl
  have hfl_33 := hts (.fieldLink RX2 33 "Greenwheels$Gearing" "byCrank" "[LGreenwheels$Fraction;") (by decide +kernel)
  have hin_X2 : ∀ w ∈ u_ws RX2 TX2 8, w ∈ wsX2_isMoved := by decide +kernel
  refine lv_aload_n hx hb dX2_isMoved_0 rfl (lv_at hl 0 rfl) ?_
  refine va_get (D := (dC, dI)) (ci := iX2) (v := .ref xb) (C := RX2) (T := TX2) (N := 8) hx hb hts hin_X2 hown hK hR 0 rfl rfl 6 (by decide) hfl_33 (fun _ h9 => h9) rfl dX2_isMoved_1 ?_
  refine lv_iload_n hx hb dX2_isMoved_4 rfl (lv_at hl 1 rfl) ?_
  have hPc : va_P (dC, dI) vwCl ([(xb, .inl (cF, 7, .inr (.inr (.inr (.inr (bc))))))]) _ := hR.sub [1] rfl
  have hFc := frZ hS hA
  refine va_callq (va_runS (As := [.ref xb, .int i]) (rest := []) ⟨hx, hb, hml, hown, hts⟩ (c_X2_rateIn l dC dI cI cF tr (s.heap).size xb bc i) (va_cwS 2 hts gX2_isMoved_X2_rateIn rfl rfl rfl (by decide +kernel) ⟨Nat.le_of_ble_eq_true rfl, Nat.le_of_ble_eq_true rfl⟩) ⟨cBl, (cPre hPc hK hN)⟩ rfl rfl hl.1 rfl (lv_room (Nat.le_of_ble_eq_true rfl)) dX2_isMoved_5 ⟨(Nat.le_of_ble_eq_true rfl), (Nat.le_of_ble_eq_true rfl)⟩) hS (fun q _ h => hFc q h) hFc (fun r_1 u t H1 locs ht hvm hw_r_1 hB hz1 hk1 hS => ?_)
  refine W.widen (k := 0) (n := 0) (Nat.le_refl _) (Nat.le_refl _) ?_
  have hP := keepP hP hk1
  have hR := keepP hR hk1
  generalize H1 = H at hP hR hS ⊢
  have hP : va_P (dC, dI) vwCl ([]) H := hP
  try dsimp only at hw_r_1
  subst hw_r_1
  rcases hq_3 : rinF 7 bc i with _ | a_2
  · refine lv_ifnullN (tgt := 15) hx hb dX2_isMoved_8 (by decide) ?_
    refine lv_iconst (v := 0) hx hb dX2_isMoved_15 (by decide) ?_
    refine W.widen (k := 0) (n := 0) (by omega) (by omega) ?_
    exact W.zret (v := 0) hx hb hr (by first | rfl | simp [narrow] | assumption) (fun t ht hW => ⟨⟨0, (), rfl, (by first | (simp [hq_3]; done) | contradiction), trivial⟩, hS.F ht⟩) hS.2.2 dX2_isMoved_16
  · refine lv_ifnull hx hb dX2_isMoved_8 ?_
    refine lv_iconst (v := 1) hx hb dX2_isMoved_11 (by decide) ?_
    refine lv_goto (tgt := 16) hx hb dX2_isMoved_12 (by decide) ?_
    refine W.widen (k := 0) (n := 0) (by omega) (by omega) ?_
    exact W.zret (v := 1) hx hb hr (by first | rfl | simp [narrow] | assumption) (fun t ht hW => ⟨⟨1, (), rfl, (by first | (simp [hq_3]; done) | contradiction), trivial⟩, hS.F ht⟩) hS.2.2 dX2_isMoved_16

set_option maxHeartbeats 4000000 in
set_option maxRecDepth 100000 in
theorem c_X2_rateOf (l : Launch) (dC : Nat → ClassId) (dI : Nat → Nat → Nat) (cI cF : ClassId) (tr : List (ClassId × FieldType)) (sz : Nat) (g : Nat) (n : Nat) (xa : Nat) (xt : Nat) (xm : Nat) (wh : Nat) (st : Nat) (xb : Nat) (xc : Nat) (bc : Nat → Option Nat) (i : Int32) : Met l yX2_rateOf wsX2_rateOf ({ frames := 1, cells := 0, slots := 0, locals := 21 } : Room) (cPc dC dI ((cI, .int) :: (cF, .object RX1) :: tr) sz ([(g, .inr (iX2, [.int (nI n), .ref xa, .ref xt, .ref xm, .ref wh, .ref st, .ref xb, .ref xc])), (xb, .inl (cF, 7, .inr (.inr (.inr (.inr (bc))))))]) [.ref g, .int i]) (va_Qr (fun _ : Unit => True) (fun _ a _ => a = rtA st bc i) (va_A ([]) sz)) 0 0 (va_A ([]) sz) := by
  refine Met.ofW (cc := cX2_rateOf) (maxL := 3) (ret := (some (.object "Greenwheels$Fraction"))) (by decide) rfl ?_
  intro p e s m args below meth c s₁ B hml hv
  obtain ⟨rfl, hsz, hP, hK, hN⟩ := hv
  have hx := B.exec
  have hb := B.bytes
  have hr := B.returns
  have hts := atoms_spec (ws := wsX2_rateOf) B.pre
  have hown : s.vm.findClass RX2 = some m.cls := findClass_of_methodNamed B.named
  have hlocks := B.notSynchronized
  subst hsz
  generalize hAe : va_A [] s.heap.size = A
  have hA : ∀ q : Nat, s.heap.size ≤ q → A q := fun q h => by rw [← hAe]; exact Or.inr h
  have hS : va_S A s.heap s.heap [] := va_S.rf
  have hAn : ∀ q : Nat, q < s.heap.size → ¬ A q := fun q h => by rw [← hAe]; exact notZ h
  have hAg : ∀ q : Nat, A q → s.heap.size ≤ q := fun q h => geZ (hAe ▸ h)
  have hR0 : va_P (dC, dI) vwCl ([(g, .inr (iX2, [.int (nI n), .ref xa, .ref xt, .ref xm, .ref wh, .ref st, .ref xb, .ref xc])), (xb, .inl (cF, 7, .inr (.inr (.inr (.inr (bc))))))]) s.heap := hP
  have hR : va_P (dC, dI) vwCl ([(g, .inr (iX2, [.int (nI n), .ref xa, .ref xt, .ref xm, .ref wh, .ref st, .ref xb, .ref xc])), (xb, .inl (cF, 7, .inr (.inr (.inr (.inr (bc))))))]) s.heap := hP
  have hP : va_P (dC, dI) vwCl [] s.heap := fun k q h => by simp at h
  have hD : va_D A [] := ⟨fun i j p q h => by simp at h, fun k q h => by simp at h⟩
  have hl := lv_entry ([.ref g, .int i]) (n := 3) (Nat.le_of_ble_eq_true rfl)
  rw [lg_entry_eq]
  generalize (lg_sl ([.ref g, .int i]) ++ List.replicate (3 - (lg_sl ([.ref g, .int i])).length) Slot.unset).toArray = ls at hl ⊢
  have hl : lv_has ls 3 [(0, .ref g), (1, .int i)] := hl
  have hfl_33 := hts (.fieldLink RX2 33 "Greenwheels$Gearing" "byCrank" "[LGreenwheels$Fraction;") (by decide +kernel)
  have hin_X2 : ∀ w ∈ u_ws RX2 TX2 8, w ∈ wsX2_rateOf := by decide +kernel
  have hfl_30 := hts (.fieldLink RX2 30 "Greenwheels$Gearing" "still" "LGreenwheels$Fraction;") (by decide +kernel)
  refine lv_aload_n hx hb dX2_rateOf_0 rfl (lv_at hl 0 rfl) ?_
  refine va_get (D := (dC, dI)) (ci := iX2) (v := .ref xb) (C := RX2) (T := TX2) (N := 8) hx hb hts hin_X2 hown hK hR 0 rfl rfl 6 (by decide) hfl_33 (fun _ h9 => h9) rfl dX2_rateOf_1 ?_
  refine lv_iload_n hx hb dX2_rateOf_4 rfl (lv_at hl 1 rfl) ?_
  have hPc : va_P (dC, dI) vwCl ([(xb, .inl (cF, 7, .inr (.inr (.inr (.inr (bc))))))]) _ := hR.sub [1] rfl
  have hFc := frZ hS hA
  refine va_callq (va_runS (As := [.ref xb, .int i]) (rest := []) ⟨hx, hb, hml, hown, hts⟩ (c_X2_rateIn l dC dI cI cF tr (s.heap).size xb bc i) (va_cwS 2 hts gX2_rateOf_X2_rateIn rfl rfl rfl (by decide +kernel) ⟨Nat.le_of_ble_eq_true rfl, Nat.le_of_ble_eq_true rfl⟩) ⟨cBl, (cPre hPc hK hN)⟩ rfl rfl hl.1 rfl (lv_room (Nat.le_of_ble_eq_true rfl)) dX2_rateOf_5 ⟨(Nat.le_of_ble_eq_true rfl), (Nat.le_of_ble_eq_true rfl)⟩) hS (fun q _ h => hFc q h) hFc (fun r_1 u t H1 locs ht hvm hw_r_1 hB hz1 hk1 hS => ?_)
  refine W.widen (k := 0) (n := 0) (Nat.le_refl _) (Nat.le_refl _) ?_
  have hP := keepP hP hk1
  have hR := keepP hR hk1
  generalize H1 = H at hP hR hS ⊢
  have hP : va_P (dC, dI) vwCl ([]) H := hP
  try dsimp only at hw_r_1
  subst hw_r_1
  rcases hq_3 : rinF 7 bc i with _ | a_2
  · refine W.eq (g2 := F0 m 8 ls [.null]) rfl ?_
    refine lv_astore_nN (lv' := [(2, .null), (0, .ref g), (1, .int i)]) hx hb dX2_rateOf_8 rfl hl (by decide) rfl (fun ls hl => ?_)
    refine lv_aload_nN hx hb dX2_rateOf_9 rfl (lv_at hl 0 rfl) ?_
    refine lv_ifnonnullN hx hb dX2_rateOf_10 ?_
    refine lv_aload_n hx hb dX2_rateOf_13 rfl (lv_at hl 1 rfl) ?_
    refine va_get (D := (dC, dI)) (ci := iX2) (v := .ref st) (C := RX2) (T := TX2) (N := 8) hx hb hts hin_X2 hown hK hR 0 rfl rfl 5 (by decide) hfl_30 (fun _ h9 => h9) rfl dX2_rateOf_14 ?_
    refine lv_goto (tgt := 21) hx hb dX2_rateOf_17 (by decide) ?_
    refine W.widen (k := 0) (n := 0) (by omega) (by omega) ?_
    exact W.aret (v := .ref st) hx hb hr (Or.inl ⟨_, rfl⟩) (Or.inr ⟨_, rfl⟩) (fun t ht hW => ⟨⟨(), st, rfl, trivial, (by first | rfl | (simp [rtA, hq_3]; done))⟩, hS.F ht⟩) hS.2.2 dX2_rateOf_21
  · refine W.eq (g2 := F0 m 8 ls [.ref a_2]) rfl ?_
    refine lv_astore_n (lv' := [(2, .ref a_2), (0, .ref g), (1, .int i)]) hx hb dX2_rateOf_8 rfl hl (by decide) rfl (fun ls hl => ?_)
    refine lv_aload_n hx hb dX2_rateOf_9 rfl (lv_at hl 0 rfl) ?_
    refine lv_ifnonnull (tgt := 20) hx hb dX2_rateOf_10 (by decide) ?_
    refine lv_aload_n hx hb dX2_rateOf_20 rfl (lv_at hl 0 rfl) ?_
    refine W.widen (k := 0) (n := 0) (by omega) (by omega) ?_
    exact W.aret (v := .ref a_2) hx hb hr (Or.inl ⟨_, rfl⟩) (Or.inr ⟨_, rfl⟩) (fun t ht hW => ⟨⟨(), a_2, rfl, trivial, (by first | rfl | (simp [rtA, hq_3]; done))⟩, hS.F ht⟩) hS.2.2 dX2_rateOf_21

set_option maxHeartbeats 4000000 in
set_option maxRecDepth 100000 in
theorem c_X2_turnedAt (l : Launch) (dC : Nat → ClassId) (dI : Nat → Nat → Nat) (cI cF : ClassId) (tr : List (ClassId × FieldType)) (sz : Nat) (g : Nat) (n : Nat) (xa : Nat) (xt : Nat) (xm : Nat) (wh : Nat) (st : Nat) (xb : Nat) (xc : Nat) (bc : Nat → Option Nat) (LP : List Nat) (v : Nat → Int64 × Int64) (i : Int32) (j : Int32) (hst : st ∈ LP) (hbc : ∀ k, k < 7 → ∀ a, bc k = some a → a ∈ LP) : Met l yX2_turnedAt wsX2_turnedAt ({ frames := 3, cells := 1, slots := 2, locals := 80 } : Room) (cPc dC dI ((cI, .int) :: (cF, .object RX1) :: tr) sz ([(g, .inr (iX2, [.int (nI n), .ref xa, .ref xt, .ref xm, .ref wh, .ref st, .ref xb, .ref xc])), (xb, .inl (cF, 7, .inr (.inr (.inr (.inr (bc))))))] ++ va_pl LP (fe v)) [.ref g, .int i, .int j]) (va_Qr (fun _ : Unit => True) (fun _ a t => va_P (dC, dI) vwCl [(a, .inr (iX1, [.long (frU ((v (rtA st bc i)).1 * j.toInt64) ((v (rtA st bc i)).2 * 1)), .long (frL ((v (rtA st bc i)).1 * j.toInt64) ((v (rtA st bc i)).2 * 1))]))] t.heap ∧ sz ≤ a) (va_A ([]) sz)) 1 2 (va_A ([]) sz) := by
  refine Met.ofW (cc := cX2_turnedAt) (maxL := 3) (ret := (some (.object "Greenwheels$Fraction"))) (by decide) rfl ?_
  intro p e s m args below meth c s₁ B hml hv
  obtain ⟨rfl, hsz, hP, hK, hN⟩ := hv
  have hx := B.exec
  have hb := B.bytes
  have hr := B.returns
  have hts := atoms_spec (ws := wsX2_turnedAt) B.pre
  have hown : s.vm.findClass RX2 = some m.cls := findClass_of_methodNamed B.named
  have hlocks := B.notSynchronized
  subst hsz
  generalize hAe : va_A [] s.heap.size = A
  have hA : ∀ q : Nat, s.heap.size ≤ q → A q := fun q h => by rw [← hAe]; exact Or.inr h
  have hS : va_S A s.heap s.heap [] := va_S.rf
  have hAn : ∀ q : Nat, q < s.heap.size → ¬ A q := fun q h => by rw [← hAe]; exact notZ h
  have hAg : ∀ q : Nat, A q → s.heap.size ≤ q := fun q h => geZ (hAe ▸ h)
  have hR0 : va_P (dC, dI) vwCl ([(g, .inr (iX2, [.int (nI n), .ref xa, .ref xt, .ref xm, .ref wh, .ref st, .ref xb, .ref xc])), (xb, .inl (cF, 7, .inr (.inr (.inr (.inr (bc))))))] ++ va_pl LP (fe v)) s.heap := hP
  have hR : va_P (dC, dI) vwCl ([(g, .inr (iX2, [.int (nI n), .ref xa, .ref xt, .ref xm, .ref wh, .ref st, .ref xb, .ref xc])), (xb, .inl (cF, 7, .inr (.inr (.inr (.inr (bc))))))] ++ va_pl LP (fe v)) s.heap := hP
  have hP : va_P (dC, dI) vwCl [] s.heap := fun k q h => by simp at h
  have hD : va_D A [] := ⟨fun i j p q h => by simp at h, fun k q h => by simp at h⟩
  have hl := lv_entry ([.ref g, .int i, .int j]) (n := 3) (Nat.le_of_ble_eq_true rfl)
  rw [lg_entry_eq]
  generalize (lg_sl ([.ref g, .int i, .int j]) ++ List.replicate (3 - (lg_sl ([.ref g, .int i, .int j])).length) Slot.unset).toArray = ls at hl ⊢
  have hl : lv_has ls 3 [(0, .ref g), (1, .int i), (2, .int j)] := hl
  refine lv_aload_n hx hb dX2_turnedAt_0 rfl (lv_at hl 0 rfl) ?_
  refine lv_iload_n hx hb dX2_turnedAt_1 rfl (lv_at hl 1 rfl) ?_
  have hPc : va_P (dC, dI) vwCl ([(g, .inr (iX2, [.int (nI n), .ref xa, .ref xt, .ref xm, .ref wh, .ref st, .ref xb, .ref xc])), (xb, .inl (cF, 7, .inr (.inr (.inr (.inr (bc))))))]) _ := hR.sub [0, 1] rfl
  have hFc := frZ hS hA
  refine va_callr (va_runV (As := [.int i]) (rest := []) ⟨hx, hb, hml, hown, hts⟩ (c_X2_rateOf l dC dI cI cF tr (s.heap).size g n xa xt xm wh st xb xc bc i) (cwV 1 hts gX2_turnedAt_X2_rateOf rfl rfl rfl (by decide +kernel) ⟨Nat.le_of_ble_eq_true rfl, Nat.le_of_ble_eq_true rfl⟩) ⟨cBl, (va_recv hK hPc (ci := iX2) (q0 := 0) rfl rfl), (cPre hPc hK hN)⟩ rfl rfl hl.1 rfl (lv_room (Nat.le_of_ble_eq_true rfl)) dX2_turnedAt_2 ⟨(Nat.le_of_ble_eq_true rfl), (Nat.le_of_ble_eq_true rfl)⟩) hS (fun q _ h => hFc q h) hFc (fun u r_1 t H1 locs ht hvm hw_r_1 hB hz1 hk1 hS => ?_)
  refine W.widen (k := 0) (n := 0) (Nat.le_refl _) (Nat.le_refl _) ?_
  have hP := keepP hP hk1
  have hR := keepP hR hk1
  generalize H1 = H at hP hR hS ⊢
  have hP : va_P (dC, dI) vwCl ([]) H := hP
  try dsimp only at hB
  subst hB
  refine lv_iload_n hx hb dX2_turnedAt_5 rfl (lv_at hl 2 rfl) ?_
  refine lv_i2l hx hb dX2_turnedAt_6 rfl ?_
  refine lv_lconst (v := 1) hx hb dX2_turnedAt_7 (by decide) ?_
  have hPc : va_P (dC, dI) vwCl ([(rtA st bc i, .inr (iX1, [.long ((v (rtA st bc i)).1), .long ((v (rtA st bc i)).2)]))]) _ := poolP hR (rtA_mem hst hbc i)
  have hFc := frZ hS hA
  have hz0 := hS.1
  refine va_callr (va_runV (As := [.long (j.toInt64), .long 1]) (rest := []) ⟨hx, hb, hml, hown, hts⟩ (c_X1_times l dC dI cI cF tr (H).size (rtA st bc i) ((v (rtA st bc i)).1) ((v (rtA st bc i)).2) j.toInt64 1) (cwV 2 hts gX2_turnedAt_X1_times rfl rfl rfl (by decide +kernel) ⟨Nat.le_of_ble_eq_true rfl, Nat.le_of_ble_eq_true rfl⟩) ⟨cBl, (va_recv hK hPc (ci := iX1) (q0 := 0) rfl rfl), (cPre hPc hK hN)⟩ rfl rfl hl.1 rfl (lv_room (Nat.le_of_ble_eq_true rfl)) dX2_turnedAt_8 ⟨(Nat.le_of_ble_eq_true rfl), (Nat.le_of_ble_eq_true rfl)⟩) hS (fun q _ h => hFc q h) hFc (fun u r_2 t H1 locs ht hvm hw_r_2 hB hz1 hk1 hS => ?_)
  refine W.widen (k := 1) (n := 2) (by omega) (by omega) ?_
  have hP := keepP hP hk1
  have hR := keepP hR hk1
  obtain ⟨hB, hBn⟩ := hB
  rw [ht] at hB
  have hGe_r_2 : s.heap.size ≤ r_2 := Nat.le_trans hz0 hBn
  have hT : va_P (dC, dI) vwCl ([(r_2, .inr (iX1, [.long (frU (((v (rtA st bc i)).1) * j.toInt64) (((v (rtA st bc i)).2) * 1)), .long (frL (((v (rtA st bc i)).1) * j.toInt64) (((v (rtA st bc i)).2) * 1))]))]) H1 := hB
  generalize H1 = H at hP hR hT hS ⊢
  have hP : va_P (dC, dI) vwCl ([]) H := hP
  try dsimp only at hw_r_2
  refine W.widen (k := 1) (n := 2) (by omega) (by omega) ?_
  have eq_3 : ([(r_2, .inr (iX1, [.long (frU (((v (rtA st bc i)).1) * j.toInt64) (((v (rtA st bc i)).2) * 1)), .long (frL (((v (rtA st bc i)).1) * j.toInt64) (((v (rtA st bc i)).2) * 1))]))] : va_W) = [(r_2, .inr (iX1, [.long (frU ((v (rtA st bc i)).1 * j.toInt64) ((v (rtA st bc i)).2 * 1)), .long (frL ((v (rtA st bc i)).1 * j.toInt64) ((v (rtA st bc i)).2 * 1))]))] := (by simp [])
  exact W.aret (v := .ref r_2) hx hb hr (Or.inl ⟨_, rfl⟩) (Or.inr ⟨_, rfl⟩) (fun t ht hW => ⟨⟨(), r_2, rfl, trivial, (by show va_P (dC, dI) vwCl ([(r_2, .inr (iX1, [.long (frU ((v (rtA st bc i)).1 * j.toInt64) ((v (rtA st bc i)).2 * 1)), .long (frL ((v (rtA st bc i)).1 * j.toInt64) ((v (rtA st bc i)).2 * 1))]))]) t.heap; rw [ht]; exact eq_3 ▸ (hT.sub (ws' := [(r_2, .inr (iX1, [.long (frU (((v (rtA st bc i)).1) * j.toInt64) (((v (rtA st bc i)).2) * 1)), .long (frL (((v (rtA st bc i)).1) * j.toInt64) (((v (rtA st bc i)).2) * 1))]))]) [0] rfl)), hGe_r_2⟩, hS.F ht⟩) hS.2.2 dX2_turnedAt_11

set_option maxHeartbeats 4000000 in
set_option maxRecDepth 100000 in
theorem c_X2_countMeshes (l : Launch) (dC : Nat → ClassId) (dI : Nat → Nat → Nat) (cI cF : ClassId) (tr : List (ClassId × FieldType)) (sz : Nat) (g : Nat) (n : Nat) (xa : Nat) (xt : Nat) (xm : Nat) (wh : Nat) (st : Nat) (xb : Nat) (xc : Nat) (me : Nat → Int32) (hn : n ≤ 12) : Met l yX2_countMeshes wsX2_countMeshes ({ frames := 2, cells := 0, slots := 0, locals := 42 } : Room) (cPc dC dI ((cI, .int) :: (cF, .object RX1) :: tr) sz ([(g, .inr (iX2, [.int (nI n), .ref xa, .ref xt, .ref xm, .ref wh, .ref st, .ref xb, .ref xc])), (xm, .inl (cI, 12, .inl (me)))]) [.ref g]) (va_Qi (fun (r : Int32) (_ : Unit) => r = cmL me n / 2) (fun _ _ => True) (va_A ([]) sz)) 0 0 (va_A ([]) sz) := by
  refine Met.ofW (cc := cX2_countMeshes) (maxL := 3) (ret := (some .int)) (by decide) rfl ?_
  intro p e s m args below meth c s₁ B hml hv
  obtain ⟨rfl, hsz, hP, hK, hN⟩ := hv
  have hx := B.exec
  have hb := B.bytes
  have hr := B.returns
  have hts := atoms_spec (ws := wsX2_countMeshes) B.pre
  have hown : s.vm.findClass RX2 = some m.cls := findClass_of_methodNamed B.named
  have hlocks := B.notSynchronized
  subst hsz
  generalize hAe : va_A [] s.heap.size = A
  have hA : ∀ q : Nat, s.heap.size ≤ q → A q := fun q h => by rw [← hAe]; exact Or.inr h
  have hS : va_S A s.heap s.heap [] := va_S.rf
  have hAn : ∀ q : Nat, q < s.heap.size → ¬ A q := fun q h => by rw [← hAe]; exact notZ h
  have hAg : ∀ q : Nat, A q → s.heap.size ≤ q := fun q h => geZ (hAe ▸ h)
  have hR0 : va_P (dC, dI) vwCl ([(g, .inr (iX2, [.int (nI n), .ref xa, .ref xt, .ref xm, .ref wh, .ref st, .ref xb, .ref xc])), (xm, .inl (cI, 12, .inl (me)))]) s.heap := hP
  have hR : va_P (dC, dI) vwCl ([(g, .inr (iX2, [.int (nI n), .ref xa, .ref xt, .ref xm, .ref wh, .ref st, .ref xb, .ref xc])), (xm, .inl (cI, 12, .inl (me)))]) s.heap := hP
  have hP : va_P (dC, dI) vwCl [] s.heap := fun k q h => by simp at h
  have hD : va_D A [] := ⟨fun i j p q h => by simp at h, fun k q h => by simp at h⟩
  have hl := lv_entry ([.ref g]) (n := 3) (Nat.le_of_ble_eq_true rfl)
  rw [lg_entry_eq]
  generalize (lg_sl ([.ref g]) ++ List.replicate (3 - (lg_sl ([.ref g])).length) Slot.unset).toArray = ls at hl ⊢
  have hl : lv_has ls 3 [(0, .ref g)] := hl
  have hfl_44 := hts (.fieldLink RX2 44 "Greenwheels$Gearing" "wheels" "I") (by decide +kernel)
  have hin_X2 : ∀ w ∈ u_ws RX2 TX2 8, w ∈ wsX2_countMeshes := by decide +kernel
  refine lv_iconst (v := 0) hx hb dX2_countMeshes_0 (by decide) ?_
  refine lv_istore_n (lv' := [(1, .int 0), (0, .ref g)]) hx hb dX2_countMeshes_1 rfl hl (by decide) rfl (fun ls hl => ?_)
  refine lv_iconst (v := 0) hx hb dX2_countMeshes_2 (by decide) ?_
  refine lv_istore_n (lv' := [(2, .int 0), (1, .int 0), (0, .ref g)]) hx hb dX2_countMeshes_3 rfl hl (by decide) rfl (fun ls hl => ?_)
  have K4 : ∀ (NN : Nat), ∀ (k : Nat) (acc : Int32), (n - k) < NN → (k ≤ n) → (acc = cmL me k) → ∀ (H : Heap) (locs : List Loc) (ls : Array Slot), va_P (dC, dI) vwCl ([]) H → va_S A s.heap H locs → lv_has ls 3 [(0, .ref g), (1, .int acc), (2, .int (nI k))] → W p l e (headSpec wsX2_countMeshes ({ frames := 2, cells := 0, slots := 0, locals := 42 } : Room)).room s m #[Value.ref g] below meth c H locs (0) (0) (MQ below (va_Qi (fun (r : Int32) (_ : Unit) => r = cmL me n / 2) (fun _ _ => True) A) #[Value.ref g] s 0 0 A) (F0 m 4 ls []) := by
    intro NN
    induction NN with
    | zero =>
      intro k acc hmu hk hacc H locs ls hP hS hl
      exact absurd hmu (Nat.not_lt_zero _)
    | succ NN ih4 =>
      intro k acc hmu hk hacc H locs ls hP hS hl
      have hR := keepR hR0 hS hAn
      refine lv_iload_n hx hb dX2_countMeshes_4 rfl (lv_at hl 2 rfl) ?_
      refine lv_aload_n hx hb dX2_countMeshes_5 rfl (lv_at hl 0 rfl) ?_
      refine va_get (D := (dC, dI)) (ci := iX2) (v := .int (nI n)) (C := RX2) (T := TX2) (N := 8) hx hb hts hin_X2 hown hK hR 0 rfl rfl 0 (by decide) hfl_44 (fun _ h9 => h9) rfl dX2_countMeshes_6 ?_
      refine lv_icmp_ge (tgt := 29) hx hb dX2_countMeshes_9 (by decide) (fun c_1 => ?_) (fun c_1 => ?_)
      · have hke : n ≤ k := leK (by omega) (by omega) c_1
        obtain rfl : k = n := by omega
        refine lv_iload_n hx hb dX2_countMeshes_29 rfl (lv_at hl 1 rfl) ?_
        refine lv_iconst (v := 2) hx hb dX2_countMeshes_30 (by decide) ?_
        refine lv_idiv hx hb dX2_countMeshes_31 (by decide) ?_
        refine W.widen (k := 0) (n := 0) (by omega) (by omega) ?_
        exact W.iret (v := acc / 2) hx hb hr (fun t ht hW => ⟨⟨acc / 2, (), rfl, (by rw [hacc]), trivial⟩, hS.F ht⟩) hS.2.2 dX2_countMeshes_32
      · have hkl : k < n := ltK (by omega) (by omega) c_1
        refine lv_iload_n hx hb dX2_countMeshes_12 rfl (lv_at hl 1 rfl) ?_
        refine lv_aload_n hx hb dX2_countMeshes_13 rfl (lv_at hl 0 rfl) ?_
        refine lv_iload_n hx hb dX2_countMeshes_14 rfl (lv_at hl 2 rfl) ?_
        have hPc : va_P (dC, dI) vwCl ([(g, .inr (iX2, [.int (nI n), .ref xa, .ref xt, .ref xm, .ref wh, .ref st, .ref xb, .ref xc])), (xm, .inl (cI, 12, .inl (me)))]) _ := hR.sub [0, 1] rfl
        have hFc := frZ hS hA
        refine va_calli (va_runV (As := [.int (nI k)]) (rest := [.int acc]) ⟨hx, hb, hml, hown, hts⟩ (c_X2_meshedWith l dC dI cI cF tr (H).size g n xa xt xm wh st xb xc me (nI k)) (cwV 1 hts gX2_countMeshes_X2_meshedWith rfl rfl rfl (by decide +kernel) ⟨Nat.le_of_ble_eq_true rfl, Nat.le_of_ble_eq_true rfl⟩) ⟨cBl, (va_recv hK hPc (ci := iX2) (q0 := 0) rfl rfl), (cPre hPc hK hN)⟩ rfl rfl hl.1 rfl (lv_room (Nat.le_of_ble_eq_true rfl)) dX2_countMeshes_15 ⟨(Nat.le_of_ble_eq_true rfl), (Nat.le_of_ble_eq_true rfl)⟩) hS (fun q _ h => hFc q h) hFc (fun r_2 u t H1 locs ht hvm hw_r_2 hB hz1 hk1 hS => ?_)
        refine W.widen (k := 0) (n := 0) (Nat.le_refl _) (Nat.le_refl _) ?_
        have hP := keepP hP hk1
        have hR := keepP hR hk1
        generalize H1 = H at hP hR hS ⊢
        have hP : va_P (dC, dI) vwCl ([]) H := hP
        try dsimp only at hw_r_2
        subst hw_r_2
        have hPc : va_P (dC, dI) vwCl [] H := nilP
        have hFc := frZ hS hA
        refine va_calli (va_runS (As := [.int (atF 12 me (nI k))]) (rest := [.int acc]) ⟨hx, hb, hml, hown, hts⟩ (c_J6_bitCount_0f7a4 l dC dI cI cF tr (H).size (atF 12 me (nI k))) (va_cwS 1 hts gX2_countMeshes_J6_bitCount_0f7a4 rfl rfl rfl (by decide +kernel) ⟨Nat.le_of_ble_eq_true rfl, Nat.le_of_ble_eq_true rfl⟩) ⟨cBl, (cPre hPc hK hN)⟩ rfl rfl hl.1 rfl (lv_room (Nat.le_of_ble_eq_true rfl)) dX2_countMeshes_18 ⟨(Nat.le_of_ble_eq_true rfl), (Nat.le_of_ble_eq_true rfl)⟩) hS (fun q _ h => hFc q h) hFc (fun r_3 u t H1 locs ht hvm hw_r_3 hB hz1 hk1 hS => ?_)
        refine W.widen (k := 0) (n := 0) (Nat.le_refl _) (Nat.le_refl _) ?_
        have hP := keepP hP hk1
        have hR := keepP hR hk1
        generalize H1 = H at hP hR hS ⊢
        have hP : va_P (dC, dI) vwCl ([]) H := hP
        try dsimp only at hw_r_3
        subst hw_r_3
        refine lv_iadd hx hb dX2_countMeshes_21 ?_
        refine lv_istore_n (lv' := [(1, .int (acc + (bcF (atF 12 me (nI k))))), (0, .ref g), (2, .int (nI k))]) hx hb dX2_countMeshes_22 rfl hl (by decide) rfl (fun ls hl => ?_)
        refine lv_iinc (v := nI (k + 1)) (lv' := [(2, .int (nI (k + 1))), (1, .int (acc + (bcF (atF 12 me (nI k))))), (0, .ref g)]) hx hb dX2_countMeshes_23 hl (k := 2) rfl (nI_1 k) (by decide) rfl (fun ls hl => ?_)
        refine lv_goto (tgt := 4) hx hb dX2_countMeshes_26 (by decide) ?_
        refine W.widen (k := 0) (n := 0) (by omega) (by omega) ?_
        exact ih4 (k + 1) (acc + (bcF (atF 12 me (nI k)))) (by omega) hkl (by rw [hacc]; rfl) _ _ ls hP hS (lv_sub hl [2, 1, 0] rfl)
  refine W.widen (k := 0) (n := 0) (by omega) (by omega) ?_
  exact K4 (n - 0 + 1) 0 0 (by omega) (Nat.zero_le _) rfl _ _ ls hP hS (lv_sub hl [2, 1, 0] rfl)

set_option maxHeartbeats 4000000 in
set_option maxRecDepth 100000 in
theorem c_X2_countMoved (l : Launch) (dC : Nat → ClassId) (dI : Nat → Nat → Nat) (cI cF : ClassId) (tr : List (ClassId × FieldType)) (sz : Nat) (g : Nat) (n : Nat) (xa : Nat) (xt : Nat) (xm : Nat) (wh : Nat) (st : Nat) (xb : Nat) (xc : Nat) (bc : Nat → Option Nat) : Met l yX2_countMoved wsX2_countMoved ({ frames := 2, cells := 0, slots := 0, locals := 42 } : Room) (cPc dC dI ((cI, .int) :: (cF, .object RX1) :: tr) sz ([(g, .inr (iX2, [.int (nI n), .ref xa, .ref xt, .ref xm, .ref wh, .ref st, .ref xb, .ref xc])), (xb, .inl (cF, 7, .inr (.inr (.inr (.inr (bc))))))]) [.ref g]) (va_Qi (fun (r : Int32) (_ : Unit) => r = cvL bc 7) (fun _ _ => True) (va_A ([]) sz)) 0 0 (va_A ([]) sz) := by
  refine Met.ofW (cc := cX2_countMoved) (maxL := 3) (ret := (some .int)) (by decide) rfl ?_
  intro p e s m args below meth c s₁ B hml hv
  obtain ⟨rfl, hsz, hP, hK, hN⟩ := hv
  have hx := B.exec
  have hb := B.bytes
  have hr := B.returns
  have hts := atoms_spec (ws := wsX2_countMoved) B.pre
  have hown : s.vm.findClass RX2 = some m.cls := findClass_of_methodNamed B.named
  have hlocks := B.notSynchronized
  subst hsz
  generalize hAe : va_A [] s.heap.size = A
  have hA : ∀ q : Nat, s.heap.size ≤ q → A q := fun q h => by rw [← hAe]; exact Or.inr h
  have hS : va_S A s.heap s.heap [] := va_S.rf
  have hAn : ∀ q : Nat, q < s.heap.size → ¬ A q := fun q h => by rw [← hAe]; exact notZ h
  have hAg : ∀ q : Nat, A q → s.heap.size ≤ q := fun q h => geZ (hAe ▸ h)
  have hR0 : va_P (dC, dI) vwCl ([(g, .inr (iX2, [.int (nI n), .ref xa, .ref xt, .ref xm, .ref wh, .ref st, .ref xb, .ref xc])), (xb, .inl (cF, 7, .inr (.inr (.inr (.inr (bc))))))]) s.heap := hP
  have hR : va_P (dC, dI) vwCl ([(g, .inr (iX2, [.int (nI n), .ref xa, .ref xt, .ref xm, .ref wh, .ref st, .ref xb, .ref xc])), (xb, .inl (cF, 7, .inr (.inr (.inr (.inr (bc))))))]) s.heap := hP
  have hP : va_P (dC, dI) vwCl [] s.heap := fun k q h => by simp at h
  have hD : va_D A [] := ⟨fun i j p q h => by simp at h, fun k q h => by simp at h⟩
  have hl := lv_entry ([.ref g]) (n := 3) (Nat.le_of_ble_eq_true rfl)
  rw [lg_entry_eq]
  generalize (lg_sl ([.ref g]) ++ List.replicate (3 - (lg_sl ([.ref g])).length) Slot.unset).toArray = ls at hl ⊢
  have hl : lv_has ls 3 [(0, .ref g)] := hl
  refine lv_iconst (v := 0) hx hb dX2_countMoved_0 (by decide) ?_
  refine lv_istore_n (lv' := [(1, .int 0), (0, .ref g)]) hx hb dX2_countMoved_1 rfl hl (by decide) rfl (fun ls hl => ?_)
  refine lv_iconst (v := 0) hx hb dX2_countMoved_2 (by decide) ?_
  refine lv_istore_n (lv' := [(2, .int 0), (1, .int 0), (0, .ref g)]) hx hb dX2_countMoved_3 rfl hl (by decide) rfl (fun ls hl => ?_)
  have K4 : ∀ (NN : Nat), ∀ (k : Nat) (acc : Int32), (7 - k) < NN → (k ≤ 7) → (acc = cvL bc k) → ∀ (H : Heap) (locs : List Loc) (ls : Array Slot), va_P (dC, dI) vwCl ([]) H → va_S A s.heap H locs → lv_has ls 3 [(0, .ref g), (1, .int acc), (2, .int (nI k))] → W p l e (headSpec wsX2_countMoved ({ frames := 2, cells := 0, slots := 0, locals := 42 } : Room)).room s m #[Value.ref g] below meth c H locs (0) (0) (MQ below (va_Qi (fun (r : Int32) (_ : Unit) => r = cvL bc 7) (fun _ _ => True) A) #[Value.ref g] s 0 0 A) (F0 m 4 ls []) := by
    intro NN
    induction NN with
    | zero =>
      intro k acc hmu hk hacc H locs ls hP hS hl
      exact absurd hmu (Nat.not_lt_zero _)
    | succ NN ih4 =>
      intro k acc hmu hk hacc H locs ls hP hS hl
      have hR := keepR hR0 hS hAn
      refine lv_iload_n hx hb dX2_countMoved_4 rfl (lv_at hl 2 rfl) ?_
      refine lv_bipush (v := 7) hx hb dX2_countMoved_5 (by decide) ?_
      refine lv_icmp_ge (tgt := 27) hx hb dX2_countMoved_7 (by decide) (fun c_1 => ?_) (fun c_1 => ?_)
      · have hke : 7 ≤ k := leK (by omega) (by omega) c_1
        obtain rfl : k = 7 := by omega
        refine lv_iload_n hx hb dX2_countMoved_27 rfl (lv_at hl 1 rfl) ?_
        refine W.widen (k := 0) (n := 0) (by omega) (by omega) ?_
        exact W.iret (v := acc) hx hb hr (fun t ht hW => ⟨⟨acc, (), rfl, hacc, trivial⟩, hS.F ht⟩) hS.2.2 dX2_countMoved_28
      · have hkl : k < 7 := ltK (by omega) (by omega) c_1
        refine lv_aload_n hx hb dX2_countMoved_10 rfl (lv_at hl 0 rfl) ?_
        refine lv_iload_n hx hb dX2_countMoved_11 rfl (lv_at hl 2 rfl) ?_
        have hPc : va_P (dC, dI) vwCl ([(g, .inr (iX2, [.int (nI n), .ref xa, .ref xt, .ref xm, .ref wh, .ref st, .ref xb, .ref xc])), (xb, .inl (cF, 7, .inr (.inr (.inr (.inr (bc))))))]) _ := hR.sub [0, 1] rfl
        have hFc := frZ hS hA
        refine va_calli (va_runV (As := [.int (nI k)]) (rest := []) ⟨hx, hb, hml, hown, hts⟩ (c_X2_isMoved l dC dI cI cF tr (H).size g n xa xt xm wh st xb xc bc (nI k)) (cwV 1 hts gX2_countMoved_X2_isMoved rfl rfl rfl (by decide +kernel) ⟨Nat.le_of_ble_eq_true rfl, Nat.le_of_ble_eq_true rfl⟩) ⟨cBl, (va_recv hK hPc (ci := iX2) (q0 := 0) rfl rfl), (cPre hPc hK hN)⟩ rfl rfl hl.1 rfl (lv_room (Nat.le_of_ble_eq_true rfl)) dX2_countMoved_12 ⟨(Nat.le_of_ble_eq_true rfl), (Nat.le_of_ble_eq_true rfl)⟩) hS (fun q _ h => hFc q h) hFc (fun r_2 u t H1 locs ht hvm hw_r_2 hB hz1 hk1 hS => ?_)
        refine W.widen (k := 0) (n := 0) (Nat.le_refl _) (Nat.le_refl _) ?_
        have hP := keepP hP hk1
        have hR := keepP hR hk1
        generalize H1 = H at hP hR hS ⊢
        have hP : va_P (dC, dI) vwCl ([]) H := hP
        try dsimp only at hw_r_2
        subst hw_r_2
        refine lv_if_eq (tgt := 21) hx hb dX2_countMoved_15 (by decide) (fun c_3 => ?_) (fun c_3 => ?_)
        · refine lv_iinc (v := nI (k + 1)) (lv' := [(2, .int (nI (k + 1))), (0, .ref g), (1, .int acc)]) hx hb dX2_countMoved_21 hl (k := 2) rfl (nI_1 k) (by decide) rfl (fun ls hl => ?_)
          refine lv_goto (tgt := 4) hx hb dX2_countMoved_24 (by decide) ?_
          refine W.widen (k := 0) (n := 0) (by omega) (by omega) ?_
          exact ih4 (k + 1) acc (by omega) hkl (by rw [hacc]; simp [cvL] at *; simp [c_3]) _ _ ls hP hS (lv_sub hl [1, 2, 0] rfl)
        · refine lv_iinc (v := acc + 1) (lv' := [(1, .int (acc + 1)), (0, .ref g), (2, .int (nI k))]) hx hb dX2_countMoved_18 hl (k := 1) rfl rfl (by decide) rfl (fun ls hl => ?_)
          refine lv_iinc (v := nI (k + 1)) (lv' := [(2, .int (nI (k + 1))), (1, .int (acc + 1)), (0, .ref g)]) hx hb dX2_countMoved_21 hl (k := 2) rfl (nI_1 k) (by decide) rfl (fun ls hl => ?_)
          refine lv_goto (tgt := 4) hx hb dX2_countMoved_24 (by decide) ?_
          refine W.widen (k := 0) (n := 0) (by omega) (by omega) ?_
          exact ih4 (k + 1) (acc + 1) (by omega) hkl (by rw [hacc]; simp [cvL] at *; simp [c_3]) _ _ ls hP hS (lv_sub hl [2, 1, 0] rfl)
  refine W.widen (k := 0) (n := 0) (by omega) (by omega) ?_
  exact K4 (7 - 0 + 1) 0 0 (by omega) (Nat.zero_le _) rfl _ _ ls hP hS (lv_sub hl [2, 1, 0] rfl)

set_option maxHeartbeats 4000000 in
set_option maxRecDepth 100000 in
theorem c_X2_turnsToReturn (l : Launch) (dC : Nat → ClassId) (dI : Nat → Nat → Nat) (cI cF : ClassId) (tr : List (ClassId × FieldType)) (sz : Nat) (g : Nat) (n : Nat) (xa : Nat) (xt : Nat) (xm : Nat) (wh : Nat) (st : Nat) (xb : Nat) (xc : Nat) (bc : Nat → Option Nat) (LP : List Nat) (v : Nat → Int64 × Int64) (hst : st ∈ LP) (hbc : ∀ k, k < 7 → ∀ a, bc k = some a → a ∈ LP) : Met l yX2_turnsToReturn wsX2_turnsToReturn ({ frames := 2, cells := 0, slots := 0, locals := 43 } : Room) (cPc dC dI ((cI, .int) :: (cF, .object RX1) :: tr) sz ([(g, .inr (iX2, [.int (nI n), .ref xa, .ref xt, .ref xm, .ref wh, .ref st, .ref xb, .ref xc])), (xb, .inl (cF, 7, .inr (.inr (.inr (.inr (bc))))))] ++ va_pl LP (fe v)) [.ref g]) (va_Ql (fun (r : Int64) (_ : Unit) => r = ptL st bc v 7) (fun _ _ => True) (va_A ([]) sz)) 0 0 (va_A ([]) sz) := by
  refine Met.ofW (cc := cX2_turnsToReturn) (maxL := 8) (ret := (some .long)) (by decide) rfl ?_
  intro p e s m args below meth c s₁ B hml hv
  obtain ⟨rfl, hsz, hP, hK, hN⟩ := hv
  have hx := B.exec
  have hb := B.bytes
  have hr := B.returns
  have hts := atoms_spec (ws := wsX2_turnsToReturn) B.pre
  have hown : s.vm.findClass RX2 = some m.cls := findClass_of_methodNamed B.named
  have hlocks := B.notSynchronized
  subst hsz
  generalize hAe : va_A [] s.heap.size = A
  have hA : ∀ q : Nat, s.heap.size ≤ q → A q := fun q h => by rw [← hAe]; exact Or.inr h
  have hS : va_S A s.heap s.heap [] := va_S.rf
  have hAn : ∀ q : Nat, q < s.heap.size → ¬ A q := fun q h => by rw [← hAe]; exact notZ h
  have hAg : ∀ q : Nat, A q → s.heap.size ≤ q := fun q h => geZ (hAe ▸ h)
  have hR0 : va_P (dC, dI) vwCl ([(g, .inr (iX2, [.int (nI n), .ref xa, .ref xt, .ref xm, .ref wh, .ref st, .ref xb, .ref xc])), (xb, .inl (cF, 7, .inr (.inr (.inr (.inr (bc))))))] ++ va_pl LP (fe v)) s.heap := hP
  have hR : va_P (dC, dI) vwCl ([(g, .inr (iX2, [.int (nI n), .ref xa, .ref xt, .ref xm, .ref wh, .ref st, .ref xb, .ref xc])), (xb, .inl (cF, 7, .inr (.inr (.inr (.inr (bc))))))] ++ va_pl LP (fe v)) s.heap := hP
  have hP : va_P (dC, dI) vwCl [] s.heap := fun k q h => by simp at h
  have hD : va_D A [] := ⟨fun i j p q h => by simp at h, fun k q h => by simp at h⟩
  have hl := lv_entry ([.ref g]) (n := 8) (Nat.le_of_ble_eq_true rfl)
  rw [lg_entry_eq]
  generalize (lg_sl ([.ref g]) ++ List.replicate (8 - (lg_sl ([.ref g])).length) Slot.unset).toArray = ls at hl ⊢
  have hl : lv_has ls 8 [(0, .ref g)] := hl
  have hfl_95 := hts (.fieldLink RX2 95 "Greenwheels$Fraction" "lower" "J") (by decide +kernel)
  have hin_X1 : ∀ w ∈ u_ws RX1 TX1 2, w ∈ wsX2_turnsToReturn := by decide +kernel
  have hw_iniX5 := hts (.initialized RX5) (by decide +kernel)
  have hw_staX5_commonDivisor := hts (.static yX5_commonDivisor) (by decide +kernel)
  refine lv_lconst (v := 1) hx hb dX2_turnsToReturn_0 (by decide) ?_
  refine lv_lstore_n (lv' := [(1, .long 1), (0, .ref g)]) hx hb dX2_turnsToReturn_1 rfl hl (by decide) rfl (fun ls hl => ?_)
  refine lv_iconst (v := 0) hx hb dX2_turnsToReturn_2 (by decide) ?_
  refine lv_istore_n (lv' := [(3, .int 0), (1, .long 1), (0, .ref g)]) hx hb dX2_turnsToReturn_3 rfl hl (by decide) rfl (fun ls hl => ?_)
  have K4 : ∀ (NN : Nat), ∀ (k : Nat) (acc : Int64), (7 - k) < NN → (k ≤ 7) → (acc = ptL st bc v k) → ∀ (H : Heap) (locs : List Loc) (ls : Array Slot), va_P (dC, dI) vwCl ([]) H → va_S A s.heap H locs → lv_has ls 8 [(0, .ref g), (1, .long acc), (3, .int (nI k))] → W p l e (headSpec wsX2_turnsToReturn ({ frames := 2, cells := 0, slots := 0, locals := 43 } : Room)).room s m #[Value.ref g] below meth c H locs (0) (0) (MQ below (va_Ql (fun (r : Int64) (_ : Unit) => r = ptL st bc v 7) (fun _ _ => True) A) #[Value.ref g] s 0 0 A) (F0 m 4 ls []) := by
    intro NN
    induction NN with
    | zero =>
      intro k acc hmu hk hacc H locs ls hP hS hl
      exact absurd hmu (Nat.not_lt_zero _)
    | succ NN ih4 =>
      intro k acc hmu hk hacc H locs ls hP hS hl
      have hR := keepR hR0 hS hAn
      refine lv_iload_n hx hb dX2_turnsToReturn_4 rfl (lv_at hl 2 rfl) ?_
      refine lv_bipush (v := 7) hx hb dX2_turnsToReturn_5 (by decide) ?_
      refine lv_icmp_ge (tgt := 49) hx hb dX2_turnsToReturn_7 (by decide) (fun c_1 => ?_) (fun c_1 => ?_)
      · have hke : 7 ≤ k := leK (by omega) (by omega) c_1
        obtain rfl : k = 7 := by omega
        refine lv_lload_n hx hb dX2_turnsToReturn_49 rfl (lv_at hl 1 rfl) ?_
        refine W.widen (k := 0) (n := 0) (by omega) (by omega) ?_
        exact W.lret (v := acc) hx hb hr (fun t ht hW => ⟨⟨acc, (), rfl, hacc, trivial⟩, hS.F ht⟩) hS.2.2 dX2_turnsToReturn_50
      · have hkl : k < 7 := ltK (by omega) (by omega) c_1
        refine lv_aload_n hx hb dX2_turnsToReturn_10 rfl (lv_at hl 0 rfl) ?_
        refine lv_iload_n hx hb dX2_turnsToReturn_11 rfl (lv_at hl 2 rfl) ?_
        have hPc : va_P (dC, dI) vwCl ([(g, .inr (iX2, [.int (nI n), .ref xa, .ref xt, .ref xm, .ref wh, .ref st, .ref xb, .ref xc])), (xb, .inl (cF, 7, .inr (.inr (.inr (.inr (bc))))))]) _ := hR.sub [0, 1] rfl
        have hFc := frZ hS hA
        refine va_callr (va_runV (As := [.int (nI k)]) (rest := []) ⟨hx, hb, hml, hown, hts⟩ (c_X2_rateOf l dC dI cI cF tr (H).size g n xa xt xm wh st xb xc bc (nI k)) (cwV 1 hts gX2_turnsToReturn_X2_rateOf rfl rfl rfl (by decide +kernel) ⟨Nat.le_of_ble_eq_true rfl, Nat.le_of_ble_eq_true rfl⟩) ⟨cBl, (va_recv hK hPc (ci := iX2) (q0 := 0) rfl rfl), (cPre hPc hK hN)⟩ rfl rfl hl.1 rfl (lv_room (Nat.le_of_ble_eq_true rfl)) dX2_turnsToReturn_12 ⟨(Nat.le_of_ble_eq_true rfl), (Nat.le_of_ble_eq_true rfl)⟩) hS (fun q _ h => hFc q h) hFc (fun u r_2 t H1 locs ht hvm hw_r_2 hB hz1 hk1 hS => ?_)
        refine W.widen (k := 0) (n := 0) (Nat.le_refl _) (Nat.le_refl _) ?_
        have hP := keepP hP hk1
        have hR := keepP hR hk1
        generalize H1 = H at hP hR hS ⊢
        have hP : va_P (dC, dI) vwCl ([]) H := hP
        try dsimp only at hB
        subst hB
        refine va_get (D := (dC, dI)) (ci := iX1) (v := .long ((v (rtA st bc (nI k))).2)) (C := RX1) (T := TX1) (N := 2) hx hb hts hin_X1 hown hK (poolP hR (rtA_mem hst hbc (nI k))) 0 rfl rfl 1 (by decide) hfl_95 (fun _ h9 => h9) rfl dX2_turnsToReturn_15 ?_
        refine lv_lstore (lv' := [(4, .long ((v (rtA st bc (nI k))).2)), (0, .ref g), (1, .long acc), (3, .int (nI k))]) hx hb dX2_turnsToReturn_18 hl (by decide) rfl (fun ls hl => ?_)
        refine lv_lload_n hx hb dX2_turnsToReturn_20 rfl (lv_at hl 2 rfl) ?_
        refine lv_lload hx hb dX2_turnsToReturn_21 (lv_at hl 0 rfl) ?_
        have hPc : va_P (dC, dI) vwCl [] H := nilP
        have hFc := frZ hS hA
        refine va_calll (va_runSN (host := RX5) (As := [.long acc, .long ((v (rtA st bc (nI k))).2)]) (rest := []) ⟨hx, hb, hml, hown, hts⟩ (c_X5_commonDivisor l dC dI cI cF tr (H).size acc ((v (rtA st bc (nI k))).2)) ⟨va_cnB 2 hts gX2_turnsToReturn_X5_commonDivisor_n99 rfl rfl rfl (nwAt hN (RX2, 99, yX5_commonDivisor) (by decide +kernel)) hw_iniX5 (by decide +kernel) ⟨Nat.le_of_ble_eq_true rfl, Nat.le_of_ble_eq_true rfl⟩, hw_staX5_commonDivisor, trivial⟩ ⟨cBl, (cPre hPc hK hN)⟩ rfl rfl hl.1 rfl (lv_room (Nat.le_of_ble_eq_true rfl)) dX2_turnsToReturn_23 ⟨(Nat.le_of_ble_eq_true rfl), (Nat.le_of_ble_eq_true rfl)⟩) hS (fun q _ h => hFc q h) hFc (fun r_3 u t H1 locs ht hvm hw_r_3 hB hz1 hk1 hS => ?_)
        refine W.widen (k := 0) (n := 0) (Nat.le_refl _) (Nat.le_refl _) ?_
        have hP := keepP hP hk1
        have hR := keepP hR hk1
        generalize H1 = H at hP hR hS ⊢
        have hP : va_P (dC, dI) vwCl ([]) H := hP
        try dsimp only at hw_r_3
        subst hw_r_3
        refine lv_lstore (lv' := [(6, .long (cdF acc ((v (rtA st bc (nI k))).2))), (4, .long ((v (rtA st bc (nI k))).2)), (0, .ref g), (1, .long acc), (3, .int (nI k))]) hx hb dX2_turnsToReturn_26 hl (by decide) rfl (fun ls hl => ?_)
        refine lv_lload hx hb dX2_turnsToReturn_28 (lv_at hl 0 rfl) ?_
        refine lv_lconst (v := 0) hx hb dX2_turnsToReturn_30 (by decide) ?_
        refine W.lcmp hx hb dX2_turnsToReturn_31 ?_
        refine lv_if_le (tgt := 43) hx hb dX2_turnsToReturn_32 (by decide) (fun c_4 => ?_) (fun c_4 => ?_)
        · rw [lg_cmp_le] at c_4
          refine lv_iinc (v := nI (k + 1)) (lv' := [(3, .int (nI (k + 1))), (6, .long (cdF acc ((v (rtA st bc (nI k))).2))), (4, .long ((v (rtA st bc (nI k))).2)), (0, .ref g), (1, .long acc)]) hx hb dX2_turnsToReturn_43 hl (k := 4) rfl (nI_1 k) (by decide) rfl (fun ls hl => ?_)
          refine lv_goto (tgt := 4) hx hb dX2_turnsToReturn_46 (by decide) ?_
          refine W.widen (k := 0) (n := 0) (by omega) (by omega) ?_
          exact ih4 (k + 1) acc (by omega) hkl (by rw [hacc] at *; simp [ptL, c_4]) _ _ ls hP hS (lv_sub hl [3, 4, 0] rfl)
        · rw [lg_cmp_le] at c_4
          refine lv_lload_n hx hb dX2_turnsToReturn_35 rfl (lv_at hl 3 rfl) ?_
          refine lv_lload hx hb dX2_turnsToReturn_36 (lv_at hl 0 rfl) ?_
          refine lv_ldiv hx hb dX2_turnsToReturn_38 (neOfLe0 c_4) ?_
          refine lv_lload hx hb dX2_turnsToReturn_39 (lv_at hl 1 rfl) ?_
          refine lv_lmul hx hb dX2_turnsToReturn_41 ?_
          refine lv_lstore_n (lv' := [(1, .long ((acc / (cdF acc ((v (rtA st bc (nI k))).2))) * ((v (rtA st bc (nI k))).2))), (6, .long (cdF acc ((v (rtA st bc (nI k))).2))), (4, .long ((v (rtA st bc (nI k))).2)), (0, .ref g), (3, .int (nI k))]) hx hb dX2_turnsToReturn_42 rfl hl (by decide) rfl (fun ls hl => ?_)
          refine lv_iinc (v := nI (k + 1)) (lv' := [(3, .int (nI (k + 1))), (1, .long ((acc / (cdF acc ((v (rtA st bc (nI k))).2))) * ((v (rtA st bc (nI k))).2))), (6, .long (cdF acc ((v (rtA st bc (nI k))).2))), (4, .long ((v (rtA st bc (nI k))).2)), (0, .ref g)]) hx hb dX2_turnsToReturn_43 hl (k := 4) rfl (nI_1 k) (by decide) rfl (fun ls hl => ?_)
          refine lv_goto (tgt := 4) hx hb dX2_turnsToReturn_46 (by decide) ?_
          refine W.widen (k := 0) (n := 0) (by omega) (by omega) ?_
          exact ih4 (k + 1) ((acc / (cdF acc ((v (rtA st bc (nI k))).2))) * ((v (rtA st bc (nI k))).2)) (by omega) hkl (by rw [hacc] at *; simp [ptL, c_4]) _ _ ls hP hS (lv_sub hl [4, 1, 0] rfl)
  refine W.widen (k := 0) (n := 0) (by omega) (by omega) ?_
  exact K4 (7 - 0 + 1) 0 1 (by omega) (Nat.zero_le _) rfl _ _ ls hP hS (lv_sub hl [2, 1, 0] rfl)

set_option maxHeartbeats 4000000 in
set_option maxRecDepth 100000 in
theorem c_X2_isPeriodRight (l : Launch) (dC : Nat → ClassId) (dI : Nat → Nat → Nat) (cI cF : ClassId) (tr : List (ClassId × FieldType)) (sz : Nat) (g : Nat) (n : Nat) (xa : Nat) (xt : Nat) (xm : Nat) (wh : Nat) (st : Nat) (xb : Nat) (xc : Nat) (bc : Nat → Option Nat) (LP : List Nat) (v : Nat → Int64 × Int64) (hst : st ∈ LP) (hbc : ∀ k, k < 7 → ∀ a, bc k = some a → a ∈ LP) : Met l yX2_isPeriodRight wsX2_isPeriodRight ({ frames := 3, cells := 0, slots := 0, locals := 70 } : Room) (cPc dC dI ((cI, .int) :: (cF, .object RX1) :: tr) sz ([(g, .inr (iX2, [.int (nI n), .ref xa, .ref xt, .ref xm, .ref wh, .ref st, .ref xb, .ref xc])), (xb, .inl (cF, 7, .inr (.inr (.inr (.inr (bc))))))] ++ va_pl LP (fe v)) [.ref g]) (va_Qi (fun (r : Int32) (_ : Unit) => r = iprL (ptL st bc v 7) st bc v 7 0) (fun _ _ => True) (va_A ([]) sz)) 0 0 (va_A ([]) sz) := by
  refine Met.ofW (cc := cX2_isPeriodRight) (maxL := 6) (ret := (some .boolean)) (by decide) rfl ?_
  intro p e s m args below meth c s₁ B hml hv
  obtain ⟨rfl, hsz, hP, hK, hN⟩ := hv
  have hx := B.exec
  have hb := B.bytes
  have hr := B.returns
  have hts := atoms_spec (ws := wsX2_isPeriodRight) B.pre
  have hown : s.vm.findClass RX2 = some m.cls := findClass_of_methodNamed B.named
  have hlocks := B.notSynchronized
  subst hsz
  generalize hAe : va_A [] s.heap.size = A
  have hA : ∀ q : Nat, s.heap.size ≤ q → A q := fun q h => by rw [← hAe]; exact Or.inr h
  have hS : va_S A s.heap s.heap [] := va_S.rf
  have hAn : ∀ q : Nat, q < s.heap.size → ¬ A q := fun q h => by rw [← hAe]; exact notZ h
  have hAg : ∀ q : Nat, A q → s.heap.size ≤ q := fun q h => geZ (hAe ▸ h)
  have hR0 : va_P (dC, dI) vwCl ([(g, .inr (iX2, [.int (nI n), .ref xa, .ref xt, .ref xm, .ref wh, .ref st, .ref xb, .ref xc])), (xb, .inl (cF, 7, .inr (.inr (.inr (.inr (bc))))))] ++ va_pl LP (fe v)) s.heap := hP
  have hR : va_P (dC, dI) vwCl ([(g, .inr (iX2, [.int (nI n), .ref xa, .ref xt, .ref xm, .ref wh, .ref st, .ref xb, .ref xc])), (xb, .inl (cF, 7, .inr (.inr (.inr (.inr (bc))))))] ++ va_pl LP (fe v)) s.heap := hP
  have hP : va_P (dC, dI) vwCl [] s.heap := fun k q h => by simp at h
  have hD : va_D A [] := ⟨fun i j p q h => by simp at h, fun k q h => by simp at h⟩
  have hl := lv_entry ([.ref g]) (n := 6) (Nat.le_of_ble_eq_true rfl)
  rw [lg_entry_eq]
  generalize (lg_sl ([.ref g]) ++ List.replicate (6 - (lg_sl ([.ref g])).length) Slot.unset).toArray = ls at hl ⊢
  have hl : lv_has ls 6 [(0, .ref g)] := hl
  have hfl_95 := hts (.fieldLink RX2 95 "Greenwheels$Fraction" "lower" "J") (by decide +kernel)
  have hin_X1 : ∀ w ∈ u_ws RX1 TX1 2, w ∈ wsX2_isPeriodRight := by decide +kernel
  refine lv_aload_n hx hb dX2_isPeriodRight_0 rfl (lv_at hl 0 rfl) ?_
  have hPc : va_P (dC, dI) vwCl ([(g, .inr (iX2, [.int (nI n), .ref xa, .ref xt, .ref xm, .ref wh, .ref st, .ref xb, .ref xc])), (xb, .inl (cF, 7, .inr (.inr (.inr (.inr (bc))))))] ++ va_pl LP (fe v)) _ := hR.part [0, 1] rfl
  have hFc := frZ hS hA
  refine va_calll (va_runV (As := []) (rest := []) ⟨hx, hb, hml, hown, hts⟩ (c_X2_turnsToReturn l dC dI cI cF tr (s.heap).size g n xa xt xm wh st xb xc bc LP v (by assumption) (by assumption)) (cwV 0 hts gX2_isPeriodRight_X2_turnsToReturn rfl rfl rfl (by decide +kernel) ⟨Nat.le_of_ble_eq_true rfl, Nat.le_of_ble_eq_true rfl⟩) ⟨cBl, (va_recv hK hPc (ci := iX2) (q0 := 0) rfl rfl), (cPre hPc hK hN)⟩ rfl rfl hl.1 rfl (lv_room (Nat.le_of_ble_eq_true rfl)) dX2_isPeriodRight_1 ⟨(Nat.le_of_ble_eq_true rfl), (Nat.le_of_ble_eq_true rfl)⟩) hS (fun q _ h => hFc q h) hFc (fun r_1 u t H1 locs ht hvm hw_r_1 hB hz1 hk1 hS => ?_)
  refine W.widen (k := 0) (n := 0) (Nat.le_refl _) (Nat.le_refl _) ?_
  have hP := keepP hP hk1
  have hR := keepP hR hk1
  generalize H1 = H at hP hR hS ⊢
  have hP : va_P (dC, dI) vwCl ([]) H := hP
  try dsimp only at hw_r_1
  subst hw_r_1
  refine lv_lstore_n (lv' := [(1, .long (ptL st bc v 7)), (0, .ref g)]) hx hb dX2_isPeriodRight_4 rfl hl (by decide) rfl (fun ls hl => ?_)
  refine lv_iconst (v := 0) hx hb dX2_isPeriodRight_5 (by decide) ?_
  refine lv_istore_n (lv' := [(3, .int 0), (1, .long (ptL st bc v 7)), (0, .ref g)]) hx hb dX2_isPeriodRight_6 rfl hl (by decide) rfl (fun ls hl => ?_)
  have K7 : ∀ (NN : Nat), ∀ (k : Nat), (7 - k) < NN → (k ≤ 7) → (iprL (ptL st bc v 7) st bc v (7 - k) k = iprL (ptL st bc v 7) st bc v 7 0) → ∀ (H : Heap) (locs : List Loc) (ls : Array Slot), va_P (dC, dI) vwCl ([]) H → va_S A s.heap H locs → lv_has ls 6 [(0, .ref g), (1, .long (ptL st bc v 7)), (3, .int (nI k))] → W p l e (headSpec wsX2_isPeriodRight ({ frames := 3, cells := 0, slots := 0, locals := 70 } : Room)).room s m #[Value.ref g] below meth c H locs (0) (0) (MQ below (va_Qi (fun (r : Int32) (_ : Unit) => r = iprL (ptL st bc v 7) st bc v 7 0) (fun _ _ => True) A) #[Value.ref g] s 0 0 A) (F0 m 7 ls []) := by
    intro NN
    induction NN with
    | zero =>
      intro k hmu hk hacc H locs ls hP hS hl
      exact absurd hmu (Nat.not_lt_zero _)
    | succ NN ih7 =>
      intro k hmu hk hacc H locs ls hP hS hl
      have hR := keepR hR0 hS hAn
      refine lv_iload_n hx hb dX2_isPeriodRight_7 rfl (lv_at hl 2 rfl) ?_
      refine lv_bipush (v := 7) hx hb dX2_isPeriodRight_8 (by decide) ?_
      refine lv_icmp_ge (tgt := 47) hx hb dX2_isPeriodRight_10 (by decide) (fun c_2 => ?_) (fun c_2 => ?_)
      · have hke : 7 ≤ k := leK (by omega) (by omega) c_2
        obtain rfl : k = 7 := by omega
        refine lv_lload_n hx hb dX2_isPeriodRight_47 rfl (lv_at hl 1 rfl) ?_
        refine lv_lconst (v := 0) hx hb dX2_isPeriodRight_48 (by decide) ?_
        refine W.lcmp hx hb dX2_isPeriodRight_49 ?_
        refine lv_if_le (tgt := 57) hx hb dX2_isPeriodRight_50 (by decide) (fun c_3 => ?_) (fun c_3 => ?_)
        · rw [lg_cmp_le] at c_3
          refine lv_iconst (v := 0) hx hb dX2_isPeriodRight_57 (by decide) ?_
          refine W.widen (k := 0) (n := 0) (by omega) (by omega) ?_
          exact W.zret (v := 0) hx hb hr (by first | rfl | simp [narrow] | assumption) (fun t ht hW => ⟨⟨0, (), rfl, (by rw [← hacc]; simp [iprL, c_3]), trivial⟩, hS.F ht⟩) hS.2.2 dX2_isPeriodRight_58
        · rw [lg_cmp_le] at c_3
          refine lv_iconst (v := 1) hx hb dX2_isPeriodRight_53 (by decide) ?_
          refine lv_goto (tgt := 58) hx hb dX2_isPeriodRight_54 (by decide) ?_
          refine W.widen (k := 0) (n := 0) (by omega) (by omega) ?_
          exact W.zret (v := 1) hx hb hr (by first | rfl | simp [narrow] | assumption) (fun t ht hW => ⟨⟨1, (), rfl, (by rw [← hacc]; simp [iprL, c_3]), trivial⟩, hS.F ht⟩) hS.2.2 dX2_isPeriodRight_58
      · have hkl : k < 7 := ltK (by omega) (by omega) c_2
        refine lv_aload_n hx hb dX2_isPeriodRight_13 rfl (lv_at hl 0 rfl) ?_
        refine lv_iload_n hx hb dX2_isPeriodRight_14 rfl (lv_at hl 2 rfl) ?_
        have hPc : va_P (dC, dI) vwCl ([(g, .inr (iX2, [.int (nI n), .ref xa, .ref xt, .ref xm, .ref wh, .ref st, .ref xb, .ref xc])), (xb, .inl (cF, 7, .inr (.inr (.inr (.inr (bc))))))]) _ := hR.sub [0, 1] rfl
        have hFc := frZ hS hA
        refine va_callr (va_runV (As := [.int (nI k)]) (rest := []) ⟨hx, hb, hml, hown, hts⟩ (c_X2_rateOf l dC dI cI cF tr (H).size g n xa xt xm wh st xb xc bc (nI k)) (cwV 1 hts gX2_isPeriodRight_X2_rateOf rfl rfl rfl (by decide +kernel) ⟨Nat.le_of_ble_eq_true rfl, Nat.le_of_ble_eq_true rfl⟩) ⟨cBl, (va_recv hK hPc (ci := iX2) (q0 := 0) rfl rfl), (cPre hPc hK hN)⟩ rfl rfl hl.1 rfl (lv_room (Nat.le_of_ble_eq_true rfl)) dX2_isPeriodRight_15 ⟨(Nat.le_of_ble_eq_true rfl), (Nat.le_of_ble_eq_true rfl)⟩) hS (fun q _ h => hFc q h) hFc (fun u r_4 t H1 locs ht hvm hw_r_4 hB hz1 hk1 hS => ?_)
        refine W.widen (k := 0) (n := 0) (Nat.le_refl _) (Nat.le_refl _) ?_
        have hP := keepP hP hk1
        have hR := keepP hR hk1
        generalize H1 = H at hP hR hS ⊢
        have hP : va_P (dC, dI) vwCl ([]) H := hP
        try dsimp only at hB
        subst hB
        refine va_get (D := (dC, dI)) (ci := iX1) (v := .long ((v (rtA st bc (nI k))).2)) (C := RX1) (T := TX1) (N := 2) hx hb hts hin_X1 hown hK (poolP hR (rtA_mem hst hbc (nI k))) 0 rfl rfl 1 (by decide) hfl_95 (fun _ h9 => h9) rfl dX2_isPeriodRight_18 ?_
        refine lv_lstore (lv' := [(4, .long ((v (rtA st bc (nI k))).2)), (0, .ref g), (1, .long (ptL st bc v 7)), (3, .int (nI k))]) hx hb dX2_isPeriodRight_21 hl (by decide) rfl (fun ls hl => ?_)
        refine lv_lload hx hb dX2_isPeriodRight_23 (lv_at hl 0 rfl) ?_
        refine lv_lconst (v := 0) hx hb dX2_isPeriodRight_25 (by decide) ?_
        refine W.lcmp hx hb dX2_isPeriodRight_26 ?_
        refine lv_if_le (tgt := 41) hx hb dX2_isPeriodRight_27 (by decide) (fun c_5 => ?_) (fun c_5 => ?_)
        · rw [lg_cmp_le] at c_5
          refine lv_iinc (v := nI (k + 1)) (lv' := [(3, .int (nI (k + 1))), (4, .long ((v (rtA st bc (nI k))).2)), (0, .ref g), (1, .long (ptL st bc v 7))]) hx hb dX2_isPeriodRight_41 hl (k := 3) rfl (nI_1 k) (by decide) rfl (fun ls hl => ?_)
          refine lv_goto (tgt := 7) hx hb dX2_isPeriodRight_44 (by decide) ?_
          refine W.widen (k := 0) (n := 0) (by omega) (by omega) ?_
          exact ih7 (k + 1) (by omega) hkl (by rw [← hacc, show 7 - k = (7 - (k + 1)) + 1 by omega]; simp [iprL, c_2, c_5]) _ _ ls hP hS (lv_sub hl [2, 3, 0] rfl)
        · rw [lg_cmp_le] at c_5
          refine lv_lload_n hx hb dX2_isPeriodRight_30 rfl (lv_at hl 2 rfl) ?_
          refine lv_lload hx hb dX2_isPeriodRight_31 (lv_at hl 0 rfl) ?_
          refine lv_lrem hx hb dX2_isPeriodRight_33 (neOfLe0 c_5) ?_
          refine lv_lconst (v := 0) hx hb dX2_isPeriodRight_34 (by decide) ?_
          refine W.lcmp hx hb dX2_isPeriodRight_35 ?_
          refine lv_if_eq (tgt := 41) hx hb dX2_isPeriodRight_36 (by decide) (fun c_6 => ?_) (fun c_6 => ?_)
          · rw [lg_cmp_eq] at c_6
            refine lv_iinc (v := nI (k + 1)) (lv' := [(3, .int (nI (k + 1))), (4, .long ((v (rtA st bc (nI k))).2)), (0, .ref g), (1, .long (ptL st bc v 7))]) hx hb dX2_isPeriodRight_41 hl (k := 3) rfl (nI_1 k) (by decide) rfl (fun ls hl => ?_)
            refine lv_goto (tgt := 7) hx hb dX2_isPeriodRight_44 (by decide) ?_
            refine W.widen (k := 0) (n := 0) (by omega) (by omega) ?_
            exact ih7 (k + 1) (by omega) hkl (by rw [← hacc, show 7 - k = (7 - (k + 1)) + 1 by omega]; simp [iprL, c_5, c_6]) _ _ ls hP hS (lv_sub hl [2, 3, 0] rfl)
          · rw [lg_cmp_eq] at c_6
            refine lv_iconst (v := 0) hx hb dX2_isPeriodRight_39 (by decide) ?_
            refine W.widen (k := 0) (n := 0) (by omega) (by omega) ?_
            exact W.zret (v := 0) hx hb hr (by first | rfl | simp [narrow] | assumption) (fun t ht hW => ⟨⟨0, (), rfl, (by rw [← hacc, show 7 - k = (7 - (k + 1)) + 1 by omega]; simp [iprL, c_5, c_6]), trivial⟩, hS.F ht⟩) hS.2.2 dX2_isPeriodRight_40
  refine W.widen (k := 0) (n := 0) (by omega) (by omega) ?_
  exact K7 (7 - 0 + 1) 0 (by omega) (Nat.zero_le _) rfl _ _ ls hP hS (lv_sub hl [2, 1, 0] rfl)
