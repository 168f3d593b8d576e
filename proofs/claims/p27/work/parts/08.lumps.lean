/-! the lumps -/
def agL (te dg db : Nat → Int32) (c : Int32) : Nat → Nat → Int32
  | 0, _ => 1
  | r + 1, p => if absI (c * atF 36 dg (nI p) - 360 * atF 36 te (nI p)) ≤ c * atF 36 db (nI p) then agL te dg db c r (p + 1) else 0
def wgS (F : Int32 → Int32) (k : Nat) (s : Int32 × Int32 × Int32) : Int32 × Int32 × Int32 := if F (nI (4 + k)) = 0 then s else (s.1 + 1, if s.2.1 = -1 then nI (4 + k) else s.2.1, nI (4 + k))
def wgL (F : Int32 → Int32) : Nat → Int32 × Int32 × Int32
  | 0 => (0, -1, -1)
  | k + 1 => wgS F k (wgL F k)
def cpL (pc : Nat → Int32) : Nat → Int32
  | 0 => 0
  | k + 1 => cpL pc k + atF 6 pc (nI k)

set_option maxHeartbeats 4000000 in
set_option maxRecDepth 100000 in
theorem c_X3_piecesOf (l : Launch) (dC : Nat → ClassId) (dI : Nat → Nat → Nat) (cI cF : ClassId) (tr : List (ClassId × FieldType)) (sz : Nat) (g : Nat) (xp : Nat) (xt : Nat) (xd : Nat) (xq : Nat) (xg : Nat) (xl : Nat) (xh : Nat) (pc : Nat → Int32) (i : Int32) : Met l yX3_piecesOf wsX3_piecesOf ({ frames := 1, cells := 0, slots := 0, locals := 21 } : Room) (cPc dC dI ((cI, .int) :: (cF, .object RX1) :: tr) sz ([(g, .inr (iX3, [.ref xp, .ref xt, .ref xd, .ref xq, .ref xg, .ref xl, .ref xh])), (xp, .inl (cI, 6, .inl (pc)))]) [.ref g, .int i]) (va_Qi (fun (r : Int32) (_ : Unit) => r = atF 6 pc i) (fun _ _ => True) (va_A ([]) sz)) 0 0 (va_A ([]) sz) := by
  refine Met.ofW (cc := cX3_piecesOf) (maxL := 2) (ret := (some .int)) (by decide) rfl ?_
  intro p e s m args below meth c s₁ B hml hv
  obtain ⟨rfl, hsz, hP, hK, hN⟩ := hv
  have hx := B.exec
  have hb := B.bytes
  have hr := B.returns
  have hts := atoms_spec (ws := wsX3_piecesOf) B.pre
  have hown : s.vm.findClass RX3 = some m.cls := findClass_of_methodNamed B.named
  have hlocks := B.notSynchronized
  subst hsz
  generalize hAe : va_A [] s.heap.size = A
  have hA : ∀ q : Nat, s.heap.size ≤ q → A q := fun q h => by rw [← hAe]; exact Or.inr h
  have hS : va_S A s.heap s.heap [] := va_S.rf
  have hAn : ∀ q : Nat, q < s.heap.size → ¬ A q := fun q h => by rw [← hAe]; exact notZ h
  have hAg : ∀ q : Nat, A q → s.heap.size ≤ q := fun q h => geZ (hAe ▸ h)
  have hR0 : va_P (dC, dI) vwCl ([(g, .inr (iX3, [.ref xp, .ref xt, .ref xd, .ref xq, .ref xg, .ref xl, .ref xh])), (xp, .inl (cI, 6, .inl (pc)))]) s.heap := hP
  have hR : va_P (dC, dI) vwCl ([(g, .inr (iX3, [.ref xp, .ref xt, .ref xd, .ref xq, .ref xg, .ref xl, .ref xh])), (xp, .inl (cI, 6, .inl (pc)))]) s.heap := hP
  have hP : va_P (dC, dI) vwCl [] s.heap := fun k q h => by simp at h
  have hD : va_D A [] := ⟨fun i j p q h => by simp at h, fun k q h => by simp at h⟩
  have hl := lv_entry ([.ref g, .int i]) (n := 2) (Nat.le_of_ble_eq_true rfl)
  rw [lg_entry_eq]
  generalize (lg_sl ([.ref g, .int i]) ++ List.replicate (2 - (lg_sl ([.ref g, .int i])).length) Slot.unset).toArray = ls at hl ⊢
  have hl : lv_has ls 2 [(0, .ref g), (1, .int i)] := hl
  have hfl_9 := hts (.fieldLink RX3 9 "Greenwheels$Lumps" "pieces" "[I") (by decide +kernel)
  have hin_X3 : ∀ w ∈ u_ws RX3 TX3 7, w ∈ wsX3_piecesOf := by decide +kernel
  have hw_iniX5 := hts (.initialized RX5) (by decide +kernel)
  have hw_staX5_at := hts (.static yX5_at) (by decide +kernel)
  refine lv_aload_n hx hb dX3_piecesOf_0 rfl (lv_at hl 0 rfl) ?_
  refine va_get (D := (dC, dI)) (ci := iX3) (v := .ref xp) (C := RX3) (T := TX3) (N := 7) hx hb hts hin_X3 hown hK hR 0 rfl rfl 0 (by decide) hfl_9 (fun _ h9 => h9) rfl dX3_piecesOf_1 ?_
  refine lv_iload_n hx hb dX3_piecesOf_4 rfl (lv_at hl 1 rfl) ?_
  have hPc : va_P (dC, dI) vwCl ([(xp, .inl (cI, 6, .inl (pc)))]) _ := hR.sub [1] rfl
  have hFc := frZ hS hA
  refine va_calli (va_runSN (host := RX5) (As := [.ref xp, .int i]) (rest := []) ⟨hx, hb, hml, hown, hts⟩ (c_X5_at l dC dI cI cF tr (s.heap).size xp 6 pc i (by decide)) ⟨va_cnB 2 hts gX3_piecesOf_X5_at_n37 rfl rfl rfl (nwAt hN (RX3, 37, yX5_at) (by decide +kernel)) hw_iniX5 (by decide +kernel) ⟨Nat.le_of_ble_eq_true rfl, Nat.le_of_ble_eq_true rfl⟩, hw_staX5_at, trivial⟩ ⟨cBl, (cPre hPc hK hN)⟩ rfl rfl hl.1 rfl (lv_room (Nat.le_of_ble_eq_true rfl)) dX3_piecesOf_5 ⟨(Nat.le_of_ble_eq_true rfl), (Nat.le_of_ble_eq_true rfl)⟩) hS (fun q _ h => hFc q h) hFc (fun r_1 u t H1 locs ht hvm hw_r_1 hB hz1 hk1 hS => ?_)
  refine W.widen (k := 0) (n := 0) (Nat.le_refl _) (Nat.le_refl _) ?_
  have hP := keepP hP hk1
  have hR := keepP hR hk1
  generalize H1 = H at hP hR hS ⊢
  have hP : va_P (dC, dI) vwCl ([]) H := hP
  try dsimp only at hw_r_1
  subst hw_r_1
  refine W.widen (k := 0) (n := 0) (by omega) (by omega) ?_
  exact W.iret (v := atF 6 pc i) hx hb hr (fun t ht hW => ⟨⟨atF 6 pc i, (), rfl, (by first | (simp []; done) | contradiction), trivial⟩, hS.F ht⟩) hS.2.2 dX3_piecesOf_8

set_option maxHeartbeats 4000000 in
set_option maxRecDepth 100000 in
theorem c_X3_agreeingOf (l : Launch) (dC : Nat → ClassId) (dI : Nat → Nat → Nat) (cI cF : ClassId) (tr : List (ClassId × FieldType)) (sz : Nat) (g : Nat) (xp : Nat) (xt : Nat) (xd : Nat) (xq : Nat) (xg : Nat) (xl : Nat) (xh : Nat) (ag : Nat → Int32) (i : Int32) : Met l yX3_agreeingOf wsX3_agreeingOf ({ frames := 1, cells := 0, slots := 0, locals := 21 } : Room) (cPc dC dI ((cI, .int) :: (cF, .object RX1) :: tr) sz ([(g, .inr (iX3, [.ref xp, .ref xt, .ref xd, .ref xq, .ref xg, .ref xl, .ref xh])), (xg, .inl (cI, 6, .inl (ag)))]) [.ref g, .int i]) (va_Qi (fun (r : Int32) (_ : Unit) => r = atF 6 ag i) (fun _ _ => True) (va_A ([]) sz)) 0 0 (va_A ([]) sz) := by
  refine Met.ofW (cc := cX3_agreeingOf) (maxL := 2) (ret := (some .int)) (by decide) rfl ?_
  intro p e s m args below meth c s₁ B hml hv
  obtain ⟨rfl, hsz, hP, hK, hN⟩ := hv
  have hx := B.exec
  have hb := B.bytes
  have hr := B.returns
  have hts := atoms_spec (ws := wsX3_agreeingOf) B.pre
  have hown : s.vm.findClass RX3 = some m.cls := findClass_of_methodNamed B.named
  have hlocks := B.notSynchronized
  subst hsz
  generalize hAe : va_A [] s.heap.size = A
  have hA : ∀ q : Nat, s.heap.size ≤ q → A q := fun q h => by rw [← hAe]; exact Or.inr h
  have hS : va_S A s.heap s.heap [] := va_S.rf
  have hAn : ∀ q : Nat, q < s.heap.size → ¬ A q := fun q h => by rw [← hAe]; exact notZ h
  have hAg : ∀ q : Nat, A q → s.heap.size ≤ q := fun q h => geZ (hAe ▸ h)
  have hR0 : va_P (dC, dI) vwCl ([(g, .inr (iX3, [.ref xp, .ref xt, .ref xd, .ref xq, .ref xg, .ref xl, .ref xh])), (xg, .inl (cI, 6, .inl (ag)))]) s.heap := hP
  have hR : va_P (dC, dI) vwCl ([(g, .inr (iX3, [.ref xp, .ref xt, .ref xd, .ref xq, .ref xg, .ref xl, .ref xh])), (xg, .inl (cI, 6, .inl (ag)))]) s.heap := hP
  have hP : va_P (dC, dI) vwCl [] s.heap := fun k q h => by simp at h
  have hD : va_D A [] := ⟨fun i j p q h => by simp at h, fun k q h => by simp at h⟩
  have hl := lv_entry ([.ref g, .int i]) (n := 2) (Nat.le_of_ble_eq_true rfl)
  rw [lg_entry_eq]
  generalize (lg_sl ([.ref g, .int i]) ++ List.replicate (2 - (lg_sl ([.ref g, .int i])).length) Slot.unset).toArray = ls at hl ⊢
  have hl : lv_has ls 2 [(0, .ref g), (1, .int i)] := hl
  have hfl_24 := hts (.fieldLink RX3 24 "Greenwheels$Lumps" "agreeing" "[I") (by decide +kernel)
  have hin_X3 : ∀ w ∈ u_ws RX3 TX3 7, w ∈ wsX3_agreeingOf := by decide +kernel
  have hw_iniX5 := hts (.initialized RX5) (by decide +kernel)
  have hw_staX5_at := hts (.static yX5_at) (by decide +kernel)
  refine lv_aload_n hx hb dX3_agreeingOf_0 rfl (lv_at hl 0 rfl) ?_
  refine va_get (D := (dC, dI)) (ci := iX3) (v := .ref xg) (C := RX3) (T := TX3) (N := 7) hx hb hts hin_X3 hown hK hR 0 rfl rfl 4 (by decide) hfl_24 (fun _ h9 => h9) rfl dX3_agreeingOf_1 ?_
  refine lv_iload_n hx hb dX3_agreeingOf_4 rfl (lv_at hl 1 rfl) ?_
  have hPc : va_P (dC, dI) vwCl ([(xg, .inl (cI, 6, .inl (ag)))]) _ := hR.sub [1] rfl
  have hFc := frZ hS hA
  refine va_calli (va_runSN (host := RX5) (As := [.ref xg, .int i]) (rest := []) ⟨hx, hb, hml, hown, hts⟩ (c_X5_at l dC dI cI cF tr (s.heap).size xg 6 ag i (by decide)) ⟨va_cnB 2 hts gX3_agreeingOf_X5_at_n37 rfl rfl rfl (nwAt hN (RX3, 37, yX5_at) (by decide +kernel)) hw_iniX5 (by decide +kernel) ⟨Nat.le_of_ble_eq_true rfl, Nat.le_of_ble_eq_true rfl⟩, hw_staX5_at, trivial⟩ ⟨cBl, (cPre hPc hK hN)⟩ rfl rfl hl.1 rfl (lv_room (Nat.le_of_ble_eq_true rfl)) dX3_agreeingOf_5 ⟨(Nat.le_of_ble_eq_true rfl), (Nat.le_of_ble_eq_true rfl)⟩) hS (fun q _ h => hFc q h) hFc (fun r_1 u t H1 locs ht hvm hw_r_1 hB hz1 hk1 hS => ?_)
  refine W.widen (k := 0) (n := 0) (Nat.le_refl _) (Nat.le_refl _) ?_
  have hP := keepP hP hk1
  have hR := keepP hR hk1
  generalize H1 = H at hP hR hS ⊢
  have hP : va_P (dC, dI) vwCl ([]) H := hP
  try dsimp only at hw_r_1
  subst hw_r_1
  refine W.widen (k := 0) (n := 0) (by omega) (by omega) ?_
  exact W.iret (v := atF 6 ag i) hx hb hr (fun t ht hW => ⟨⟨atF 6 ag i, (), rfl, (by first | (simp []; done) | contradiction), trivial⟩, hS.F ht⟩) hS.2.2 dX3_agreeingOf_8

set_option maxHeartbeats 4000000 in
set_option maxRecDepth 100000 in
theorem c_X3_leastOf (l : Launch) (dC : Nat → ClassId) (dI : Nat → Nat → Nat) (cI cF : ClassId) (tr : List (ClassId × FieldType)) (sz : Nat) (g : Nat) (xp : Nat) (xt : Nat) (xd : Nat) (xq : Nat) (xg : Nat) (xl : Nat) (xh : Nat) (le : Nat → Int32) (i : Int32) : Met l yX3_leastOf wsX3_leastOf ({ frames := 1, cells := 0, slots := 0, locals := 21 } : Room) (cPc dC dI ((cI, .int) :: (cF, .object RX1) :: tr) sz ([(g, .inr (iX3, [.ref xp, .ref xt, .ref xd, .ref xq, .ref xg, .ref xl, .ref xh])), (xl, .inl (cI, 6, .inl (le)))]) [.ref g, .int i]) (va_Qi (fun (r : Int32) (_ : Unit) => r = atF 6 le i) (fun _ _ => True) (va_A ([]) sz)) 0 0 (va_A ([]) sz) := by
  refine Met.ofW (cc := cX3_leastOf) (maxL := 2) (ret := (some .int)) (by decide) rfl ?_
  intro p e s m args below meth c s₁ B hml hv
  obtain ⟨rfl, hsz, hP, hK, hN⟩ := hv
  have hx := B.exec
  have hb := B.bytes
  have hr := B.returns
  have hts := atoms_spec (ws := wsX3_leastOf) B.pre
  have hown : s.vm.findClass RX3 = some m.cls := findClass_of_methodNamed B.named
  have hlocks := B.notSynchronized
  subst hsz
  generalize hAe : va_A [] s.heap.size = A
  have hA : ∀ q : Nat, s.heap.size ≤ q → A q := fun q h => by rw [← hAe]; exact Or.inr h
  have hS : va_S A s.heap s.heap [] := va_S.rf
  have hAn : ∀ q : Nat, q < s.heap.size → ¬ A q := fun q h => by rw [← hAe]; exact notZ h
  have hAg : ∀ q : Nat, A q → s.heap.size ≤ q := fun q h => geZ (hAe ▸ h)
  have hR0 : va_P (dC, dI) vwCl ([(g, .inr (iX3, [.ref xp, .ref xt, .ref xd, .ref xq, .ref xg, .ref xl, .ref xh])), (xl, .inl (cI, 6, .inl (le)))]) s.heap := hP
  have hR : va_P (dC, dI) vwCl ([(g, .inr (iX3, [.ref xp, .ref xt, .ref xd, .ref xq, .ref xg, .ref xl, .ref xh])), (xl, .inl (cI, 6, .inl (le)))]) s.heap := hP
  have hP : va_P (dC, dI) vwCl [] s.heap := fun k q h => by simp at h
  have hD : va_D A [] := ⟨fun i j p q h => by simp at h, fun k q h => by simp at h⟩
  have hl := lv_entry ([.ref g, .int i]) (n := 2) (Nat.le_of_ble_eq_true rfl)
  rw [lg_entry_eq]
  generalize (lg_sl ([.ref g, .int i]) ++ List.replicate (2 - (lg_sl ([.ref g, .int i])).length) Slot.unset).toArray = ls at hl ⊢
  have hl : lv_has ls 2 [(0, .ref g), (1, .int i)] := hl
  have hfl_27 := hts (.fieldLink RX3 27 "Greenwheels$Lumps" "least" "[I") (by decide +kernel)
  have hin_X3 : ∀ w ∈ u_ws RX3 TX3 7, w ∈ wsX3_leastOf := by decide +kernel
  have hw_iniX5 := hts (.initialized RX5) (by decide +kernel)
  have hw_staX5_at := hts (.static yX5_at) (by decide +kernel)
  refine lv_aload_n hx hb dX3_leastOf_0 rfl (lv_at hl 0 rfl) ?_
  refine va_get (D := (dC, dI)) (ci := iX3) (v := .ref xl) (C := RX3) (T := TX3) (N := 7) hx hb hts hin_X3 hown hK hR 0 rfl rfl 5 (by decide) hfl_27 (fun _ h9 => h9) rfl dX3_leastOf_1 ?_
  refine lv_iload_n hx hb dX3_leastOf_4 rfl (lv_at hl 1 rfl) ?_
  have hPc : va_P (dC, dI) vwCl ([(xl, .inl (cI, 6, .inl (le)))]) _ := hR.sub [1] rfl
  have hFc := frZ hS hA
  refine va_calli (va_runSN (host := RX5) (As := [.ref xl, .int i]) (rest := []) ⟨hx, hb, hml, hown, hts⟩ (c_X5_at l dC dI cI cF tr (s.heap).size xl 6 le i (by decide)) ⟨va_cnB 2 hts gX3_leastOf_X5_at_n37 rfl rfl rfl (nwAt hN (RX3, 37, yX5_at) (by decide +kernel)) hw_iniX5 (by decide +kernel) ⟨Nat.le_of_ble_eq_true rfl, Nat.le_of_ble_eq_true rfl⟩, hw_staX5_at, trivial⟩ ⟨cBl, (cPre hPc hK hN)⟩ rfl rfl hl.1 rfl (lv_room (Nat.le_of_ble_eq_true rfl)) dX3_leastOf_5 ⟨(Nat.le_of_ble_eq_true rfl), (Nat.le_of_ble_eq_true rfl)⟩) hS (fun q _ h => hFc q h) hFc (fun r_1 u t H1 locs ht hvm hw_r_1 hB hz1 hk1 hS => ?_)
  refine W.widen (k := 0) (n := 0) (Nat.le_refl _) (Nat.le_refl _) ?_
  have hP := keepP hP hk1
  have hR := keepP hR hk1
  generalize H1 = H at hP hR hS ⊢
  have hP : va_P (dC, dI) vwCl ([]) H := hP
  try dsimp only at hw_r_1
  subst hw_r_1
  refine W.widen (k := 0) (n := 0) (by omega) (by omega) ?_
  exact W.iret (v := atF 6 le i) hx hb hr (fun t ht hW => ⟨⟨atF 6 le i, (), rfl, (by first | (simp []; done) | contradiction), trivial⟩, hS.F ht⟩) hS.2.2 dX3_leastOf_8

set_option maxHeartbeats 4000000 in
set_option maxRecDepth 100000 in
theorem c_X3_greatestOf (l : Launch) (dC : Nat → ClassId) (dI : Nat → Nat → Nat) (cI cF : ClassId) (tr : List (ClassId × FieldType)) (sz : Nat) (g : Nat) (xp : Nat) (xt : Nat) (xd : Nat) (xq : Nat) (xg : Nat) (xl : Nat) (xh : Nat) (gr : Nat → Int32) (i : Int32) : Met l yX3_greatestOf wsX3_greatestOf ({ frames := 1, cells := 0, slots := 0, locals := 21 } : Room) (cPc dC dI ((cI, .int) :: (cF, .object RX1) :: tr) sz ([(g, .inr (iX3, [.ref xp, .ref xt, .ref xd, .ref xq, .ref xg, .ref xl, .ref xh])), (xh, .inl (cI, 6, .inl (gr)))]) [.ref g, .int i]) (va_Qi (fun (r : Int32) (_ : Unit) => r = atF 6 gr i) (fun _ _ => True) (va_A ([]) sz)) 0 0 (va_A ([]) sz) := by
  refine Met.ofW (cc := cX3_greatestOf) (maxL := 2) (ret := (some .int)) (by decide) rfl ?_
  intro p e s m args below meth c s₁ B hml hv
  obtain ⟨rfl, hsz, hP, hK, hN⟩ := hv
  have hx := B.exec
  have hb := B.bytes
  have hr := B.returns
  have hts := atoms_spec (ws := wsX3_greatestOf) B.pre
  have hown : s.vm.findClass RX3 = some m.cls := findClass_of_methodNamed B.named
  have hlocks := B.notSynchronized
  subst hsz
  generalize hAe : va_A [] s.heap.size = A
  have hA : ∀ q : Nat, s.heap.size ≤ q → A q := fun q h => by rw [← hAe]; exact Or.inr h
  have hS : va_S A s.heap s.heap [] := va_S.rf
  have hAn : ∀ q : Nat, q < s.heap.size → ¬ A q := fun q h => by rw [← hAe]; exact notZ h
  have hAg : ∀ q : Nat, A q → s.heap.size ≤ q := fun q h => geZ (hAe ▸ h)
  have hR0 : va_P (dC, dI) vwCl ([(g, .inr (iX3, [.ref xp, .ref xt, .ref xd, .ref xq, .ref xg, .ref xl, .ref xh])), (xh, .inl (cI, 6, .inl (gr)))]) s.heap := hP
  have hR : va_P (dC, dI) vwCl ([(g, .inr (iX3, [.ref xp, .ref xt, .ref xd, .ref xq, .ref xg, .ref xl, .ref xh])), (xh, .inl (cI, 6, .inl (gr)))]) s.heap := hP
  have hP : va_P (dC, dI) vwCl [] s.heap := fun k q h => by simp at h
  have hD : va_D A [] := ⟨fun i j p q h => by simp at h, fun k q h => by simp at h⟩
  have hl := lv_entry ([.ref g, .int i]) (n := 2) (Nat.le_of_ble_eq_true rfl)
  rw [lg_entry_eq]
  generalize (lg_sl ([.ref g, .int i]) ++ List.replicate (2 - (lg_sl ([.ref g, .int i])).length) Slot.unset).toArray = ls at hl ⊢
  have hl : lv_has ls 2 [(0, .ref g), (1, .int i)] := hl
  have hfl_30 := hts (.fieldLink RX3 30 "Greenwheels$Lumps" "greatest" "[I") (by decide +kernel)
  have hin_X3 : ∀ w ∈ u_ws RX3 TX3 7, w ∈ wsX3_greatestOf := by decide +kernel
  have hw_iniX5 := hts (.initialized RX5) (by decide +kernel)
  have hw_staX5_at := hts (.static yX5_at) (by decide +kernel)
  refine lv_aload_n hx hb dX3_greatestOf_0 rfl (lv_at hl 0 rfl) ?_
  refine va_get (D := (dC, dI)) (ci := iX3) (v := .ref xh) (C := RX3) (T := TX3) (N := 7) hx hb hts hin_X3 hown hK hR 0 rfl rfl 6 (by decide) hfl_30 (fun _ h9 => h9) rfl dX3_greatestOf_1 ?_
  refine lv_iload_n hx hb dX3_greatestOf_4 rfl (lv_at hl 1 rfl) ?_
  have hPc : va_P (dC, dI) vwCl ([(xh, .inl (cI, 6, .inl (gr)))]) _ := hR.sub [1] rfl
  have hFc := frZ hS hA
  refine va_calli (va_runSN (host := RX5) (As := [.ref xh, .int i]) (rest := []) ⟨hx, hb, hml, hown, hts⟩ (c_X5_at l dC dI cI cF tr (s.heap).size xh 6 gr i (by decide)) ⟨va_cnB 2 hts gX3_greatestOf_X5_at_n37 rfl rfl rfl (nwAt hN (RX3, 37, yX5_at) (by decide +kernel)) hw_iniX5 (by decide +kernel) ⟨Nat.le_of_ble_eq_true rfl, Nat.le_of_ble_eq_true rfl⟩, hw_staX5_at, trivial⟩ ⟨cBl, (cPre hPc hK hN)⟩ rfl rfl hl.1 rfl (lv_room (Nat.le_of_ble_eq_true rfl)) dX3_greatestOf_5 ⟨(Nat.le_of_ble_eq_true rfl), (Nat.le_of_ble_eq_true rfl)⟩) hS (fun q _ h => hFc q h) hFc (fun r_1 u t H1 locs ht hvm hw_r_1 hB hz1 hk1 hS => ?_)
  refine W.widen (k := 0) (n := 0) (Nat.le_refl _) (Nat.le_refl _) ?_
  have hP := keepP hP hk1
  have hR := keepP hR hk1
  generalize H1 = H at hP hR hS ⊢
  have hP : va_P (dC, dI) vwCl ([]) H := hP
  try dsimp only at hw_r_1
  subst hw_r_1
  refine W.widen (k := 0) (n := 0) (by omega) (by omega) ?_
  exact W.iret (v := atF 6 gr i) hx hb hr (fun t ht hW => ⟨⟨atF 6 gr i, (), rfl, (by first | (simp []; done) | contradiction), trivial⟩, hS.F ht⟩) hS.2.2 dX3_greatestOf_8

set_option maxHeartbeats 4000000 in
set_option maxRecDepth 100000 in
theorem c_X3_countPieces (l : Launch) (dC : Nat → ClassId) (dI : Nat → Nat → Nat) (cI cF : ClassId) (tr : List (ClassId × FieldType)) (sz : Nat) (g : Nat) (xp : Nat) (xt : Nat) (xd : Nat) (xq : Nat) (xg : Nat) (xl : Nat) (xh : Nat) (pc : Nat → Int32) : Met l yX3_countPieces wsX3_countPieces ({ frames := 2, cells := 0, slots := 0, locals := 42 } : Room) (cPc dC dI ((cI, .int) :: (cF, .object RX1) :: tr) sz ([(g, .inr (iX3, [.ref xp, .ref xt, .ref xd, .ref xq, .ref xg, .ref xl, .ref xh])), (xp, .inl (cI, 6, .inl (pc)))]) [.ref g]) (va_Qi (fun (r : Int32) (_ : Unit) => r = cpL pc 6) (fun _ _ => True) (va_A ([]) sz)) 0 0 (va_A ([]) sz) := by
  refine Met.ofW (cc := cX3_countPieces) (maxL := 3) (ret := (some .int)) (by decide) rfl ?_
  intro p e s m args below meth c s₁ B hml hv
  obtain ⟨rfl, hsz, hP, hK, hN⟩ := hv
  have hx := B.exec
  have hb := B.bytes
  have hr := B.returns
  have hts := atoms_spec (ws := wsX3_countPieces) B.pre
  have hown : s.vm.findClass RX3 = some m.cls := findClass_of_methodNamed B.named
  have hlocks := B.notSynchronized
  subst hsz
  generalize hAe : va_A [] s.heap.size = A
  have hA : ∀ q : Nat, s.heap.size ≤ q → A q := fun q h => by rw [← hAe]; exact Or.inr h
  have hS : va_S A s.heap s.heap [] := va_S.rf
  have hAn : ∀ q : Nat, q < s.heap.size → ¬ A q := fun q h => by rw [← hAe]; exact notZ h
  have hAg : ∀ q : Nat, A q → s.heap.size ≤ q := fun q h => geZ (hAe ▸ h)
  have hR0 : va_P (dC, dI) vwCl ([(g, .inr (iX3, [.ref xp, .ref xt, .ref xd, .ref xq, .ref xg, .ref xl, .ref xh])), (xp, .inl (cI, 6, .inl (pc)))]) s.heap := hP
  have hR : va_P (dC, dI) vwCl ([(g, .inr (iX3, [.ref xp, .ref xt, .ref xd, .ref xq, .ref xg, .ref xl, .ref xh])), (xp, .inl (cI, 6, .inl (pc)))]) s.heap := hP
  have hP : va_P (dC, dI) vwCl [] s.heap := fun k q h => by simp at h
  have hD : va_D A [] := ⟨fun i j p q h => by simp at h, fun k q h => by simp at h⟩
  have hl := lv_entry ([.ref g]) (n := 3) (Nat.le_of_ble_eq_true rfl)
  rw [lg_entry_eq]
  generalize (lg_sl ([.ref g]) ++ List.replicate (3 - (lg_sl ([.ref g])).length) Slot.unset).toArray = ls at hl ⊢
  have hl : lv_has ls 3 [(0, .ref g)] := hl
  refine lv_iconst (v := 0) hx hb dX3_countPieces_0 (by decide) ?_
  refine lv_istore_n (lv' := [(1, .int 0), (0, .ref g)]) hx hb dX3_countPieces_1 rfl hl (by decide) rfl (fun ls hl => ?_)
  refine lv_iconst (v := 0) hx hb dX3_countPieces_2 (by decide) ?_
  refine lv_istore_n (lv' := [(2, .int 0), (1, .int 0), (0, .ref g)]) hx hb dX3_countPieces_3 rfl hl (by decide) rfl (fun ls hl => ?_)
  have K4 : ∀ (NN : Nat), ∀ (k : Nat) (acc : Int32), (6 - k) < NN → (k ≤ 6) → (acc = cpL pc k) → ∀ (H : Heap) (locs : List Loc) (ls : Array Slot), va_P (dC, dI) vwCl ([]) H → va_S A s.heap H locs → lv_has ls 3 [(0, .ref g), (1, .int acc), (2, .int (nI k))] → W p l e (headSpec wsX3_countPieces ({ frames := 2, cells := 0, slots := 0, locals := 42 } : Room)).room s m #[Value.ref g] below meth c H locs (0) (0) (MQ below (va_Qi (fun (r : Int32) (_ : Unit) => r = cpL pc 6) (fun _ _ => True) A) #[Value.ref g] s 0 0 A) (F0 m 4 ls []) := by
    intro NN
    induction NN with
    | zero =>
      intro k acc hmu hk hacc H locs ls hP hS hl
      exact absurd hmu (Nat.not_lt_zero _)
    | succ NN ih4 =>
      intro k acc hmu hk hacc H locs ls hP hS hl
      have hR := keepR hR0 hS hAn
      refine lv_iload_n hx hb dX3_countPieces_4 rfl (lv_at hl 2 rfl) ?_
      refine lv_bipush (v := 6) hx hb dX3_countPieces_5 (by decide) ?_
      refine lv_icmp_ge (tgt := 24) hx hb dX3_countPieces_7 (by decide) (fun c_1 => ?_) (fun c_1 => ?_)
      · have hke : 6 ≤ k := leK (by omega) (by omega) c_1
        obtain rfl : k = 6 := by omega
        refine lv_iload_n hx hb dX3_countPieces_24 rfl (lv_at hl 1 rfl) ?_
        refine W.widen (k := 0) (n := 0) (by omega) (by omega) ?_
        exact W.iret (v := acc) hx hb hr (fun t ht hW => ⟨⟨acc, (), rfl, hacc, trivial⟩, hS.F ht⟩) hS.2.2 dX3_countPieces_25
      · have hkl : k < 6 := ltK (by omega) (by omega) c_1
        refine lv_iload_n hx hb dX3_countPieces_10 rfl (lv_at hl 1 rfl) ?_
        refine lv_aload_n hx hb dX3_countPieces_11 rfl (lv_at hl 0 rfl) ?_
        refine lv_iload_n hx hb dX3_countPieces_12 rfl (lv_at hl 2 rfl) ?_
        have hPc : va_P (dC, dI) vwCl ([(g, .inr (iX3, [.ref xp, .ref xt, .ref xd, .ref xq, .ref xg, .ref xl, .ref xh])), (xp, .inl (cI, 6, .inl (pc)))]) _ := hR.sub [0, 1] rfl
        have hFc := frZ hS hA
        refine va_calli (va_runV (As := [.int (nI k)]) (rest := [.int acc]) ⟨hx, hb, hml, hown, hts⟩ (c_X3_piecesOf l dC dI cI cF tr (H).size g xp xt xd xq xg xl xh pc (nI k)) (cwV 1 hts gX3_countPieces_X3_piecesOf rfl rfl rfl (by decide +kernel) ⟨Nat.le_of_ble_eq_true rfl, Nat.le_of_ble_eq_true rfl⟩) ⟨cBl, (va_recv hK hPc (ci := iX3) (q0 := 0) rfl rfl), (cPre hPc hK hN)⟩ rfl rfl hl.1 rfl (lv_room (Nat.le_of_ble_eq_true rfl)) dX3_countPieces_13 ⟨(Nat.le_of_ble_eq_true rfl), (Nat.le_of_ble_eq_true rfl)⟩) hS (fun q _ h => hFc q h) hFc (fun r_2 u t H1 locs ht hvm hw_r_2 hB hz1 hk1 hS => ?_)
        refine W.widen (k := 0) (n := 0) (Nat.le_refl _) (Nat.le_refl _) ?_
        have hP := keepP hP hk1
        have hR := keepP hR hk1
        generalize H1 = H at hP hR hS ⊢
        have hP : va_P (dC, dI) vwCl ([]) H := hP
        try dsimp only at hw_r_2
        subst hw_r_2
        refine lv_iadd hx hb dX3_countPieces_16 ?_
        refine lv_istore_n (lv' := [(1, .int (acc + (atF 6 pc (nI k)))), (0, .ref g), (2, .int (nI k))]) hx hb dX3_countPieces_17 rfl hl (by decide) rfl (fun ls hl => ?_)
        refine lv_iinc (v := nI (k + 1)) (lv' := [(2, .int (nI (k + 1))), (1, .int (acc + (atF 6 pc (nI k)))), (0, .ref g)]) hx hb dX3_countPieces_18 hl (k := 2) rfl (nI_1 k) (by decide) rfl (fun ls hl => ?_)
        refine lv_goto (tgt := 4) hx hb dX3_countPieces_21 (by decide) ?_
        refine W.widen (k := 0) (n := 0) (by omega) (by omega) ?_
        exact ih4 (k + 1) (acc + (atF 6 pc (nI k))) (by omega) hkl (by rw [hacc]; rfl) _ _ ls hP hS (lv_sub hl [2, 1, 0] rfl)
  refine W.widen (k := 0) (n := 0) (by omega) (by omega) ?_
  exact K4 (6 - 0 + 1) 0 0 (by omega) (Nat.zero_le _) rfl _ _ ls hP hS (lv_sub hl [2, 1, 0] rfl)

set_option maxHeartbeats 4000000 in
set_option maxRecDepth 100000 in
theorem c_X3_agreesWithAll (l : Launch) (dC : Nat → ClassId) (dI : Nat → Nat → Nat) (cI cF : ClassId) (tr : List (ClassId × FieldType)) (sz : Nat) (g : Nat) (xp : Nat) (xt : Nat) (xd : Nat) (xq : Nat) (xg : Nat) (xl : Nat) (xh : Nat) (pc : Nat → Int32) (te : Nat → Int32) (dg : Nat → Int32) (db : Nat → Int32) (i : Int32) (q : Nat) (np : Nat) (hq : q < 6) (hnp : atF 6 pc (nI q) = nI np) (hnp6 : np ≤ 6) : Met l yX3_agreesWithAll wsX3_agreesWithAll ({ frames := 2, cells := 0, slots := 0, locals := 42 } : Room) (cPc dC dI ((cI, .int) :: (cF, .object RX1) :: tr) sz ([(g, .inr (iX3, [.ref xp, .ref xt, .ref xd, .ref xq, .ref xg, .ref xl, .ref xh])), (xp, .inl (cI, 6, .inl (pc))), (xt, .inl (cI, 36, .inl (te))), (xd, .inl (cI, 36, .inl (dg))), (xq, .inl (cI, 36, .inl (db)))]) [.ref g, .int i, .int (nI q)]) (va_Qi (fun (r : Int32) (_ : Unit) => r = agL te dg db i np (q * 6)) (fun _ _ => True) (va_A ([]) sz)) 0 0 (va_A ([]) sz) := by
  refine Met.ofW (cc := cX3_agreesWithAll) (maxL := 7) (ret := (some .boolean)) (by decide) rfl ?_
  intro p e s m args below meth c s₁ B hml hv
  obtain ⟨rfl, hsz, hP, hK, hN⟩ := hv
  have hx := B.exec
  have hb := B.bytes
  have hr := B.returns
  have hts := atoms_spec (ws := wsX3_agreesWithAll) B.pre
  have hown : s.vm.findClass RX3 = some m.cls := findClass_of_methodNamed B.named
  have hlocks := B.notSynchronized
  subst hsz
  generalize hAe : va_A [] s.heap.size = A
  have hA : ∀ q : Nat, s.heap.size ≤ q → A q := fun q h => by rw [← hAe]; exact Or.inr h
  have hS : va_S A s.heap s.heap [] := va_S.rf
  have hAn : ∀ q : Nat, q < s.heap.size → ¬ A q := fun q h => by rw [← hAe]; exact notZ h
  have hAg : ∀ q : Nat, A q → s.heap.size ≤ q := fun q h => geZ (hAe ▸ h)
  have hR0 : va_P (dC, dI) vwCl ([(g, .inr (iX3, [.ref xp, .ref xt, .ref xd, .ref xq, .ref xg, .ref xl, .ref xh])), (xp, .inl (cI, 6, .inl (pc))), (xt, .inl (cI, 36, .inl (te))), (xd, .inl (cI, 36, .inl (dg))), (xq, .inl (cI, 36, .inl (db)))]) s.heap := hP
  have hR : va_P (dC, dI) vwCl ([(g, .inr (iX3, [.ref xp, .ref xt, .ref xd, .ref xq, .ref xg, .ref xl, .ref xh])), (xp, .inl (cI, 6, .inl (pc))), (xt, .inl (cI, 36, .inl (te))), (xd, .inl (cI, 36, .inl (dg))), (xq, .inl (cI, 36, .inl (db)))]) s.heap := hP
  have hP : va_P (dC, dI) vwCl [] s.heap := fun k q h => by simp at h
  have hD : va_D A [] := ⟨fun i j p q h => by simp at h, fun k q h => by simp at h⟩
  have hl := lv_entry ([.ref g, .int i, .int (nI q)]) (n := 7) (Nat.le_of_ble_eq_true rfl)
  rw [lg_entry_eq]
  generalize (lg_sl ([.ref g, .int i, .int (nI q)]) ++ List.replicate (7 - (lg_sl ([.ref g, .int i, .int (nI q)])).length) Slot.unset).toArray = ls at hl ⊢
  have hl : lv_has ls 7 [(0, .ref g), (1, .int i), (2, .int (nI q))] := hl
  have hfl_18 := hts (.fieldLink RX3 18 "Greenwheels$Lumps" "degrees" "[I") (by decide +kernel)
  have hin_X3 : ∀ w ∈ u_ws RX3 TX3 7, w ∈ wsX3_agreesWithAll := by decide +kernel
  have hw_iniX5 := hts (.initialized RX5) (by decide +kernel)
  have hw_staX5_at := hts (.static yX5_at) (by decide +kernel)
  have hfl_15 := hts (.fieldLink RX3 15 "Greenwheels$Lumps" "teeth" "[I") (by decide +kernel)
  have hma_l := hts (.methodLink RX3 53 Lib.Math.abs.name) (by decide +kernel)
  have hma_s := hts (.static Lib.Math.abs.name) (by decide +kernel)
  have hma_i := hts (.initialized "java/lang/Math") (by decide +kernel)
  have hma_c := hts (.code Lib.Math.abs.name Lib.Math.abs.code 1 (some .int)) (by decide +kernel)
  have hfl_21 := hts (.fieldLink RX3 21 "Greenwheels$Lumps" "doubts" "[I") (by decide +kernel)
  refine lv_iload_n hx hb dX3_agreesWithAll_0 rfl (lv_at hl 2 rfl) ?_
  refine lv_bipush (v := 6) hx hb dX3_agreesWithAll_1 (by decide) ?_
  refine lv_imul hx hb dX3_agreesWithAll_3 ?_
  refine lv_topi (fun z_1 ez_1 => ?_)
  obtain rfl : z_1 = nI (q * 6) := by rw [ez_1]; exact pk_mul q 6
  refine lv_istore_n (lv' := [(3, .int (nI (q * 6))), (0, .ref g), (1, .int i), (2, .int (nI q))]) hx hb dX3_agreesWithAll_4 rfl hl (by decide) rfl (fun ls hl => ?_)
  refine lv_iload_n hx hb dX3_agreesWithAll_5 rfl (lv_at hl 0 rfl) ?_
  refine lv_aload_n hx hb dX3_agreesWithAll_6 rfl (lv_at hl 1 rfl) ?_
  refine lv_iload_n hx hb dX3_agreesWithAll_7 rfl (lv_at hl 3 rfl) ?_
  have hPc : va_P (dC, dI) vwCl ([(g, .inr (iX3, [.ref xp, .ref xt, .ref xd, .ref xq, .ref xg, .ref xl, .ref xh])), (xp, .inl (cI, 6, .inl (pc)))]) _ := hR.sub [0, 1] rfl
  have hFc := frZ hS hA
  refine va_calli (va_runV (As := [.int (nI q)]) (rest := [.int (nI (q * 6))]) ⟨hx, hb, hml, hown, hts⟩ (c_X3_piecesOf l dC dI cI cF tr (s.heap).size g xp xt xd xq xg xl xh pc (nI q)) (cwV 1 hts gX3_agreesWithAll_X3_piecesOf rfl rfl rfl (by decide +kernel) ⟨Nat.le_of_ble_eq_true rfl, Nat.le_of_ble_eq_true rfl⟩) ⟨cBl, (va_recv hK hPc (ci := iX3) (q0 := 0) rfl rfl), (cPre hPc hK hN)⟩ rfl rfl hl.1 rfl (lv_room (Nat.le_of_ble_eq_true rfl)) dX3_agreesWithAll_8 ⟨(Nat.le_of_ble_eq_true rfl), (Nat.le_of_ble_eq_true rfl)⟩) hS (fun q _ h => hFc q h) hFc (fun r_2 u t H1 locs ht hvm hw_r_2 hB hz1 hk1 hS => ?_)
  refine W.widen (k := 0) (n := 0) (Nat.le_refl _) (Nat.le_refl _) ?_
  have hP := keepP hP hk1
  have hR := keepP hR hk1
  generalize H1 = H at hP hR hS ⊢
  have hP : va_P (dC, dI) vwCl ([]) H := hP
  try dsimp only at hw_r_2
  subst hw_r_2
  refine lv_iadd hx hb dX3_agreesWithAll_11 ?_
  refine lv_topi (fun z_3 ez_3 => ?_)
  obtain rfl : z_3 = nI (q * 6 + np) := by rw [ez_3]; rw [hnp, nI_add]
  refine lv_istore (lv' := [(4, .int (nI (q * 6 + np))), (3, .int (nI (q * 6))), (0, .ref g), (1, .int i), (2, .int (nI q))]) hx hb dX3_agreesWithAll_12 hl (by decide) rfl (fun ls hl => ?_)
  refine lv_iload_n hx hb dX3_agreesWithAll_14 rfl (lv_at hl 1 rfl) ?_
  refine lv_istore (lv' := [(5, .int (nI (q * 6))), (4, .int (nI (q * 6 + np))), (3, .int (nI (q * 6))), (0, .ref g), (1, .int i), (2, .int (nI q))]) hx hb dX3_agreesWithAll_15 hl (by decide) rfl (fun ls hl => ?_)
  have K17 : ∀ (NN : Nat), ∀ (k : Nat), (np - k) < NN → (k ≤ np) → (agL te dg db i (np - k) (q * 6 + k) = agL te dg db i np (q * 6)) → ∀ (H : Heap) (locs : List Loc) (ls : Array Slot), va_P (dC, dI) vwCl ([]) H → va_S A s.heap H locs → lv_has ls 7 [(0, .ref g), (1, .int i), (4, .int (nI (q * 6 + np))), (5, .int (nI (q * 6 + k)))] → W p l e (headSpec wsX3_agreesWithAll ({ frames := 2, cells := 0, slots := 0, locals := 42 } : Room)).room s m #[Value.ref g, Value.int i, Value.int (nI q)] below meth c H locs (0) (0) (MQ below (va_Qi (fun (r : Int32) (_ : Unit) => r = agL te dg db i np (q * 6)) (fun _ _ => True) A) #[Value.ref g, Value.int i, Value.int (nI q)] s 0 0 A) (F0 m 17 ls []) := by
    intro NN
    induction NN with
    | zero =>
      intro k hmu hk hacc H locs ls hP hS hl
      exact absurd hmu (Nat.not_lt_zero _)
    | succ NN ih17 =>
      intro k hmu hk hacc H locs ls hP hS hl
      have hR := keepR hR0 hS hAn
      refine lv_iload hx hb dX3_agreesWithAll_17 (lv_at hl 3 rfl) ?_
      refine lv_iload hx hb dX3_agreesWithAll_19 (lv_at hl 2 rfl) ?_
      refine lv_icmp_ge (tgt := 78) hx hb dX3_agreesWithAll_21 (by decide) (fun c_4 => ?_) (fun c_4 => ?_)
      · have hke : k = np := by have h9 := leK (by omega) (by omega) c_4; omega
        refine lv_iconst (v := 1) hx hb dX3_agreesWithAll_78 (by decide) ?_
        refine W.widen (k := 0) (n := 0) (by omega) (by omega) ?_
        exact W.zret (v := 1) hx hb hr (by first | rfl | simp [narrow] | assumption) (fun t ht hW => ⟨⟨1, (), rfl, (by rw [← hacc, hke, Nat.sub_self]; rfl), trivial⟩, hS.F ht⟩) hS.2.2 dX3_agreesWithAll_79
      · have hkl : k < np := by have h9 := ltK (by omega) (by omega) c_4; omega
        refine lv_iload_n hx hb dX3_agreesWithAll_24 rfl (lv_at hl 1 rfl) ?_
        refine lv_aload_n hx hb dX3_agreesWithAll_25 rfl (lv_at hl 0 rfl) ?_
        refine va_get (D := (dC, dI)) (ci := iX3) (v := .ref xd) (C := RX3) (T := TX3) (N := 7) hx hb hts hin_X3 hown hK hR 0 rfl rfl 2 (by decide) hfl_18 (fun _ h9 => h9) rfl dX3_agreesWithAll_26 ?_
        refine lv_iload hx hb dX3_agreesWithAll_29 (lv_at hl 3 rfl) ?_
        have hPc : va_P (dC, dI) vwCl ([(xd, .inl (cI, 36, .inl (dg)))]) _ := hR.sub [3] rfl
        have hFc := frZ hS hA
        refine va_calli (va_runSN (host := RX5) (As := [.ref xd, .int (nI (q * 6 + k))]) (rest := [.int i]) ⟨hx, hb, hml, hown, hts⟩ (c_X5_at l dC dI cI cF tr (H).size xd 36 dg (nI (q * 6 + k)) (by decide)) ⟨va_cnB 2 hts gX3_agreesWithAll_X5_at_n37 rfl rfl rfl (nwAt hN (RX3, 37, yX5_at) (by decide +kernel)) hw_iniX5 (by decide +kernel) ⟨Nat.le_of_ble_eq_true rfl, Nat.le_of_ble_eq_true rfl⟩, hw_staX5_at, trivial⟩ ⟨cBl, (cPre hPc hK hN)⟩ rfl rfl hl.1 rfl (lv_room (Nat.le_of_ble_eq_true rfl)) dX3_agreesWithAll_31 ⟨(Nat.le_of_ble_eq_true rfl), (Nat.le_of_ble_eq_true rfl)⟩) hS (fun q _ h => hFc q h) hFc (fun r_5 u t H1 locs ht hvm hw_r_5 hB hz1 hk1 hS => ?_)
        refine W.widen (k := 0) (n := 0) (Nat.le_refl _) (Nat.le_refl _) ?_
        have hP := keepP hP hk1
        have hR := keepP hR hk1
        generalize H1 = H at hP hR hS ⊢
        have hP : va_P (dC, dI) vwCl ([]) H := hP
        try dsimp only at hw_r_5
        subst hw_r_5
        refine lv_imul hx hb dX3_agreesWithAll_34 ?_
        refine lv_sipush (v := 360) hx hb dX3_agreesWithAll_35 (by decide) ?_
        refine lv_aload_n hx hb dX3_agreesWithAll_38 rfl (lv_at hl 0 rfl) ?_
        refine va_get (D := (dC, dI)) (ci := iX3) (v := .ref xt) (C := RX3) (T := TX3) (N := 7) hx hb hts hin_X3 hown hK hR 0 rfl rfl 1 (by decide) hfl_15 (fun _ h9 => h9) rfl dX3_agreesWithAll_39 ?_
        refine lv_iload hx hb dX3_agreesWithAll_42 (lv_at hl 3 rfl) ?_
        have hPc : va_P (dC, dI) vwCl ([(xt, .inl (cI, 36, .inl (te)))]) _ := hR.sub [2] rfl
        have hFc := frZ hS hA
        refine va_calli (va_runSN (host := RX5) (As := [.ref xt, .int (nI (q * 6 + k))]) (rest := [.int 360, .int (i * (atF 36 dg (nI (q * 6 + k))))]) ⟨hx, hb, hml, hown, hts⟩ (c_X5_at l dC dI cI cF tr (H).size xt 36 te (nI (q * 6 + k)) (by decide)) ⟨va_cnB 2 hts gX3_agreesWithAll_X5_at_n37 rfl rfl rfl (nwAt hN (RX3, 37, yX5_at) (by decide +kernel)) hw_iniX5 (by decide +kernel) ⟨Nat.le_of_ble_eq_true rfl, Nat.le_of_ble_eq_true rfl⟩, hw_staX5_at, trivial⟩ ⟨cBl, (cPre hPc hK hN)⟩ rfl rfl hl.1 rfl (lv_room (Nat.le_of_ble_eq_true rfl)) dX3_agreesWithAll_44 ⟨(Nat.le_of_ble_eq_true rfl), (Nat.le_of_ble_eq_true rfl)⟩) hS (fun q _ h => hFc q h) hFc (fun r_6 u t H1 locs ht hvm hw_r_6 hB hz1 hk1 hS => ?_)
        refine W.widen (k := 0) (n := 0) (Nat.le_refl _) (Nat.le_refl _) ?_
        have hP := keepP hP hk1
        have hR := keepP hR hk1
        generalize H1 = H at hP hR hS ⊢
        have hP : va_P (dC, dI) vwCl ([]) H := hP
        try dsimp only at hw_r_6
        subst hw_r_6
        refine lv_imul hx hb dX3_agreesWithAll_47 ?_
        refine lv_isub hx hb dX3_agreesWithAll_48 ?_
        refine va_mabs hx hb (by rw [hml]; exact hl.1.symm) hown hma_l hma_s hma_i hma_c (Nat.le_of_ble_eq_true rfl) (Nat.le_of_ble_eq_true rfl) (Nat.le_of_ble_eq_true rfl) (Nat.le_of_ble_eq_true rfl) dX3_agreesWithAll_49 ?_
        refine W.eq (g2 := F0 m 52 ls [.int (absI ((i * (atF 36 dg (nI (q * 6 + k)))) - (360 * (atF 36 te (nI (q * 6 + k))))))]) rfl ?_
        refine lv_istore (lv' := [(6, .int (absI ((i * (atF 36 dg (nI (q * 6 + k)))) - (360 * (atF 36 te (nI (q * 6 + k))))))), (0, .ref g), (1, .int i), (4, .int (nI (q * 6 + np))), (5, .int (nI (q * 6 + k)))]) hx hb dX3_agreesWithAll_52 hl (by decide) rfl (fun ls hl => ?_)
        refine lv_iload hx hb dX3_agreesWithAll_54 (lv_at hl 0 rfl) ?_
        refine lv_iload_n hx hb dX3_agreesWithAll_56 rfl (lv_at hl 2 rfl) ?_
        refine lv_aload_n hx hb dX3_agreesWithAll_57 rfl (lv_at hl 1 rfl) ?_
        refine va_get (D := (dC, dI)) (ci := iX3) (v := .ref xq) (C := RX3) (T := TX3) (N := 7) hx hb hts hin_X3 hown hK hR 0 rfl rfl 3 (by decide) hfl_21 (fun _ h9 => h9) rfl dX3_agreesWithAll_58 ?_
        refine lv_iload hx hb dX3_agreesWithAll_61 (lv_at hl 4 rfl) ?_
        have hPc : va_P (dC, dI) vwCl ([(xq, .inl (cI, 36, .inl (db)))]) _ := hR.sub [4] rfl
        have hFc := frZ hS hA
        refine va_calli (va_runSN (host := RX5) (As := [.ref xq, .int (nI (q * 6 + k))]) (rest := [.int i, .int (absI ((i * (atF 36 dg (nI (q * 6 + k)))) - (360 * (atF 36 te (nI (q * 6 + k))))))]) ⟨hx, hb, hml, hown, hts⟩ (c_X5_at l dC dI cI cF tr (H).size xq 36 db (nI (q * 6 + k)) (by decide)) ⟨va_cnB 2 hts gX3_agreesWithAll_X5_at_n37 rfl rfl rfl (nwAt hN (RX3, 37, yX5_at) (by decide +kernel)) hw_iniX5 (by decide +kernel) ⟨Nat.le_of_ble_eq_true rfl, Nat.le_of_ble_eq_true rfl⟩, hw_staX5_at, trivial⟩ ⟨cBl, (cPre hPc hK hN)⟩ rfl rfl hl.1 rfl (lv_room (Nat.le_of_ble_eq_true rfl)) dX3_agreesWithAll_63 ⟨(Nat.le_of_ble_eq_true rfl), (Nat.le_of_ble_eq_true rfl)⟩) hS (fun q _ h => hFc q h) hFc (fun r_7 u t H1 locs ht hvm hw_r_7 hB hz1 hk1 hS => ?_)
        refine W.widen (k := 0) (n := 0) (Nat.le_refl _) (Nat.le_refl _) ?_
        have hP := keepP hP hk1
        have hR := keepP hR hk1
        generalize H1 = H at hP hR hS ⊢
        have hP : va_P (dC, dI) vwCl ([]) H := hP
        try dsimp only at hw_r_7
        subst hw_r_7
        refine lv_imul hx hb dX3_agreesWithAll_66 ?_
        refine lv_icmp_le (tgt := 72) hx hb dX3_agreesWithAll_67 (by decide) (fun c_8 => ?_) (fun c_8 => ?_)
        · refine lv_iinc (v := nI ((q * 6 + k) + 1)) (lv' := [(5, .int (nI ((q * 6 + k) + 1))), (6, .int (absI ((i * (atF 36 dg (nI (q * 6 + k)))) - (360 * (atF 36 te (nI (q * 6 + k))))))), (0, .ref g), (1, .int i), (4, .int (nI (q * 6 + np)))]) hx hb dX3_agreesWithAll_72 hl (k := 4) rfl (nI_1 (q * 6 + k)) (by decide) rfl (fun ls hl => ?_)
          refine lv_goto (tgt := 17) hx hb dX3_agreesWithAll_75 (by decide) ?_
          refine W.widen (k := 0) (n := 0) (by omega) (by omega) ?_
          exact ih17 (k + 1) (by omega) hkl (by rw [← hacc, show np - k = (np - (k + 1)) + 1 by omega]; simp only [agL, ↓reduceIte, Nat.add_assoc, c_8]) _ _ ls hP hS (lv_sub hl [2, 3, 4, 0] rfl)
        · refine lv_iconst (v := 0) hx hb dX3_agreesWithAll_70 (by decide) ?_
          refine W.widen (k := 0) (n := 0) (by omega) (by omega) ?_
          exact W.zret (v := 0) hx hb hr (by first | rfl | simp [narrow] | assumption) (fun t ht hW => ⟨⟨0, (), rfl, (by rw [← hacc, show np - k = (np - (k + 1)) + 1 by omega]; simp only [agL, ↓reduceIte, c_8]), trivial⟩, hS.F ht⟩) hS.2.2 dX3_agreesWithAll_71
  refine W.widen (k := 0) (n := 0) (by omega) (by omega) ?_
  exact K17 (np - 0 + 1) 0 (by omega) (Nat.zero_le _) rfl _ _ ls hP hS (lv_sub hl [3, 4, 1, 0] rfl)

set_option maxHeartbeats 4000000 in
set_option maxRecDepth 100000 in
theorem c_X3_weigh (l : Launch) (dC : Nat → ClassId) (dI : Nat → Nat → Nat) (cI cF : ClassId) (tr : List (ClassId × FieldType)) (sz : Nat) (g : Nat) (xp : Nat) (xt : Nat) (xd : Nat) (xq : Nat) (xg : Nat) (xl : Nat) (xh : Nat) (pc : Nat → Int32) (te : Nat → Int32) (dg : Nat → Int32) (db : Nat → Int32) (ag : Nat → Int32) (le : Nat → Int32) (gr : Nat → Int32) (q : Nat) (np : Nat) (hq : q < 6) (hnp : atF 6 pc (nI q) = nI np) (hnp6 : np ≤ 6) : Met l yX3_weigh wsX3_weigh ({ frames := 3, cells := 0, slots := 0, locals := 68 } : Room) (cPd dC dI ((cI, .int) :: (cF, .object RX1) :: tr) sz ([(g, .inr (iX3, [.ref xp, .ref xt, .ref xd, .ref xq, .ref xg, .ref xl, .ref xh])), (xp, .inl (cI, 6, .inl (pc))), (xt, .inl (cI, 36, .inl (te))), (xd, .inl (cI, 36, .inl (dg))), (xq, .inl (cI, 36, .inl (db))), (xg, .inl (cI, 6, .inl (ag))), (xl, .inl (cI, 6, .inl (le))), (xh, .inl (cI, 6, .inl (gr)))]) [.ref g, .int (nI q)]) (va_Qv (fun _ : Unit => True) (fun _ t => va_P (dC, dI) vwCl ([(g, .inr (iX3, [.ref xp, .ref xt, .ref xd, .ref xq, .ref xg, .ref xl, .ref xh])), (xp, .inl (cI, 6, .inl (pc))), (xt, .inl (cI, 36, .inl (te))), (xd, .inl (cI, 36, .inl (dg))), (xq, .inl (cI, 36, .inl (db))), (xg, .inl (cI, 6, .inl (putF 6 ag (nI q) (wgL (fun c => agL te dg db c np (q * 6)) 237).1))), (xl, .inl (cI, 6, .inl (putF 6 le (nI q) (wgL (fun c => agL te dg db c np (q * 6)) 237).2.1))), (xh, .inl (cI, 6, .inl (putF 6 gr (nI q) (wgL (fun c => agL te dg db c np (q * 6)) 237).2.2)))]) t.heap ∧ va_D (va_A ([(g, .inr (iX3, [.ref xp, .ref xt, .ref xd, .ref xq, .ref xg, .ref xl, .ref xh])), (xp, .inl (cI, 6, .inl (pc))), (xt, .inl (cI, 36, .inl (te))), (xd, .inl (cI, 36, .inl (dg))), (xq, .inl (cI, 36, .inl (db))), (xg, .inl (cI, 6, .inl (ag))), (xl, .inl (cI, 6, .inl (le))), (xh, .inl (cI, 6, .inl (gr)))]) sz) ([(g, .inr (iX3, [.ref xp, .ref xt, .ref xd, .ref xq, .ref xg, .ref xl, .ref xh])), (xp, .inl (cI, 6, .inl (pc))), (xt, .inl (cI, 36, .inl (te))), (xd, .inl (cI, 36, .inl (dg))), (xq, .inl (cI, 36, .inl (db))), (xg, .inl (cI, 6, .inl (putF 6 ag (nI q) (wgL (fun c => agL te dg db c np (q * 6)) 237).1))), (xl, .inl (cI, 6, .inl (putF 6 le (nI q) (wgL (fun c => agL te dg db c np (q * 6)) 237).2.1))), (xh, .inl (cI, 6, .inl (putF 6 gr (nI q) (wgL (fun c => agL te dg db c np (q * 6)) 237).2.2)))])) (va_A ([(g, .inr (iX3, [.ref xp, .ref xt, .ref xd, .ref xq, .ref xg, .ref xl, .ref xh])), (xp, .inl (cI, 6, .inl (pc))), (xt, .inl (cI, 36, .inl (te))), (xd, .inl (cI, 36, .inl (dg))), (xq, .inl (cI, 36, .inl (db))), (xg, .inl (cI, 6, .inl (ag))), (xl, .inl (cI, 6, .inl (le))), (xh, .inl (cI, 6, .inl (gr)))]) sz)) 0 0 (va_A ([(g, .inr (iX3, [.ref xp, .ref xt, .ref xd, .ref xq, .ref xg, .ref xl, .ref xh])), (xp, .inl (cI, 6, .inl (pc))), (xt, .inl (cI, 36, .inl (te))), (xd, .inl (cI, 36, .inl (dg))), (xq, .inl (cI, 36, .inl (db))), (xg, .inl (cI, 6, .inl (ag))), (xl, .inl (cI, 6, .inl (le))), (xh, .inl (cI, 6, .inl (gr)))]) sz) := by
  refine Met.ofW (cc := cX3_weigh) (maxL := 6) (ret := none) (by decide) rfl ?_
  intro p e s m args below meth c s₁ B hml hv
  obtain ⟨rfl, hsz, hP, hK, hN, hD0⟩ := hv
  have hx := B.exec
  have hb := B.bytes
  have hr := B.returns
  have hts := atoms_spec (ws := wsX3_weigh) B.pre
  have hown : s.vm.findClass RX3 = some m.cls := findClass_of_methodNamed B.named
  have hlocks := B.notSynchronized
  subst hsz
  have hD := hD0.self (sz := s.heap.size)
  generalize hAe : va_A ([(g, .inr (iX3, [.ref xp, .ref xt, .ref xd, .ref xq, .ref xg, .ref xl, .ref xh])), (xp, .inl (cI, 6, .inl (pc))), (xt, .inl (cI, 36, .inl (te))), (xd, .inl (cI, 36, .inl (dg))), (xq, .inl (cI, 36, .inl (db))), (xg, .inl (cI, 6, .inl (ag))), (xl, .inl (cI, 6, .inl (le))), (xh, .inl (cI, 6, .inl (gr)))]) s.heap.size = A at hD ⊢
  have hA : ∀ q : Nat, s.heap.size ≤ q → A q := fun q h => by rw [← hAe]; exact Or.inr h
  have hS : va_S A s.heap s.heap [] := va_S.rf
  have hP : va_P (dC, dI) vwCl ([(g, .inr (iX3, [.ref xp, .ref xt, .ref xd, .ref xq, .ref xg, .ref xl, .ref xh])), (xp, .inl (cI, 6, .inl (pc))), (xt, .inl (cI, 36, .inl (te))), (xd, .inl (cI, 36, .inl (dg))), (xq, .inl (cI, 36, .inl (db))), (xg, .inl (cI, 6, .inl (ag))), (xl, .inl (cI, 6, .inl (le))), (xh, .inl (cI, 6, .inl (gr)))]) s.heap := hP
  have hl := lv_entry ([.ref g, .int (nI q)]) (n := 6) (Nat.le_of_ble_eq_true rfl)
  rw [lg_entry_eq]
  generalize (lg_sl ([.ref g, .int (nI q)]) ++ List.replicate (6 - (lg_sl ([.ref g, .int (nI q)])).length) Slot.unset).toArray = ls at hl ⊢
  have hl : lv_has ls 6 [(0, .ref g), (1, .int (nI q))] := hl
  have hfl_24 := hts (.fieldLink RX3 24 "Greenwheels$Lumps" "agreeing" "[I") (by decide +kernel)
  have hin_X3 : ∀ w ∈ u_ws RX3 TX3 7, w ∈ wsX3_weigh := by decide +kernel
  have hw_iniX5 := hts (.initialized RX5) (by decide +kernel)
  have hw_staX5_put := hts (.static yX5_put) (by decide +kernel)
  have hfl_27 := hts (.fieldLink RX3 27 "Greenwheels$Lumps" "least" "[I") (by decide +kernel)
  have hfl_30 := hts (.fieldLink RX3 30 "Greenwheels$Lumps" "greatest" "[I") (by decide +kernel)
  refine lv_iconst (v := 0) hx hb dX3_weigh_0 (by decide) ?_
  refine lv_istore_n (lv' := [(2, .int 0), (0, .ref g), (1, .int (nI q))]) hx hb dX3_weigh_1 rfl hl (by decide) rfl (fun ls hl => ?_)
  refine lv_iconst (v := (-1)) hx hb dX3_weigh_2 (by decide) ?_
  refine lv_istore_n (lv' := [(3, .int ((-1))), (2, .int 0), (0, .ref g), (1, .int (nI q))]) hx hb dX3_weigh_3 rfl hl (by decide) rfl (fun ls hl => ?_)
  refine lv_iconst (v := (-1)) hx hb dX3_weigh_4 (by decide) ?_
  refine lv_istore (lv' := [(4, .int ((-1))), (3, .int ((-1))), (2, .int 0), (0, .ref g), (1, .int (nI q))]) hx hb dX3_weigh_5 hl (by decide) rfl (fun ls hl => ?_)
  refine lv_iconst (v := 4) hx hb dX3_weigh_7 (by decide) ?_
  refine lv_istore (lv' := [(5, .int 4), (4, .int ((-1))), (3, .int ((-1))), (2, .int 0), (0, .ref g), (1, .int (nI q))]) hx hb dX3_weigh_8 hl (by decide) rfl (fun ls hl => ?_)
  have K10 : ∀ (NN : Nat), ∀ (k : Nat) (mn : Int32) (fi : Int32) (la : Int32), (237 - k) < NN → (k ≤ 237) → ((mn, fi, la) = wgL (fun c => agL te dg db c np (q * 6)) k) → ∀ (H : Heap) (locs : List Loc) (ls : Array Slot), va_P (dC, dI) vwCl ([(g, .inr (iX3, [.ref xp, .ref xt, .ref xd, .ref xq, .ref xg, .ref xl, .ref xh])), (xp, .inl (cI, 6, .inl (pc))), (xt, .inl (cI, 36, .inl (te))), (xd, .inl (cI, 36, .inl (dg))), (xq, .inl (cI, 36, .inl (db))), (xg, .inl (cI, 6, .inl (ag))), (xl, .inl (cI, 6, .inl (le))), (xh, .inl (cI, 6, .inl (gr)))]) H → va_D A ([(g, .inr (iX3, [.ref xp, .ref xt, .ref xd, .ref xq, .ref xg, .ref xl, .ref xh])), (xp, .inl (cI, 6, .inl (pc))), (xt, .inl (cI, 36, .inl (te))), (xd, .inl (cI, 36, .inl (dg))), (xq, .inl (cI, 36, .inl (db))), (xg, .inl (cI, 6, .inl (ag))), (xl, .inl (cI, 6, .inl (le))), (xh, .inl (cI, 6, .inl (gr)))]) → va_S A s.heap H locs → lv_has ls 6 [(0, .ref g), (1, .int (nI q)), (2, .int mn), (3, .int fi), (4, .int la), (5, .int (nI (4 + k)))] → W p l e (headSpec wsX3_weigh ({ frames := 3, cells := 0, slots := 0, locals := 68 } : Room)).room s m #[Value.ref g, Value.int (nI q)] below meth c H locs (0) (0) (MQ below (va_Qv (fun _ : Unit => True) (fun _ t => va_P (dC, dI) vwCl ([(g, .inr (iX3, [.ref xp, .ref xt, .ref xd, .ref xq, .ref xg, .ref xl, .ref xh])), (xp, .inl (cI, 6, .inl (pc))), (xt, .inl (cI, 36, .inl (te))), (xd, .inl (cI, 36, .inl (dg))), (xq, .inl (cI, 36, .inl (db))), (xg, .inl (cI, 6, .inl (putF 6 ag (nI q) (wgL (fun c => agL te dg db c np (q * 6)) 237).1))), (xl, .inl (cI, 6, .inl (putF 6 le (nI q) (wgL (fun c => agL te dg db c np (q * 6)) 237).2.1))), (xh, .inl (cI, 6, .inl (putF 6 gr (nI q) (wgL (fun c => agL te dg db c np (q * 6)) 237).2.2)))]) t.heap ∧ va_D A ([(g, .inr (iX3, [.ref xp, .ref xt, .ref xd, .ref xq, .ref xg, .ref xl, .ref xh])), (xp, .inl (cI, 6, .inl (pc))), (xt, .inl (cI, 36, .inl (te))), (xd, .inl (cI, 36, .inl (dg))), (xq, .inl (cI, 36, .inl (db))), (xg, .inl (cI, 6, .inl (putF 6 ag (nI q) (wgL (fun c => agL te dg db c np (q * 6)) 237).1))), (xl, .inl (cI, 6, .inl (putF 6 le (nI q) (wgL (fun c => agL te dg db c np (q * 6)) 237).2.1))), (xh, .inl (cI, 6, .inl (putF 6 gr (nI q) (wgL (fun c => agL te dg db c np (q * 6)) 237).2.2)))])) A) #[Value.ref g, Value.int (nI q)] s 0 0 A) (F0 m 10 ls []) := by
    intro NN
    induction NN with
    | zero =>
      intro k mn fi la hmu hk hs H locs ls hP hD hS hl
      exact absurd hmu (Nat.not_lt_zero _)
    | succ NN ih10 =>
      intro k mn fi la hmu hk hs H locs ls hP hD hS hl
      refine lv_iload hx hb dX3_weigh_10 (lv_at hl 5 rfl) ?_
      refine lv_sipush (v := 240) hx hb dX3_weigh_12 (by decide) ?_
      refine lv_icmp_gt (tgt := 53) hx hb dX3_weigh_15 (by decide) (fun c_1 => ?_) (fun c_1 => ?_)
      · have hke : 240 < 4 + k := (nI_ltI (a := 240) (b := 4 + k) (by decide) (by omega)).mp c_1
        have hkn : k = 237 := by omega
        rw [hkn] at hs
        refine lv_aload_n hx hb dX3_weigh_53 rfl (lv_at hl 0 rfl) ?_
        refine va_get (D := (dC, dI)) (ci := iX3) (v := .ref xg) (C := RX3) (T := TX3) (N := 7) hx hb hts hin_X3 hown hK hP 0 rfl rfl 4 (by decide) hfl_24 (fun _ h9 => h9) rfl dX3_weigh_54 ?_
        refine lv_iload_n hx hb dX3_weigh_57 rfl (lv_at hl 1 rfl) ?_
        refine lv_iload_n hx hb dX3_weigh_58 rfl (lv_at hl 2 rfl) ?_
        have hPc : va_P (dC, dI) vwCl ([(xg, .inl (cI, 6, .inl (ag)))]) _ := hP.sub [5] rfl
        have hDc : va_D (fun _ => True) ([(xg, .inl (cI, 6, .inl (ag)))]) := (hD.sub (ws' := [(xg, .inl (cI, 6, .inl (ag)))]) [5] (by decide) rfl).weaken (fun _ _ _ _ => trivial)
        have hFc := va_free (wc := [(xg, .inl (cI, 6, .inl (ag)))]) hD hS hA [5] rfl
        refine va_callv (va_runSN (host := RX5) (As := [.ref xg, .int (nI q), .int mn]) (rest := []) ⟨hx, hb, hml, hown, hts⟩ (c_X5_put l dC dI cI cF tr (H).size xg 6 ag (nI q) mn (by decide)) ⟨va_cnB 3 hts gX3_weigh_X5_put_n45 rfl rfl rfl (nwAt hN (RX3, 45, yX5_put) (by decide +kernel)) hw_iniX5 (by decide +kernel) ⟨Nat.le_of_ble_eq_true rfl, Nat.le_of_ble_eq_true rfl⟩, hw_staX5_put, trivial⟩ ⟨cDbl, (cDpre hPc hK hN hDc)⟩ rfl rfl hl.1 rfl (lv_room (Nat.le_of_ble_eq_true rfl)) dX3_weigh_59 ⟨(Nat.le_of_ble_eq_true rfl), (Nat.le_of_ble_eq_true rfl)⟩) hS (fun q _ h => hFc q h) hFc (fun u t H1 locs ht hvm hw_r_2 hB hz1 hk1 hS => ?_)
        refine W.widen (k := 0) (n := 0) (Nat.le_refl _) (Nat.le_refl _) ?_
        obtain ⟨hP1, hD1⟩ := hB
        rw [ht] at hP1
        obtain ⟨hP, hD⟩ := va_join (wr := [(g, .inr (iX3, [.ref xp, .ref xt, .ref xd, .ref xq, .ref xg, .ref xl, .ref xh])), (xp, .inl (cI, 6, .inl (pc))), (xt, .inl (cI, 36, .inl (te))), (xd, .inl (cI, 36, .inl (dg))), (xq, .inl (cI, 36, .inl (db))), (xl, .inl (cI, 6, .inl (le))), (xh, .inl (cI, 6, .inl (gr)))]) (w1 := [(xg, .inl (cI, 6, .inl (putF 6 ag (nI q) mn)))]) hP hD [5] [0, 1, 2, 3, 4, 6, 7] rfl rfl (by decide) (by decide) hk1 hFc hP1 hD1
        have hD := hD.sub (ws' := [(g, .inr (iX3, [.ref xp, .ref xt, .ref xd, .ref xq, .ref xg, .ref xl, .ref xh])), (xp, .inl (cI, 6, .inl (pc))), (xt, .inl (cI, 36, .inl (te))), (xd, .inl (cI, 36, .inl (dg))), (xq, .inl (cI, 36, .inl (db))), (xg, .inl (cI, 6, .inl (putF 6 ag (nI q) mn))), (xl, .inl (cI, 6, .inl (le))), (xh, .inl (cI, 6, .inl (gr)))]) [0, 1, 2, 3, 4, 7, 5, 6] (by decide) rfl
        have hP : va_P (dC, dI) vwCl ([(g, .inr (iX3, [.ref xp, .ref xt, .ref xd, .ref xq, .ref xg, .ref xl, .ref xh])), (xp, .inl (cI, 6, .inl (pc))), (xt, .inl (cI, 36, .inl (te))), (xd, .inl (cI, 36, .inl (dg))), (xq, .inl (cI, 36, .inl (db))), (xg, .inl (cI, 6, .inl (putF 6 ag (nI q) mn))), (xl, .inl (cI, 6, .inl (le))), (xh, .inl (cI, 6, .inl (gr)))]) H1 := hP.sub [0, 1, 2, 3, 4, 7, 5, 6] rfl
        generalize H1 = H at hP hS ⊢
        have hP : va_P (dC, dI) vwCl ([(g, .inr (iX3, [.ref xp, .ref xt, .ref xd, .ref xq, .ref xg, .ref xl, .ref xh])), (xp, .inl (cI, 6, .inl (pc))), (xt, .inl (cI, 36, .inl (te))), (xd, .inl (cI, 36, .inl (dg))), (xq, .inl (cI, 36, .inl (db))), (xg, .inl (cI, 6, .inl (putF 6 ag (nI q) mn))), (xl, .inl (cI, 6, .inl (le))), (xh, .inl (cI, 6, .inl (gr)))]) H := hP
        have hD : va_D A ([(g, .inr (iX3, [.ref xp, .ref xt, .ref xd, .ref xq, .ref xg, .ref xl, .ref xh])), (xp, .inl (cI, 6, .inl (pc))), (xt, .inl (cI, 36, .inl (te))), (xd, .inl (cI, 36, .inl (dg))), (xq, .inl (cI, 36, .inl (db))), (xg, .inl (cI, 6, .inl (putF 6 ag (nI q) mn))), (xl, .inl (cI, 6, .inl (le))), (xh, .inl (cI, 6, .inl (gr)))]) := hD
        try dsimp only at hw_r_2
        refine lv_aload_n hx hb dX3_weigh_62 rfl (lv_at hl 0 rfl) ?_
        refine va_get (D := (dC, dI)) (ci := iX3) (v := .ref xl) (C := RX3) (T := TX3) (N := 7) hx hb hts hin_X3 hown hK hP 0 rfl rfl 5 (by decide) hfl_27 (fun _ h9 => h9) rfl dX3_weigh_63 ?_
        refine lv_iload_n hx hb dX3_weigh_66 rfl (lv_at hl 1 rfl) ?_
        refine lv_iload_n hx hb dX3_weigh_67 rfl (lv_at hl 3 rfl) ?_
        have hPc : va_P (dC, dI) vwCl ([(xl, .inl (cI, 6, .inl (le)))]) _ := hP.sub [6] rfl
        have hDc : va_D (fun _ => True) ([(xl, .inl (cI, 6, .inl (le)))]) := (hD.sub (ws' := [(xl, .inl (cI, 6, .inl (le)))]) [6] (by decide) rfl).weaken (fun _ _ _ _ => trivial)
        have hFc := va_free (wc := [(xl, .inl (cI, 6, .inl (le)))]) hD hS hA [6] rfl
        refine va_callv (va_runSN (host := RX5) (As := [.ref xl, .int (nI q), .int fi]) (rest := []) ⟨hx, hb, hml, hown, hts⟩ (c_X5_put l dC dI cI cF tr (H).size xl 6 le (nI q) fi (by decide)) ⟨va_cnB 3 hts gX3_weigh_X5_put_n45 rfl rfl rfl (nwAt hN (RX3, 45, yX5_put) (by decide +kernel)) hw_iniX5 (by decide +kernel) ⟨Nat.le_of_ble_eq_true rfl, Nat.le_of_ble_eq_true rfl⟩, hw_staX5_put, trivial⟩ ⟨cDbl, (cDpre hPc hK hN hDc)⟩ rfl rfl hl.1 rfl (lv_room (Nat.le_of_ble_eq_true rfl)) dX3_weigh_68 ⟨(Nat.le_of_ble_eq_true rfl), (Nat.le_of_ble_eq_true rfl)⟩) hS (fun q _ h => hFc q h) hFc (fun u t H1 locs ht hvm hw_r_3 hB hz1 hk1 hS => ?_)
        refine W.widen (k := 0) (n := 0) (Nat.le_refl _) (Nat.le_refl _) ?_
        obtain ⟨hP1, hD1⟩ := hB
        rw [ht] at hP1
        obtain ⟨hP, hD⟩ := va_join (wr := [(g, .inr (iX3, [.ref xp, .ref xt, .ref xd, .ref xq, .ref xg, .ref xl, .ref xh])), (xp, .inl (cI, 6, .inl (pc))), (xt, .inl (cI, 36, .inl (te))), (xd, .inl (cI, 36, .inl (dg))), (xq, .inl (cI, 36, .inl (db))), (xg, .inl (cI, 6, .inl (putF 6 ag (nI q) mn))), (xh, .inl (cI, 6, .inl (gr)))]) (w1 := [(xl, .inl (cI, 6, .inl (putF 6 le (nI q) fi)))]) hP hD [6] [0, 1, 2, 3, 4, 5, 7] rfl rfl (by decide) (by decide) hk1 hFc hP1 hD1
        have hD := hD.sub (ws' := [(g, .inr (iX3, [.ref xp, .ref xt, .ref xd, .ref xq, .ref xg, .ref xl, .ref xh])), (xp, .inl (cI, 6, .inl (pc))), (xt, .inl (cI, 36, .inl (te))), (xd, .inl (cI, 36, .inl (dg))), (xq, .inl (cI, 36, .inl (db))), (xg, .inl (cI, 6, .inl (putF 6 ag (nI q) mn))), (xl, .inl (cI, 6, .inl (putF 6 le (nI q) fi))), (xh, .inl (cI, 6, .inl (gr)))]) [0, 1, 2, 3, 4, 5, 7, 6] (by decide) rfl
        have hP : va_P (dC, dI) vwCl ([(g, .inr (iX3, [.ref xp, .ref xt, .ref xd, .ref xq, .ref xg, .ref xl, .ref xh])), (xp, .inl (cI, 6, .inl (pc))), (xt, .inl (cI, 36, .inl (te))), (xd, .inl (cI, 36, .inl (dg))), (xq, .inl (cI, 36, .inl (db))), (xg, .inl (cI, 6, .inl (putF 6 ag (nI q) mn))), (xl, .inl (cI, 6, .inl (putF 6 le (nI q) fi))), (xh, .inl (cI, 6, .inl (gr)))]) H1 := hP.sub [0, 1, 2, 3, 4, 5, 7, 6] rfl
        generalize H1 = H at hP hS ⊢
        have hP : va_P (dC, dI) vwCl ([(g, .inr (iX3, [.ref xp, .ref xt, .ref xd, .ref xq, .ref xg, .ref xl, .ref xh])), (xp, .inl (cI, 6, .inl (pc))), (xt, .inl (cI, 36, .inl (te))), (xd, .inl (cI, 36, .inl (dg))), (xq, .inl (cI, 36, .inl (db))), (xg, .inl (cI, 6, .inl (putF 6 ag (nI q) mn))), (xl, .inl (cI, 6, .inl (putF 6 le (nI q) fi))), (xh, .inl (cI, 6, .inl (gr)))]) H := hP
        have hD : va_D A ([(g, .inr (iX3, [.ref xp, .ref xt, .ref xd, .ref xq, .ref xg, .ref xl, .ref xh])), (xp, .inl (cI, 6, .inl (pc))), (xt, .inl (cI, 36, .inl (te))), (xd, .inl (cI, 36, .inl (dg))), (xq, .inl (cI, 36, .inl (db))), (xg, .inl (cI, 6, .inl (putF 6 ag (nI q) mn))), (xl, .inl (cI, 6, .inl (putF 6 le (nI q) fi))), (xh, .inl (cI, 6, .inl (gr)))]) := hD
        try dsimp only at hw_r_3
        refine lv_aload_n hx hb dX3_weigh_71 rfl (lv_at hl 0 rfl) ?_
        refine va_get (D := (dC, dI)) (ci := iX3) (v := .ref xh) (C := RX3) (T := TX3) (N := 7) hx hb hts hin_X3 hown hK hP 0 rfl rfl 6 (by decide) hfl_30 (fun _ h9 => h9) rfl dX3_weigh_72 ?_
        refine lv_iload_n hx hb dX3_weigh_75 rfl (lv_at hl 1 rfl) ?_
        refine lv_iload hx hb dX3_weigh_76 (lv_at hl 4 rfl) ?_
        have hPc : va_P (dC, dI) vwCl ([(xh, .inl (cI, 6, .inl (gr)))]) _ := hP.sub [7] rfl
        have hDc : va_D (fun _ => True) ([(xh, .inl (cI, 6, .inl (gr)))]) := (hD.sub (ws' := [(xh, .inl (cI, 6, .inl (gr)))]) [7] (by decide) rfl).weaken (fun _ _ _ _ => trivial)
        have hFc := va_free (wc := [(xh, .inl (cI, 6, .inl (gr)))]) hD hS hA [7] rfl
        refine va_callv (va_runSN (host := RX5) (As := [.ref xh, .int (nI q), .int la]) (rest := []) ⟨hx, hb, hml, hown, hts⟩ (c_X5_put l dC dI cI cF tr (H).size xh 6 gr (nI q) la (by decide)) ⟨va_cnB 3 hts gX3_weigh_X5_put_n45 rfl rfl rfl (nwAt hN (RX3, 45, yX5_put) (by decide +kernel)) hw_iniX5 (by decide +kernel) ⟨Nat.le_of_ble_eq_true rfl, Nat.le_of_ble_eq_true rfl⟩, hw_staX5_put, trivial⟩ ⟨cDbl, (cDpre hPc hK hN hDc)⟩ rfl rfl hl.1 rfl (lv_room (Nat.le_of_ble_eq_true rfl)) dX3_weigh_78 ⟨(Nat.le_of_ble_eq_true rfl), (Nat.le_of_ble_eq_true rfl)⟩) hS (fun q _ h => hFc q h) hFc (fun u t H1 locs ht hvm hw_r_4 hB hz1 hk1 hS => ?_)
        refine W.widen (k := 0) (n := 0) (Nat.le_refl _) (Nat.le_refl _) ?_
        obtain ⟨hP1, hD1⟩ := hB
        rw [ht] at hP1
        obtain ⟨hP, hD⟩ := va_join (wr := [(g, .inr (iX3, [.ref xp, .ref xt, .ref xd, .ref xq, .ref xg, .ref xl, .ref xh])), (xp, .inl (cI, 6, .inl (pc))), (xt, .inl (cI, 36, .inl (te))), (xd, .inl (cI, 36, .inl (dg))), (xq, .inl (cI, 36, .inl (db))), (xg, .inl (cI, 6, .inl (putF 6 ag (nI q) mn))), (xl, .inl (cI, 6, .inl (putF 6 le (nI q) fi)))]) (w1 := [(xh, .inl (cI, 6, .inl (putF 6 gr (nI q) la)))]) hP hD [7] [0, 1, 2, 3, 4, 5, 6] rfl rfl (by decide) (by decide) hk1 hFc hP1 hD1
        have hD := hD.sub (ws' := [(g, .inr (iX3, [.ref xp, .ref xt, .ref xd, .ref xq, .ref xg, .ref xl, .ref xh])), (xp, .inl (cI, 6, .inl (pc))), (xt, .inl (cI, 36, .inl (te))), (xd, .inl (cI, 36, .inl (dg))), (xq, .inl (cI, 36, .inl (db))), (xg, .inl (cI, 6, .inl (putF 6 ag (nI q) mn))), (xl, .inl (cI, 6, .inl (putF 6 le (nI q) fi))), (xh, .inl (cI, 6, .inl (putF 6 gr (nI q) la)))]) [0, 1, 2, 3, 4, 5, 6, 7] (by decide) rfl
        have hP : va_P (dC, dI) vwCl ([(g, .inr (iX3, [.ref xp, .ref xt, .ref xd, .ref xq, .ref xg, .ref xl, .ref xh])), (xp, .inl (cI, 6, .inl (pc))), (xt, .inl (cI, 36, .inl (te))), (xd, .inl (cI, 36, .inl (dg))), (xq, .inl (cI, 36, .inl (db))), (xg, .inl (cI, 6, .inl (putF 6 ag (nI q) mn))), (xl, .inl (cI, 6, .inl (putF 6 le (nI q) fi))), (xh, .inl (cI, 6, .inl (putF 6 gr (nI q) la)))]) H1 := hP.sub [0, 1, 2, 3, 4, 5, 6, 7] rfl
        generalize H1 = H at hP hS ⊢
        have hP : va_P (dC, dI) vwCl ([(g, .inr (iX3, [.ref xp, .ref xt, .ref xd, .ref xq, .ref xg, .ref xl, .ref xh])), (xp, .inl (cI, 6, .inl (pc))), (xt, .inl (cI, 36, .inl (te))), (xd, .inl (cI, 36, .inl (dg))), (xq, .inl (cI, 36, .inl (db))), (xg, .inl (cI, 6, .inl (putF 6 ag (nI q) mn))), (xl, .inl (cI, 6, .inl (putF 6 le (nI q) fi))), (xh, .inl (cI, 6, .inl (putF 6 gr (nI q) la)))]) H := hP
        have hD : va_D A ([(g, .inr (iX3, [.ref xp, .ref xt, .ref xd, .ref xq, .ref xg, .ref xl, .ref xh])), (xp, .inl (cI, 6, .inl (pc))), (xt, .inl (cI, 36, .inl (te))), (xd, .inl (cI, 36, .inl (dg))), (xq, .inl (cI, 36, .inl (db))), (xg, .inl (cI, 6, .inl (putF 6 ag (nI q) mn))), (xl, .inl (cI, 6, .inl (putF 6 le (nI q) fi))), (xh, .inl (cI, 6, .inl (putF 6 gr (nI q) la)))]) := hD
        try dsimp only at hw_r_4
        refine W.widen (k := 0) (n := 0) (by omega) (by omega) ?_
        have eq_5 : ([(g, .inr (iX3, [.ref xp, .ref xt, .ref xd, .ref xq, .ref xg, .ref xl, .ref xh])), (xp, .inl (cI, 6, .inl (pc))), (xt, .inl (cI, 36, .inl (te))), (xd, .inl (cI, 36, .inl (dg))), (xq, .inl (cI, 36, .inl (db))), (xg, .inl (cI, 6, .inl (putF 6 ag (nI q) mn))), (xl, .inl (cI, 6, .inl (putF 6 le (nI q) fi))), (xh, .inl (cI, 6, .inl (putF 6 gr (nI q) la)))] : va_W) = [(g, .inr (iX3, [.ref xp, .ref xt, .ref xd, .ref xq, .ref xg, .ref xl, .ref xh])), (xp, .inl (cI, 6, .inl (pc))), (xt, .inl (cI, 36, .inl (te))), (xd, .inl (cI, 36, .inl (dg))), (xq, .inl (cI, 36, .inl (db))), (xg, .inl (cI, 6, .inl (putF 6 ag (nI q) (wgL (fun c => agL te dg db c np (q * 6)) 237).1))), (xl, .inl (cI, 6, .inl (putF 6 le (nI q) (wgL (fun c => agL te dg db c np (q * 6)) 237).2.1))), (xh, .inl (cI, 6, .inl (putF 6 gr (nI q) (wgL (fun c => agL te dg db c np (q * 6)) 237).2.2)))] := (by rw [← hs])
        rw [eq_5] at hP hD
        exact W.vret hx hb hr (fun t ht hW => ⟨⟨(), rfl, trivial, ⟨by rw [ht]; exact hP, hAe ▸ hD⟩⟩, hS.F ht⟩) hS.2.2 dX3_weigh_81
      · have hkl : 4 + k ≤ 240 := Nat.le_of_not_lt fun z => c_1 ((nI_ltI (a := 240) (b := 4 + k) (by decide) (by omega)).mpr z)
        refine lv_aload_n hx hb dX3_weigh_18 rfl (lv_at hl 0 rfl) ?_
        refine lv_iload hx hb dX3_weigh_19 (lv_at hl 5 rfl) ?_
        refine lv_iload_n hx hb dX3_weigh_21 rfl (lv_at hl 1 rfl) ?_
        have hPc : va_P (dC, dI) vwCl ([(g, .inr (iX3, [.ref xp, .ref xt, .ref xd, .ref xq, .ref xg, .ref xl, .ref xh])), (xp, .inl (cI, 6, .inl (pc))), (xt, .inl (cI, 36, .inl (te))), (xd, .inl (cI, 36, .inl (dg))), (xq, .inl (cI, 36, .inl (db)))]) _ := hP.sub [0, 1, 2, 3, 4] rfl
        have hFc := frZ hS hA
        refine va_calli (va_runV (As := [.int (nI (4 + k)), .int (nI q)]) (rest := []) ⟨hx, hb, hml, hown, hts⟩ (c_X3_agreesWithAll l dC dI cI cF tr (H).size g xp xt xd xq xg xl xh pc te dg db (nI (4 + k)) q np hq hnp hnp6) (cwV 2 hts gX3_weigh_X3_agreesWithAll rfl rfl rfl (by decide +kernel) ⟨Nat.le_of_ble_eq_true rfl, Nat.le_of_ble_eq_true rfl⟩) ⟨cBl, (va_recv hK hPc (ci := iX3) (q0 := 0) rfl rfl), (cPre hPc hK hN)⟩ rfl rfl hl.1 rfl (lv_room (Nat.le_of_ble_eq_true rfl)) dX3_weigh_22 ⟨(Nat.le_of_ble_eq_true rfl), (Nat.le_of_ble_eq_true rfl)⟩) hS (fun q _ h => hFc q h) hFc (fun r_6 u t H1 locs ht hvm hw_r_6 hB hz1 hk1 hS => ?_)
        refine W.widen (k := 0) (n := 0) (Nat.le_refl _) (Nat.le_refl _) ?_
        have hP := keepP hP hk1
        generalize H1 = H at hP hS ⊢
        have hP : va_P (dC, dI) vwCl ([(g, .inr (iX3, [.ref xp, .ref xt, .ref xd, .ref xq, .ref xg, .ref xl, .ref xh])), (xp, .inl (cI, 6, .inl (pc))), (xt, .inl (cI, 36, .inl (te))), (xd, .inl (cI, 36, .inl (dg))), (xq, .inl (cI, 36, .inl (db))), (xg, .inl (cI, 6, .inl (ag))), (xl, .inl (cI, 6, .inl (le))), (xh, .inl (cI, 6, .inl (gr)))]) H := hP
        try dsimp only at hw_r_6
        subst hw_r_6
        refine lv_if_eq (tgt := 47) hx hb dX3_weigh_25 (by decide) (fun c_7 => ?_) (fun c_7 => ?_)
        · refine lv_iinc (v := nI ((4 + k) + 1)) (lv' := [(5, .int (nI ((4 + k) + 1))), (0, .ref g), (1, .int (nI q)), (2, .int mn), (3, .int fi), (4, .int la)]) hx hb dX3_weigh_47 hl (k := 5) rfl (nI_1 (4 + k)) (by decide) rfl (fun ls hl => ?_)
          refine lv_goto (tgt := 10) hx hb dX3_weigh_50 (by decide) ?_
          refine W.widen (k := 0) (n := 0) (by omega) (by omega) ?_
          exact ih10 (k + 1) mn fi la (by omega) (by omega) (by rw [wgL, ← hs]; simp only [wgS, ↓reduceIte, c_7]) _ _ ls hP hD hS (lv_sub hl [1, 2, 3, 4, 5, 0] rfl)
        · refine lv_iinc (v := mn + 1) (lv' := [(2, .int (mn + 1)), (0, .ref g), (1, .int (nI q)), (3, .int fi), (4, .int la), (5, .int (nI (4 + k)))]) hx hb dX3_weigh_28 hl (k := 2) rfl rfl (by decide) rfl (fun ls hl => ?_)
          refine lv_iload_n hx hb dX3_weigh_31 rfl (lv_at hl 3 rfl) ?_
          refine lv_iconst (v := (-1)) hx hb dX3_weigh_32 (by decide) ?_
          refine lv_icmp_ne (tgt := 41) hx hb dX3_weigh_33 (by decide) (fun c_8 => ?_) (fun c_8 => ?_)
          · refine lv_iload_n hx hb dX3_weigh_41 rfl (lv_at hl 3 rfl) ?_
            refine lv_istore_n (lv' := [(3, .int fi), (2, .int (mn + 1)), (0, .ref g), (1, .int (nI q)), (4, .int la), (5, .int (nI (4 + k)))]) hx hb dX3_weigh_42 rfl hl (by decide) rfl (fun ls hl => ?_)
            refine lv_iload hx hb dX3_weigh_43 (lv_at hl 5 rfl) ?_
            refine lv_istore (lv' := [(4, .int (nI (4 + k))), (3, .int fi), (2, .int (mn + 1)), (0, .ref g), (1, .int (nI q)), (5, .int (nI (4 + k)))]) hx hb dX3_weigh_45 hl (by decide) rfl (fun ls hl => ?_)
            refine lv_iinc (v := nI ((4 + k) + 1)) (lv' := [(5, .int (nI ((4 + k) + 1))), (4, .int (nI (4 + k))), (3, .int fi), (2, .int (mn + 1)), (0, .ref g), (1, .int (nI q))]) hx hb dX3_weigh_47 hl (k := 5) rfl (nI_1 (4 + k)) (by decide) rfl (fun ls hl => ?_)
            refine lv_goto (tgt := 10) hx hb dX3_weigh_50 (by decide) ?_
            refine W.widen (k := 0) (n := 0) (by omega) (by omega) ?_
            exact ih10 (k + 1) (mn + 1) fi (nI (4 + k)) (by omega) (by omega) (by rw [wgL, ← hs]; simp only [wgS, ↓reduceIte, c_7, c_8]) _ _ ls hP hD hS (lv_sub hl [4, 5, 3, 2, 1, 0] rfl)
          · refine lv_iload hx hb dX3_weigh_36 (lv_at hl 5 rfl) ?_
            refine lv_goto (tgt := 42) hx hb dX3_weigh_38 (by decide) ?_
            refine lv_istore_n (lv' := [(3, .int (nI (4 + k))), (2, .int (mn + 1)), (0, .ref g), (1, .int (nI q)), (4, .int la), (5, .int (nI (4 + k)))]) hx hb dX3_weigh_42 rfl hl (by decide) rfl (fun ls hl => ?_)
            refine lv_iload hx hb dX3_weigh_43 (lv_at hl 5 rfl) ?_
            refine lv_istore (lv' := [(4, .int (nI (4 + k))), (3, .int (nI (4 + k))), (2, .int (mn + 1)), (0, .ref g), (1, .int (nI q)), (5, .int (nI (4 + k)))]) hx hb dX3_weigh_45 hl (by decide) rfl (fun ls hl => ?_)
            refine lv_iinc (v := nI ((4 + k) + 1)) (lv' := [(5, .int (nI ((4 + k) + 1))), (4, .int (nI (4 + k))), (3, .int (nI (4 + k))), (2, .int (mn + 1)), (0, .ref g), (1, .int (nI q))]) hx hb dX3_weigh_47 hl (k := 5) rfl (nI_1 (4 + k)) (by decide) rfl (fun ls hl => ?_)
            refine lv_goto (tgt := 10) hx hb dX3_weigh_50 (by decide) ?_
            refine W.widen (k := 0) (n := 0) (by omega) (by omega) ?_
            exact ih10 (k + 1) (mn + 1) (nI (4 + k)) (nI (4 + k)) (by omega) (by omega) (by rw [wgL, ← hs]; simp only [wgS, ↓reduceIte, c_7, c_8]) _ _ ls hP hD hS (lv_sub hl [4, 5, 3, 2, 1, 0] rfl)
  refine W.widen (k := 0) (n := 0) (by omega) (by omega) ?_
  exact K10 (237 - 0 + 1) 0 0 ((-1)) ((-1)) (by omega) (Nat.zero_le _) rfl _ _ ls hP hD hS (lv_sub hl [4, 5, 3, 2, 1, 0] rfl)

def wgC : Int32 × Int32 × Int32 := wgL (fun _ => 1) 237
def luA (x : Int32) : Nat → Nat → Int32
  | 0 => zI
  | k + 1 => putF 6 (luA x k) (nI k) x
theorem atF_zI (n : Nat) (i : Int32) : atF n zI i = 0 := by
  unfold atF zI
  split
  · rfl
  · split <;> rfl

set_option maxHeartbeats 4000000 in
set_option maxRecDepth 100000 in
theorem c_X3_init (l : Launch) (dC : Nat → ClassId) (dI : Nat → Nat → Nat) (cI cF : ClassId) (tr : List (ClassId × FieldType)) (sz : Nat) (g : Nat) : Met l yX3_init wsX3_init ({ frames := 4, cells := 7, slots := 132, locals := 93 } : Room) (cPd dC dI ((cI, .int) :: (cF, .object RX1) :: tr) sz ([(g, .inr (iX3, [.null, .null, .null, .null, .null, .null, .null]))]) [.ref g]) (va_Qv (fun _ : Nat × Nat × Nat × Nat × Nat × Nat × Nat => True) (fun ⟨xp, xt, xd, xq, xg, xl, xh⟩ t => va_P (dC, dI) vwCl ([(g, .inr (iX3, [.ref xp, .ref xt, .ref xd, .ref xq, .ref xg, .ref xl, .ref xh])), (xp, .inl (cI, 6, .inl (zI))), (xt, .inl (cI, 36, .inl (zI))), (xd, .inl (cI, 36, .inl (zI))), (xq, .inl (cI, 36, .inl (zI))), (xg, .inl (cI, 6, .inl (luA wgC.1 6))), (xl, .inl (cI, 6, .inl (luA wgC.2.1 6))), (xh, .inl (cI, 6, .inl (luA wgC.2.2 6)))]) t.heap ∧ va_D (va_A ([(g, .inr (iX3, [.null, .null, .null, .null, .null, .null, .null]))]) sz) ([(g, .inr (iX3, [.ref xp, .ref xt, .ref xd, .ref xq, .ref xg, .ref xl, .ref xh])), (xp, .inl (cI, 6, .inl (zI))), (xt, .inl (cI, 36, .inl (zI))), (xd, .inl (cI, 36, .inl (zI))), (xq, .inl (cI, 36, .inl (zI))), (xg, .inl (cI, 6, .inl (luA wgC.1 6))), (xl, .inl (cI, 6, .inl (luA wgC.2.1 6))), (xh, .inl (cI, 6, .inl (luA wgC.2.2 6)))])) (va_A ([(g, .inr (iX3, [.null, .null, .null, .null, .null, .null, .null]))]) sz)) 7 132 (va_A ([(g, .inr (iX3, [.null, .null, .null, .null, .null, .null, .null]))]) sz) := by
  refine Met.ofW (cc := cX3_init) (maxL := 2) (ret := none) (by decide) rfl ?_
  intro p e s m args below meth c s₁ B hml hv
  obtain ⟨rfl, hsz, hP, hK, hN, hD0⟩ := hv
  have hx := B.exec
  have hb := B.bytes
  have hr := B.returns
  have hts := atoms_spec (ws := wsX3_init) B.pre
  have hown : s.vm.findClass RX3 = some m.cls := findClass_of_methodNamed B.named
  have hlocks := B.notSynchronized
  have hin : meth.name = "<init>" := (name_of_methodNamed B.named B.method).1
  subst hsz
  have hD := hD0.self (sz := s.heap.size)
  generalize hAe : va_A ([(g, .inr (iX3, [.null, .null, .null, .null, .null, .null, .null]))]) s.heap.size = A at hD ⊢
  have hA : ∀ q : Nat, s.heap.size ≤ q → A q := fun q h => by rw [← hAe]; exact Or.inr h
  have hS : va_S A s.heap s.heap [] := va_S.rf
  have hP : va_P (dC, dI) vwCl ([(g, .inr (iX3, [.null, .null, .null, .null, .null, .null, .null]))]) s.heap := hP
  have hl := lv_entry ([.ref g]) (n := 2) (Nat.le_of_ble_eq_true rfl)
  rw [lg_entry_eq]
  generalize (lg_sl ([.ref g]) ++ List.replicate (2 - (lg_sl ([.ref g])).length) Slot.unset).toArray = ls at hl ⊢
  have hl : lv_has ls 2 [(0, .ref g)] := hl
  have hw_oi_l := hts (.methodLink RX3 3 objectInit) (by decide +kernel)
  have hw_oi_i := hts (.instanceMethod objectInit) (by decide +kernel)
  have hw_oi_c := hts (.code objectInit ⟨#[0xb1]⟩ 1 none) (by decide +kernel)
  have hw_arr_int := hts (.arrayClass (newarray.typeOf .int)) (by decide +kernel)
  have hfl_9 := hts (.fieldLink RX3 9 "Greenwheels$Lumps" "pieces" "[I") (by decide +kernel)
  have hin_X3 : ∀ w ∈ u_ws RX3 TX3 7, w ∈ wsX3_init := by decide +kernel
  have hfl_15 := hts (.fieldLink RX3 15 "Greenwheels$Lumps" "teeth" "[I") (by decide +kernel)
  have hfl_18 := hts (.fieldLink RX3 18 "Greenwheels$Lumps" "degrees" "[I") (by decide +kernel)
  have hfl_21 := hts (.fieldLink RX3 21 "Greenwheels$Lumps" "doubts" "[I") (by decide +kernel)
  have hfl_24 := hts (.fieldLink RX3 24 "Greenwheels$Lumps" "agreeing" "[I") (by decide +kernel)
  have hfl_27 := hts (.fieldLink RX3 27 "Greenwheels$Lumps" "least" "[I") (by decide +kernel)
  have hfl_30 := hts (.fieldLink RX3 30 "Greenwheels$Lumps" "greatest" "[I") (by decide +kernel)
  refine lv_aload_n hx hb dX3_init_0 rfl (lv_at hl 0 rfl) ?_
  refine W.objInit hx hb hown hw_oi_l hw_oi_i hw_oi_c rfl (by rw [hml]; exact hl.1) rfl dX3_init_1 (Nat.le_of_ble_eq_true rfl) (Nat.le_of_ble_eq_true rfl) ?_
  refine W.eq (g2 := F0 m 4 ls []) rfl ?_
  refine lv_aload_n hx hb dX3_init_4 rfl (lv_at hl 0 rfl) ?_
  refine lv_bipush (v := 6) hx hb dX3_init_5 (by decide) ?_
  refine va_newa (D := (dC, dI)) (atype := .int) (ty := .int) (N' := 6) (a0 := (6, .inl (fun _ => 0))) hx hb hw_arr_int rfl hK hP hD hS hA (fun _ => rfl) (by decide) (by decide) (by decide) (Nat.le_of_ble_eq_true rfl) (Nat.le_of_ble_eq_true rfl) dX3_init_7 (fun q_1 cN H hKn hP hD hS => ?_)
  obtain rfl : cI = cN := (tyEq hKn hK 0 rfl).symm
  have hP : va_P (dC, dI) vwCl ([(g, .inr (iX3, [.null, .null, .null, .null, .null, .null, .null])), (q_1, .inl (cI, 6, .inl (fun _ => 0)))]) H := hP
  have hD : va_D A ([(g, .inr (iX3, [.null, .null, .null, .null, .null, .null, .null])), (q_1, .inl (cI, 6, .inl (fun _ => 0)))]) := hD
  refine va_putF (D := (dC, dI)) (ci := iX3) (v := .ref q_1) (ty := (.array .int)) (C := RX3) (T := TX3) (N := 7) hx hb hts hin_X3 tyX3 tyX3_ok nmX3 hown hK hP hD hS 0 rfl rfl 0 (by decide) hfl_9 (fun _ h9 => h9) rfl hin rfl (by decide +kernel) rfl rfl (Nat.le_of_ble_eq_true rfl) dX3_init_9 (fun H locs hP hD hS => ?_)
  have hP : va_P (dC, dI) vwCl ([(g, .inr (iX3, [.ref q_1, .null, .null, .null, .null, .null, .null])), (q_1, .inl (cI, 6, .inl (fun _ => 0)))]) H := hP
  have hD : va_D A ([(g, .inr (iX3, [.ref q_1, .null, .null, .null, .null, .null, .null])), (q_1, .inl (cI, 6, .inl (fun _ => 0)))]) := hD
  refine lv_aload_n hx hb dX3_init_12 rfl (lv_at hl 0 rfl) ?_
  refine lv_bipush (v := 36) hx hb dX3_init_13 (by decide) ?_
  refine va_newa (D := (dC, dI)) (atype := .int) (ty := .int) (N' := 36) (a0 := (36, .inl (fun _ => 0))) hx hb hw_arr_int rfl hK hP hD hS hA (fun _ => rfl) (by decide) (by decide) (by decide) (Nat.le_of_ble_eq_true rfl) (Nat.le_of_ble_eq_true rfl) dX3_init_15 (fun q_2 cN H hKn hP hD hS => ?_)
  obtain rfl : cI = cN := (tyEq hKn hK 0 rfl).symm
  have hP : va_P (dC, dI) vwCl ([(g, .inr (iX3, [.ref q_1, .null, .null, .null, .null, .null, .null])), (q_1, .inl (cI, 6, .inl (fun _ => 0))), (q_2, .inl (cI, 36, .inl (fun _ => 0)))]) H := hP
  have hD : va_D A ([(g, .inr (iX3, [.ref q_1, .null, .null, .null, .null, .null, .null])), (q_1, .inl (cI, 6, .inl (fun _ => 0))), (q_2, .inl (cI, 36, .inl (fun _ => 0)))]) := hD
  refine va_putF (D := (dC, dI)) (ci := iX3) (v := .ref q_2) (ty := (.array .int)) (C := RX3) (T := TX3) (N := 7) hx hb hts hin_X3 tyX3 tyX3_ok nmX3 hown hK hP hD hS 0 rfl rfl 1 (by decide) hfl_15 (fun _ h9 => h9) rfl hin rfl (by decide +kernel) rfl rfl (Nat.le_of_ble_eq_true rfl) dX3_init_17 (fun H locs hP hD hS => ?_)
  have hP : va_P (dC, dI) vwCl ([(g, .inr (iX3, [.ref q_1, .ref q_2, .null, .null, .null, .null, .null])), (q_1, .inl (cI, 6, .inl (fun _ => 0))), (q_2, .inl (cI, 36, .inl (fun _ => 0)))]) H := hP
  have hD : va_D A ([(g, .inr (iX3, [.ref q_1, .ref q_2, .null, .null, .null, .null, .null])), (q_1, .inl (cI, 6, .inl (fun _ => 0))), (q_2, .inl (cI, 36, .inl (fun _ => 0)))]) := hD
  refine lv_aload_n hx hb dX3_init_20 rfl (lv_at hl 0 rfl) ?_
  refine lv_bipush (v := 36) hx hb dX3_init_21 (by decide) ?_
  refine va_newa (D := (dC, dI)) (atype := .int) (ty := .int) (N' := 36) (a0 := (36, .inl (fun _ => 0))) hx hb hw_arr_int rfl hK hP hD hS hA (fun _ => rfl) (by decide) (by decide) (by decide) (Nat.le_of_ble_eq_true rfl) (Nat.le_of_ble_eq_true rfl) dX3_init_23 (fun q_3 cN H hKn hP hD hS => ?_)
  obtain rfl : cI = cN := (tyEq hKn hK 0 rfl).symm
  have hP : va_P (dC, dI) vwCl ([(g, .inr (iX3, [.ref q_1, .ref q_2, .null, .null, .null, .null, .null])), (q_1, .inl (cI, 6, .inl (fun _ => 0))), (q_2, .inl (cI, 36, .inl (fun _ => 0))), (q_3, .inl (cI, 36, .inl (fun _ => 0)))]) H := hP
  have hD : va_D A ([(g, .inr (iX3, [.ref q_1, .ref q_2, .null, .null, .null, .null, .null])), (q_1, .inl (cI, 6, .inl (fun _ => 0))), (q_2, .inl (cI, 36, .inl (fun _ => 0))), (q_3, .inl (cI, 36, .inl (fun _ => 0)))]) := hD
  refine va_putF (D := (dC, dI)) (ci := iX3) (v := .ref q_3) (ty := (.array .int)) (C := RX3) (T := TX3) (N := 7) hx hb hts hin_X3 tyX3 tyX3_ok nmX3 hown hK hP hD hS 0 rfl rfl 2 (by decide) hfl_18 (fun _ h9 => h9) rfl hin rfl (by decide +kernel) rfl rfl (Nat.le_of_ble_eq_true rfl) dX3_init_25 (fun H locs hP hD hS => ?_)
  have hP : va_P (dC, dI) vwCl ([(g, .inr (iX3, [.ref q_1, .ref q_2, .ref q_3, .null, .null, .null, .null])), (q_1, .inl (cI, 6, .inl (fun _ => 0))), (q_2, .inl (cI, 36, .inl (fun _ => 0))), (q_3, .inl (cI, 36, .inl (fun _ => 0)))]) H := hP
  have hD : va_D A ([(g, .inr (iX3, [.ref q_1, .ref q_2, .ref q_3, .null, .null, .null, .null])), (q_1, .inl (cI, 6, .inl (fun _ => 0))), (q_2, .inl (cI, 36, .inl (fun _ => 0))), (q_3, .inl (cI, 36, .inl (fun _ => 0)))]) := hD
  refine lv_aload_n hx hb dX3_init_28 rfl (lv_at hl 0 rfl) ?_
  refine lv_bipush (v := 36) hx hb dX3_init_29 (by decide) ?_
  refine va_newa (D := (dC, dI)) (atype := .int) (ty := .int) (N' := 36) (a0 := (36, .inl (fun _ => 0))) hx hb hw_arr_int rfl hK hP hD hS hA (fun _ => rfl) (by decide) (by decide) (by decide) (Nat.le_of_ble_eq_true rfl) (Nat.le_of_ble_eq_true rfl) dX3_init_31 (fun q_4 cN H hKn hP hD hS => ?_)
  obtain rfl : cI = cN := (tyEq hKn hK 0 rfl).symm
  have hP : va_P (dC, dI) vwCl ([(g, .inr (iX3, [.ref q_1, .ref q_2, .ref q_3, .null, .null, .null, .null])), (q_1, .inl (cI, 6, .inl (fun _ => 0))), (q_2, .inl (cI, 36, .inl (fun _ => 0))), (q_3, .inl (cI, 36, .inl (fun _ => 0))), (q_4, .inl (cI, 36, .inl (fun _ => 0)))]) H := hP
  have hD : va_D A ([(g, .inr (iX3, [.ref q_1, .ref q_2, .ref q_3, .null, .null, .null, .null])), (q_1, .inl (cI, 6, .inl (fun _ => 0))), (q_2, .inl (cI, 36, .inl (fun _ => 0))), (q_3, .inl (cI, 36, .inl (fun _ => 0))), (q_4, .inl (cI, 36, .inl (fun _ => 0)))]) := hD
  refine va_putF (D := (dC, dI)) (ci := iX3) (v := .ref q_4) (ty := (.array .int)) (C := RX3) (T := TX3) (N := 7) hx hb hts hin_X3 tyX3 tyX3_ok nmX3 hown hK hP hD hS 0 rfl rfl 3 (by decide) hfl_21 (fun _ h9 => h9) rfl hin rfl (by decide +kernel) rfl rfl (Nat.le_of_ble_eq_true rfl) dX3_init_33 (fun H locs hP hD hS => ?_)
  have hP : va_P (dC, dI) vwCl ([(g, .inr (iX3, [.ref q_1, .ref q_2, .ref q_3, .ref q_4, .null, .null, .null])), (q_1, .inl (cI, 6, .inl (fun _ => 0))), (q_2, .inl (cI, 36, .inl (fun _ => 0))), (q_3, .inl (cI, 36, .inl (fun _ => 0))), (q_4, .inl (cI, 36, .inl (fun _ => 0)))]) H := hP
  have hD : va_D A ([(g, .inr (iX3, [.ref q_1, .ref q_2, .ref q_3, .ref q_4, .null, .null, .null])), (q_1, .inl (cI, 6, .inl (fun _ => 0))), (q_2, .inl (cI, 36, .inl (fun _ => 0))), (q_3, .inl (cI, 36, .inl (fun _ => 0))), (q_4, .inl (cI, 36, .inl (fun _ => 0)))]) := hD
  refine lv_aload_n hx hb dX3_init_36 rfl (lv_at hl 0 rfl) ?_
  refine lv_bipush (v := 6) hx hb dX3_init_37 (by decide) ?_
  refine va_newa (D := (dC, dI)) (atype := .int) (ty := .int) (N' := 6) (a0 := (6, .inl (fun _ => 0))) hx hb hw_arr_int rfl hK hP hD hS hA (fun _ => rfl) (by decide) (by decide) (by decide) (Nat.le_of_ble_eq_true rfl) (Nat.le_of_ble_eq_true rfl) dX3_init_39 (fun q_5 cN H hKn hP hD hS => ?_)
  obtain rfl : cI = cN := (tyEq hKn hK 0 rfl).symm
  have hP : va_P (dC, dI) vwCl ([(g, .inr (iX3, [.ref q_1, .ref q_2, .ref q_3, .ref q_4, .null, .null, .null])), (q_1, .inl (cI, 6, .inl (fun _ => 0))), (q_2, .inl (cI, 36, .inl (fun _ => 0))), (q_3, .inl (cI, 36, .inl (fun _ => 0))), (q_4, .inl (cI, 36, .inl (fun _ => 0))), (q_5, .inl (cI, 6, .inl (fun _ => 0)))]) H := hP
  have hD : va_D A ([(g, .inr (iX3, [.ref q_1, .ref q_2, .ref q_3, .ref q_4, .null, .null, .null])), (q_1, .inl (cI, 6, .inl (fun _ => 0))), (q_2, .inl (cI, 36, .inl (fun _ => 0))), (q_3, .inl (cI, 36, .inl (fun _ => 0))), (q_4, .inl (cI, 36, .inl (fun _ => 0))), (q_5, .inl (cI, 6, .inl (fun _ => 0)))]) := hD
  refine va_putF (D := (dC, dI)) (ci := iX3) (v := .ref q_5) (ty := (.array .int)) (C := RX3) (T := TX3) (N := 7) hx hb hts hin_X3 tyX3 tyX3_ok nmX3 hown hK hP hD hS 0 rfl rfl 4 (by decide) hfl_24 (fun _ h9 => h9) rfl hin rfl (by decide +kernel) rfl rfl (Nat.le_of_ble_eq_true rfl) dX3_init_41 (fun H locs hP hD hS => ?_)
  have hP : va_P (dC, dI) vwCl ([(g, .inr (iX3, [.ref q_1, .ref q_2, .ref q_3, .ref q_4, .ref q_5, .null, .null])), (q_1, .inl (cI, 6, .inl (fun _ => 0))), (q_2, .inl (cI, 36, .inl (fun _ => 0))), (q_3, .inl (cI, 36, .inl (fun _ => 0))), (q_4, .inl (cI, 36, .inl (fun _ => 0))), (q_5, .inl (cI, 6, .inl (fun _ => 0)))]) H := hP
  have hD : va_D A ([(g, .inr (iX3, [.ref q_1, .ref q_2, .ref q_3, .ref q_4, .ref q_5, .null, .null])), (q_1, .inl (cI, 6, .inl (fun _ => 0))), (q_2, .inl (cI, 36, .inl (fun _ => 0))), (q_3, .inl (cI, 36, .inl (fun _ => 0))), (q_4, .inl (cI, 36, .inl (fun _ => 0))), (q_5, .inl (cI, 6, .inl (fun _ => 0)))]) := hD
  refine lv_aload_n hx hb dX3_init_44 rfl (lv_at hl 0 rfl) ?_
  refine lv_bipush (v := 6) hx hb dX3_init_45 (by decide) ?_
  refine va_newa (D := (dC, dI)) (atype := .int) (ty := .int) (N' := 6) (a0 := (6, .inl (fun _ => 0))) hx hb hw_arr_int rfl hK hP hD hS hA (fun _ => rfl) (by decide) (by decide) (by decide) (Nat.le_of_ble_eq_true rfl) (Nat.le_of_ble_eq_true rfl) dX3_init_47 (fun q_6 cN H hKn hP hD hS => ?_)
  obtain rfl : cI = cN := (tyEq hKn hK 0 rfl).symm
  have hP : va_P (dC, dI) vwCl ([(g, .inr (iX3, [.ref q_1, .ref q_2, .ref q_3, .ref q_4, .ref q_5, .null, .null])), (q_1, .inl (cI, 6, .inl (fun _ => 0))), (q_2, .inl (cI, 36, .inl (fun _ => 0))), (q_3, .inl (cI, 36, .inl (fun _ => 0))), (q_4, .inl (cI, 36, .inl (fun _ => 0))), (q_5, .inl (cI, 6, .inl (fun _ => 0))), (q_6, .inl (cI, 6, .inl (fun _ => 0)))]) H := hP
  have hD : va_D A ([(g, .inr (iX3, [.ref q_1, .ref q_2, .ref q_3, .ref q_4, .ref q_5, .null, .null])), (q_1, .inl (cI, 6, .inl (fun _ => 0))), (q_2, .inl (cI, 36, .inl (fun _ => 0))), (q_3, .inl (cI, 36, .inl (fun _ => 0))), (q_4, .inl (cI, 36, .inl (fun _ => 0))), (q_5, .inl (cI, 6, .inl (fun _ => 0))), (q_6, .inl (cI, 6, .inl (fun _ => 0)))]) := hD
  refine va_putF (D := (dC, dI)) (ci := iX3) (v := .ref q_6) (ty := (.array .int)) (C := RX3) (T := TX3) (N := 7) hx hb hts hin_X3 tyX3 tyX3_ok nmX3 hown hK hP hD hS 0 rfl rfl 5 (by decide) hfl_27 (fun _ h9 => h9) rfl hin rfl (by decide +kernel) rfl rfl (Nat.le_of_ble_eq_true rfl) dX3_init_49 (fun H locs hP hD hS => ?_)
  have hP : va_P (dC, dI) vwCl ([(g, .inr (iX3, [.ref q_1, .ref q_2, .ref q_3, .ref q_4, .ref q_5, .ref q_6, .null])), (q_1, .inl (cI, 6, .inl (fun _ => 0))), (q_2, .inl (cI, 36, .inl (fun _ => 0))), (q_3, .inl (cI, 36, .inl (fun _ => 0))), (q_4, .inl (cI, 36, .inl (fun _ => 0))), (q_5, .inl (cI, 6, .inl (fun _ => 0))), (q_6, .inl (cI, 6, .inl (fun _ => 0)))]) H := hP
  have hD : va_D A ([(g, .inr (iX3, [.ref q_1, .ref q_2, .ref q_3, .ref q_4, .ref q_5, .ref q_6, .null])), (q_1, .inl (cI, 6, .inl (fun _ => 0))), (q_2, .inl (cI, 36, .inl (fun _ => 0))), (q_3, .inl (cI, 36, .inl (fun _ => 0))), (q_4, .inl (cI, 36, .inl (fun _ => 0))), (q_5, .inl (cI, 6, .inl (fun _ => 0))), (q_6, .inl (cI, 6, .inl (fun _ => 0)))]) := hD
  refine lv_aload_n hx hb dX3_init_52 rfl (lv_at hl 0 rfl) ?_
  refine lv_bipush (v := 6) hx hb dX3_init_53 (by decide) ?_
  refine va_newa (D := (dC, dI)) (atype := .int) (ty := .int) (N' := 6) (a0 := (6, .inl (fun _ => 0))) hx hb hw_arr_int rfl hK hP hD hS hA (fun _ => rfl) (by decide) (by decide) (by decide) (Nat.le_of_ble_eq_true rfl) (Nat.le_of_ble_eq_true rfl) dX3_init_55 (fun q_7 cN H hKn hP hD hS => ?_)
  obtain rfl : cI = cN := (tyEq hKn hK 0 rfl).symm
  have hP : va_P (dC, dI) vwCl ([(g, .inr (iX3, [.ref q_1, .ref q_2, .ref q_3, .ref q_4, .ref q_5, .ref q_6, .null])), (q_1, .inl (cI, 6, .inl (fun _ => 0))), (q_2, .inl (cI, 36, .inl (fun _ => 0))), (q_3, .inl (cI, 36, .inl (fun _ => 0))), (q_4, .inl (cI, 36, .inl (fun _ => 0))), (q_5, .inl (cI, 6, .inl (fun _ => 0))), (q_6, .inl (cI, 6, .inl (fun _ => 0))), (q_7, .inl (cI, 6, .inl (fun _ => 0)))]) H := hP
  have hD : va_D A ([(g, .inr (iX3, [.ref q_1, .ref q_2, .ref q_3, .ref q_4, .ref q_5, .ref q_6, .null])), (q_1, .inl (cI, 6, .inl (fun _ => 0))), (q_2, .inl (cI, 36, .inl (fun _ => 0))), (q_3, .inl (cI, 36, .inl (fun _ => 0))), (q_4, .inl (cI, 36, .inl (fun _ => 0))), (q_5, .inl (cI, 6, .inl (fun _ => 0))), (q_6, .inl (cI, 6, .inl (fun _ => 0))), (q_7, .inl (cI, 6, .inl (fun _ => 0)))]) := hD
  refine va_putF (D := (dC, dI)) (ci := iX3) (v := .ref q_7) (ty := (.array .int)) (C := RX3) (T := TX3) (N := 7) hx hb hts hin_X3 tyX3 tyX3_ok nmX3 hown hK hP hD hS 0 rfl rfl 6 (by decide) hfl_30 (fun _ h9 => h9) rfl hin rfl (by decide +kernel) rfl rfl (Nat.le_of_ble_eq_true rfl) dX3_init_57 (fun H locs hP hD hS => ?_)
  have hP : va_P (dC, dI) vwCl ([(g, .inr (iX3, [.ref q_1, .ref q_2, .ref q_3, .ref q_4, .ref q_5, .ref q_6, .ref q_7])), (q_1, .inl (cI, 6, .inl (fun _ => 0))), (q_2, .inl (cI, 36, .inl (fun _ => 0))), (q_3, .inl (cI, 36, .inl (fun _ => 0))), (q_4, .inl (cI, 36, .inl (fun _ => 0))), (q_5, .inl (cI, 6, .inl (fun _ => 0))), (q_6, .inl (cI, 6, .inl (fun _ => 0))), (q_7, .inl (cI, 6, .inl (fun _ => 0)))]) H := hP
  have hD : va_D A ([(g, .inr (iX3, [.ref q_1, .ref q_2, .ref q_3, .ref q_4, .ref q_5, .ref q_6, .ref q_7])), (q_1, .inl (cI, 6, .inl (fun _ => 0))), (q_2, .inl (cI, 36, .inl (fun _ => 0))), (q_3, .inl (cI, 36, .inl (fun _ => 0))), (q_4, .inl (cI, 36, .inl (fun _ => 0))), (q_5, .inl (cI, 6, .inl (fun _ => 0))), (q_6, .inl (cI, 6, .inl (fun _ => 0))), (q_7, .inl (cI, 6, .inl (fun _ => 0)))]) := hD
  have eq_8 : ([(g, .inr (iX3, [.ref q_1, .ref q_2, .ref q_3, .ref q_4, .ref q_5, .ref q_6, .ref q_7])), (q_1, .inl (cI, 6, .inl (fun _ => 0))), (q_2, .inl (cI, 36, .inl (fun _ => 0))), (q_3, .inl (cI, 36, .inl (fun _ => 0))), (q_4, .inl (cI, 36, .inl (fun _ => 0))), (q_5, .inl (cI, 6, .inl (fun _ => 0))), (q_6, .inl (cI, 6, .inl (fun _ => 0))), (q_7, .inl (cI, 6, .inl (fun _ => 0)))] : va_W) = [(g, .inr (iX3, [.ref q_1, .ref q_2, .ref q_3, .ref q_4, .ref q_5, .ref q_6, .ref q_7])), (q_1, .inl (cI, 6, .inl (zI))), (q_2, .inl (cI, 36, .inl (zI))), (q_3, .inl (cI, 36, .inl (zI))), (q_4, .inl (cI, 36, .inl (zI))), (q_5, .inl (cI, 6, .inl (luA wgC.1 0))), (q_6, .inl (cI, 6, .inl (luA wgC.2.1 0))), (q_7, .inl (cI, 6, .inl (luA wgC.2.2 0)))] := rfl
  rw [eq_8] at hP hD
  refine lv_iconst (v := 0) hx hb dX3_init_60 (by decide) ?_
  refine lv_istore_n (lv' := [(1, .int 0), (0, .ref g)]) hx hb dX3_init_61 rfl hl (by decide) rfl (fun ls hl => ?_)
  have K62 : ∀ (NN : Nat), ∀ (k : Nat), (6 - k) < NN → (k ≤ 6) → ∀ (H : Heap) (locs : List Loc) (ls : Array Slot), va_P (dC, dI) vwCl ([(g, .inr (iX3, [.ref q_1, .ref q_2, .ref q_3, .ref q_4, .ref q_5, .ref q_6, .ref q_7])), (q_1, .inl (cI, 6, .inl (zI))), (q_2, .inl (cI, 36, .inl (zI))), (q_3, .inl (cI, 36, .inl (zI))), (q_4, .inl (cI, 36, .inl (zI))), (q_5, .inl (cI, 6, .inl (luA wgC.1 k))), (q_6, .inl (cI, 6, .inl (luA wgC.2.1 k))), (q_7, .inl (cI, 6, .inl (luA wgC.2.2 k)))]) H → va_D A ([(g, .inr (iX3, [.ref q_1, .ref q_2, .ref q_3, .ref q_4, .ref q_5, .ref q_6, .ref q_7])), (q_1, .inl (cI, 6, .inl (zI))), (q_2, .inl (cI, 36, .inl (zI))), (q_3, .inl (cI, 36, .inl (zI))), (q_4, .inl (cI, 36, .inl (zI))), (q_5, .inl (cI, 6, .inl (luA wgC.1 k))), (q_6, .inl (cI, 6, .inl (luA wgC.2.1 k))), (q_7, .inl (cI, 6, .inl (luA wgC.2.2 k)))]) → va_S A s.heap H locs → lv_has ls 2 [(0, .ref g), (1, .int (nI k))] → W p l e (headSpec wsX3_init ({ frames := 4, cells := 7, slots := 132, locals := 93 } : Room)).room s m #[Value.ref g] below meth c H locs (7) (132) (MQ below (va_Qv (fun _ : Nat × Nat × Nat × Nat × Nat × Nat × Nat => True) (fun ⟨xp, xt, xd, xq, xg, xl, xh⟩ t => va_P (dC, dI) vwCl ([(g, .inr (iX3, [.ref xp, .ref xt, .ref xd, .ref xq, .ref xg, .ref xl, .ref xh])), (xp, .inl (cI, 6, .inl (zI))), (xt, .inl (cI, 36, .inl (zI))), (xd, .inl (cI, 36, .inl (zI))), (xq, .inl (cI, 36, .inl (zI))), (xg, .inl (cI, 6, .inl (luA wgC.1 6))), (xl, .inl (cI, 6, .inl (luA wgC.2.1 6))), (xh, .inl (cI, 6, .inl (luA wgC.2.2 6)))]) t.heap ∧ va_D A ([(g, .inr (iX3, [.ref xp, .ref xt, .ref xd, .ref xq, .ref xg, .ref xl, .ref xh])), (xp, .inl (cI, 6, .inl (zI))), (xt, .inl (cI, 36, .inl (zI))), (xd, .inl (cI, 36, .inl (zI))), (xq, .inl (cI, 36, .inl (zI))), (xg, .inl (cI, 6, .inl (luA wgC.1 6))), (xl, .inl (cI, 6, .inl (luA wgC.2.1 6))), (xh, .inl (cI, 6, .inl (luA wgC.2.2 6)))])) A) #[Value.ref g] s 7 132 A) (F0 m 62 ls []) := by
    intro NN
    induction NN with
    | zero =>
      intro k hmu hk H locs ls hP hD hS hl
      exact absurd hmu (Nat.not_lt_zero _)
    | succ NN ih62 =>
      intro k hmu hk H locs ls hP hD hS hl
      refine lv_iload_n hx hb dX3_init_62 rfl (lv_at hl 1 rfl) ?_
      refine lv_bipush (v := 6) hx hb dX3_init_63 (by decide) ?_
      refine lv_icmp_ge (tgt := 79) hx hb dX3_init_65 (by decide) (fun c_9 => ?_) (fun c_9 => ?_)
      · have hke : 6 ≤ k := leK (by omega) (by omega) c_9
        have hkn : k = 6 := by omega
        rw [hkn] at hP hD
        refine W.widen (k := 7) (n := 132) (by omega) (by omega) ?_
        exact W.vret hx hb hr (fun t ht hW => ⟨⟨(q_1, q_2, q_3, q_4, q_5, q_6, q_7), rfl, trivial, by rw [ht]; exact hP, hAe ▸ hD⟩, hS.F ht⟩) hS.2.2 dX3_init_79
      · have hkl : k < 6 := ltK (by omega) (by omega) c_9
        refine lv_aload_n hx hb dX3_init_68 rfl (lv_at hl 0 rfl) ?_
        refine lv_iload_n hx hb dX3_init_69 rfl (lv_at hl 1 rfl) ?_
        have hPc : va_P (dC, dI) vwCl ([(g, .inr (iX3, [.ref q_1, .ref q_2, .ref q_3, .ref q_4, .ref q_5, .ref q_6, .ref q_7])), (q_1, .inl (cI, 6, .inl (zI))), (q_2, .inl (cI, 36, .inl (zI))), (q_3, .inl (cI, 36, .inl (zI))), (q_4, .inl (cI, 36, .inl (zI))), (q_5, .inl (cI, 6, .inl (luA wgC.1 k))), (q_6, .inl (cI, 6, .inl (luA wgC.2.1 k))), (q_7, .inl (cI, 6, .inl (luA wgC.2.2 k)))]) _ := hP.sub [0, 1, 2, 3, 4, 5, 6, 7] rfl
        have hDc : va_D (fun _ => True) ([(g, .inr (iX3, [.ref q_1, .ref q_2, .ref q_3, .ref q_4, .ref q_5, .ref q_6, .ref q_7])), (q_1, .inl (cI, 6, .inl (zI))), (q_2, .inl (cI, 36, .inl (zI))), (q_3, .inl (cI, 36, .inl (zI))), (q_4, .inl (cI, 36, .inl (zI))), (q_5, .inl (cI, 6, .inl (luA wgC.1 k))), (q_6, .inl (cI, 6, .inl (luA wgC.2.1 k))), (q_7, .inl (cI, 6, .inl (luA wgC.2.2 k)))]) := (hD.sub (ws' := [(g, .inr (iX3, [.ref q_1, .ref q_2, .ref q_3, .ref q_4, .ref q_5, .ref q_6, .ref q_7])), (q_1, .inl (cI, 6, .inl (zI))), (q_2, .inl (cI, 36, .inl (zI))), (q_3, .inl (cI, 36, .inl (zI))), (q_4, .inl (cI, 36, .inl (zI))), (q_5, .inl (cI, 6, .inl (luA wgC.1 k))), (q_6, .inl (cI, 6, .inl (luA wgC.2.1 k))), (q_7, .inl (cI, 6, .inl (luA wgC.2.2 k)))]) [0, 1, 2, 3, 4, 5, 6, 7] (by decide) rfl).weaken (fun _ _ _ _ => trivial)
        have hFc := va_free (wc := [(g, .inr (iX3, [.ref q_1, .ref q_2, .ref q_3, .ref q_4, .ref q_5, .ref q_6, .ref q_7])), (q_1, .inl (cI, 6, .inl (zI))), (q_2, .inl (cI, 36, .inl (zI))), (q_3, .inl (cI, 36, .inl (zI))), (q_4, .inl (cI, 36, .inl (zI))), (q_5, .inl (cI, 6, .inl (luA wgC.1 k))), (q_6, .inl (cI, 6, .inl (luA wgC.2.1 k))), (q_7, .inl (cI, 6, .inl (luA wgC.2.2 k)))]) hD hS hA [0, 1, 2, 3, 4, 5, 6, 7] rfl
        refine va_callv (va_runV (As := [.int (nI k)]) (rest := []) ⟨hx, hb, hml, hown, hts⟩ (c_X3_weigh l dC dI cI cF tr (H).size g q_1 q_2 q_3 q_4 q_5 q_6 q_7 zI zI zI zI (luA wgC.1 k) (luA wgC.2.1 k) (luA wgC.2.2 k) k 0 hkl (atF_zI _ _) (by decide)) (cwV 1 hts gX3_init_X3_weigh rfl rfl rfl (by decide +kernel) ⟨Nat.le_of_ble_eq_true rfl, Nat.le_of_ble_eq_true rfl⟩) ⟨cDbl, (va_recv hK hPc (ci := iX3) (q0 := 0) rfl rfl), (cDpre hPc hK hN hDc)⟩ rfl rfl hl.1 rfl (lv_room (Nat.le_of_ble_eq_true rfl)) dX3_init_70 ⟨(Nat.le_of_ble_eq_true rfl), (Nat.le_of_ble_eq_true rfl)⟩) hS (fun q _ h => hFc q h) hFc (fun u t H1 locs ht hvm hw_r_10 hB hz1 hk1 hS => ?_)
        refine W.widen (k := 7) (n := 132) (Nat.le_refl _) (Nat.le_refl _) ?_
        obtain ⟨hP1, hD1⟩ := hB
        rw [ht] at hP1
        obtain ⟨hP, hD⟩ := va_join (wr := []) (w1 := [(g, .inr (iX3, [.ref q_1, .ref q_2, .ref q_3, .ref q_4, .ref q_5, .ref q_6, .ref q_7])), (q_1, .inl (cI, 6, .inl (zI))), (q_2, .inl (cI, 36, .inl (zI))), (q_3, .inl (cI, 36, .inl (zI))), (q_4, .inl (cI, 36, .inl (zI))), (q_5, .inl (cI, 6, .inl (putF 6 (luA wgC.1 k) (nI k) (wgL (fun c => agL zI zI zI c 0 (k * 6)) 237).1))), (q_6, .inl (cI, 6, .inl (putF 6 (luA wgC.2.1 k) (nI k) (wgL (fun c => agL zI zI zI c 0 (k * 6)) 237).2.1))), (q_7, .inl (cI, 6, .inl (putF 6 (luA wgC.2.2 k) (nI k) (wgL (fun c => agL zI zI zI c 0 (k * 6)) 237).2.2)))]) hP hD [0, 1, 2, 3, 4, 5, 6, 7] [] rfl rfl (by decide) (by decide) hk1 hFc hP1 hD1
        have hD := hD.sub (ws' := [(g, .inr (iX3, [.ref q_1, .ref q_2, .ref q_3, .ref q_4, .ref q_5, .ref q_6, .ref q_7])), (q_1, .inl (cI, 6, .inl (zI))), (q_2, .inl (cI, 36, .inl (zI))), (q_3, .inl (cI, 36, .inl (zI))), (q_4, .inl (cI, 36, .inl (zI))), (q_5, .inl (cI, 6, .inl (putF 6 (luA wgC.1 k) (nI k) (wgL (fun c => agL zI zI zI c 0 (k * 6)) 237).1))), (q_6, .inl (cI, 6, .inl (putF 6 (luA wgC.2.1 k) (nI k) (wgL (fun c => agL zI zI zI c 0 (k * 6)) 237).2.1))), (q_7, .inl (cI, 6, .inl (putF 6 (luA wgC.2.2 k) (nI k) (wgL (fun c => agL zI zI zI c 0 (k * 6)) 237).2.2)))]) [0, 1, 2, 3, 4, 5, 6, 7] (by decide) rfl
        have hP : va_P (dC, dI) vwCl ([(g, .inr (iX3, [.ref q_1, .ref q_2, .ref q_3, .ref q_4, .ref q_5, .ref q_6, .ref q_7])), (q_1, .inl (cI, 6, .inl (zI))), (q_2, .inl (cI, 36, .inl (zI))), (q_3, .inl (cI, 36, .inl (zI))), (q_4, .inl (cI, 36, .inl (zI))), (q_5, .inl (cI, 6, .inl (putF 6 (luA wgC.1 k) (nI k) (wgL (fun c => agL zI zI zI c 0 (k * 6)) 237).1))), (q_6, .inl (cI, 6, .inl (putF 6 (luA wgC.2.1 k) (nI k) (wgL (fun c => agL zI zI zI c 0 (k * 6)) 237).2.1))), (q_7, .inl (cI, 6, .inl (putF 6 (luA wgC.2.2 k) (nI k) (wgL (fun c => agL zI zI zI c 0 (k * 6)) 237).2.2)))]) H1 := hP.sub [0, 1, 2, 3, 4, 5, 6, 7] rfl
        generalize H1 = H at hP hS ⊢
        have hP : va_P (dC, dI) vwCl ([(g, .inr (iX3, [.ref q_1, .ref q_2, .ref q_3, .ref q_4, .ref q_5, .ref q_6, .ref q_7])), (q_1, .inl (cI, 6, .inl (zI))), (q_2, .inl (cI, 36, .inl (zI))), (q_3, .inl (cI, 36, .inl (zI))), (q_4, .inl (cI, 36, .inl (zI))), (q_5, .inl (cI, 6, .inl (putF 6 (luA wgC.1 k) (nI k) (wgL (fun c => agL zI zI zI c 0 (k * 6)) 237).1))), (q_6, .inl (cI, 6, .inl (putF 6 (luA wgC.2.1 k) (nI k) (wgL (fun c => agL zI zI zI c 0 (k * 6)) 237).2.1))), (q_7, .inl (cI, 6, .inl (putF 6 (luA wgC.2.2 k) (nI k) (wgL (fun c => agL zI zI zI c 0 (k * 6)) 237).2.2)))]) H := hP
        have hD : va_D A ([(g, .inr (iX3, [.ref q_1, .ref q_2, .ref q_3, .ref q_4, .ref q_5, .ref q_6, .ref q_7])), (q_1, .inl (cI, 6, .inl (zI))), (q_2, .inl (cI, 36, .inl (zI))), (q_3, .inl (cI, 36, .inl (zI))), (q_4, .inl (cI, 36, .inl (zI))), (q_5, .inl (cI, 6, .inl (putF 6 (luA wgC.1 k) (nI k) (wgL (fun c => agL zI zI zI c 0 (k * 6)) 237).1))), (q_6, .inl (cI, 6, .inl (putF 6 (luA wgC.2.1 k) (nI k) (wgL (fun c => agL zI zI zI c 0 (k * 6)) 237).2.1))), (q_7, .inl (cI, 6, .inl (putF 6 (luA wgC.2.2 k) (nI k) (wgL (fun c => agL zI zI zI c 0 (k * 6)) 237).2.2)))]) := hD
        try dsimp only at hw_r_10
        have eq_11 : ([(g, .inr (iX3, [.ref q_1, .ref q_2, .ref q_3, .ref q_4, .ref q_5, .ref q_6, .ref q_7])), (q_1, .inl (cI, 6, .inl (zI))), (q_2, .inl (cI, 36, .inl (zI))), (q_3, .inl (cI, 36, .inl (zI))), (q_4, .inl (cI, 36, .inl (zI))), (q_5, .inl (cI, 6, .inl (putF 6 (luA wgC.1 k) (nI k) (wgL (fun c => agL zI zI zI c 0 (k * 6)) 237).1))), (q_6, .inl (cI, 6, .inl (putF 6 (luA wgC.2.1 k) (nI k) (wgL (fun c => agL zI zI zI c 0 (k * 6)) 237).2.1))), (q_7, .inl (cI, 6, .inl (putF 6 (luA wgC.2.2 k) (nI k) (wgL (fun c => agL zI zI zI c 0 (k * 6)) 237).2.2)))] : va_W) = [(g, .inr (iX3, [.ref q_1, .ref q_2, .ref q_3, .ref q_4, .ref q_5, .ref q_6, .ref q_7])), (q_1, .inl (cI, 6, .inl (zI))), (q_2, .inl (cI, 36, .inl (zI))), (q_3, .inl (cI, 36, .inl (zI))), (q_4, .inl (cI, 36, .inl (zI))), (q_5, .inl (cI, 6, .inl (luA wgC.1 (k + 1)))), (q_6, .inl (cI, 6, .inl (luA wgC.2.1 (k + 1)))), (q_7, .inl (cI, 6, .inl (luA wgC.2.2 (k + 1))))] := rfl
        rw [eq_11] at hP hD
        refine lv_iinc (v := nI (k + 1)) (lv' := [(1, .int (nI (k + 1))), (0, .ref g)]) hx hb dX3_init_73 hl (k := 1) rfl (nI_1 k) (by decide) rfl (fun ls hl => ?_)
        refine lv_goto (tgt := 62) hx hb dX3_init_76 (by decide) ?_
        refine W.widen (k := 7) (n := 132) (by omega) (by omega) ?_
        exact ih62 (k + 1) (by omega) hkl _ _ ls hP hD hS (lv_sub hl [1, 0] rfl)
  refine W.widen (k := 7) (n := 132) (by omega) (by omega) ?_
  exact K62 (6 - 0 + 1) 0 (by omega) (Nat.zero_le _) _ _ ls hP hD hS (lv_sub hl [1, 0] rfl)

set_option maxHeartbeats 4000000 in
set_option maxRecDepth 100000 in
theorem c_X4_forget (l : Launch) (dC : Nat → ClassId) (dI : Nat → Nat → Nat) (cI cF : ClassId) (tr : List (ClassId × FieldType)) (sz : Nat) (g : Nat) (p0 : Int32) (p1 : Int32) (p2 : Int32) (p3 : Int32) (p4 : Int32) : Met l yX4_forget wsX4_forget ({ frames := 0, cells := 0, slots := 0, locals := 0 } : Room) (cPd dC dI ((cI, .int) :: (cF, .object RX1) :: tr) sz ([(g, .inr (iX4, [.int p0, .int p1, .int p2, .int p3, .int p4]))]) [.ref g]) (va_Qv (fun _ : Unit => True) (fun _ t => va_P (dC, dI) vwCl ([(g, .inr (iX4, [.int ((-1)), .int ((-1)), .int ((-1)), .int ((-1)), .int ((-1))]))]) t.heap ∧ va_D (va_A ([(g, .inr (iX4, [.int p0, .int p1, .int p2, .int p3, .int p4]))]) sz) ([(g, .inr (iX4, [.int ((-1)), .int ((-1)), .int ((-1)), .int ((-1)), .int ((-1))]))])) (va_A ([(g, .inr (iX4, [.int p0, .int p1, .int p2, .int p3, .int p4]))]) sz)) 0 0 (va_A ([(g, .inr (iX4, [.int p0, .int p1, .int p2, .int p3, .int p4]))]) sz) := by
  refine Met.ofW (cc := cX4_forget) (maxL := 1) (ret := none) (by decide) rfl ?_
  intro p e s m args below meth c s₁ B hml hv
  obtain ⟨rfl, hsz, hP, hK, hN, hD0⟩ := hv
  have hx := B.exec
  have hb := B.bytes
  have hr := B.returns
  have hts := atoms_spec (ws := wsX4_forget) B.pre
  have hown : s.vm.findClass RX4 = some m.cls := findClass_of_methodNamed B.named
  have hlocks := B.notSynchronized
  subst hsz
  have hD := hD0.self (sz := s.heap.size)
  generalize hAe : va_A ([(g, .inr (iX4, [.int p0, .int p1, .int p2, .int p3, .int p4]))]) s.heap.size = A at hD ⊢
  have hA : ∀ q : Nat, s.heap.size ≤ q → A q := fun q h => by rw [← hAe]; exact Or.inr h
  have hS : va_S A s.heap s.heap [] := va_S.rf
  have hP : va_P (dC, dI) vwCl ([(g, .inr (iX4, [.int p0, .int p1, .int p2, .int p3, .int p4]))]) s.heap := hP
  have hl := lv_entry ([.ref g]) (n := 1) (Nat.le_of_ble_eq_true rfl)
  rw [lg_entry_eq]
  generalize (lg_sl ([.ref g]) ++ List.replicate (1 - (lg_sl ([.ref g])).length) Slot.unset).toArray = ls at hl ⊢
  have hl : lv_has ls 1 [(0, .ref g)] := hl
  have hfl_22 := hts (.fieldLink RX4 22 "Greenwheels$TrainSearch" "pairs" "I") (by decide +kernel)
  have hin_X4 : ∀ w ∈ u_ws RX4 TX4 5, w ∈ wsX4_forget := by decide +kernel
  have hfl_29 := hts (.fieldLink RX4 29 "Greenwheels$TrainSearch" "a" "I") (by decide +kernel)
  have hfl_32 := hts (.fieldLink RX4 32 "Greenwheels$TrainSearch" "b" "I") (by decide +kernel)
  have hfl_35 := hts (.fieldLink RX4 35 "Greenwheels$TrainSearch" "c" "I") (by decide +kernel)
  have hfl_38 := hts (.fieldLink RX4 38 "Greenwheels$TrainSearch" "d" "I") (by decide +kernel)
  refine lv_aload_n hx hb dX4_forget_0 rfl (lv_at hl 0 rfl) ?_
  refine lv_iconst (v := (-1)) hx hb dX4_forget_1 (by decide) ?_
  refine va_put (D := (dC, dI)) (ci := iX4) (v := .int ((-1))) (ty := .int) (C := RX4) (T := TX4) (N := 5) hx hb hts hin_X4 tyX4 tyX4_ok nmX4 hown hK hP hD hS 0 rfl rfl 0 (by decide) hfl_22 (fun _ h9 => h9) rfl (by decide +kernel) rfl rfl (Nat.le_of_ble_eq_true rfl) dX4_forget_2 (fun H locs hP hD hS => ?_)
  have hP : va_P (dC, dI) vwCl ([(g, .inr (iX4, [.int ((-1)), .int p1, .int p2, .int p3, .int p4]))]) H := hP
  have hD : va_D A ([(g, .inr (iX4, [.int ((-1)), .int p1, .int p2, .int p3, .int p4]))]) := hD
  refine lv_aload_n hx hb dX4_forget_5 rfl (lv_at hl 0 rfl) ?_
  refine lv_iconst (v := (-1)) hx hb dX4_forget_6 (by decide) ?_
  refine va_put (D := (dC, dI)) (ci := iX4) (v := .int ((-1))) (ty := .int) (C := RX4) (T := TX4) (N := 5) hx hb hts hin_X4 tyX4 tyX4_ok nmX4 hown hK hP hD hS 0 rfl rfl 1 (by decide) hfl_29 (fun _ h9 => h9) rfl (by decide +kernel) rfl rfl (Nat.le_of_ble_eq_true rfl) dX4_forget_7 (fun H locs hP hD hS => ?_)
  have hP : va_P (dC, dI) vwCl ([(g, .inr (iX4, [.int ((-1)), .int ((-1)), .int p2, .int p3, .int p4]))]) H := hP
  have hD : va_D A ([(g, .inr (iX4, [.int ((-1)), .int ((-1)), .int p2, .int p3, .int p4]))]) := hD
  refine lv_aload_n hx hb dX4_forget_10 rfl (lv_at hl 0 rfl) ?_
  refine lv_iconst (v := (-1)) hx hb dX4_forget_11 (by decide) ?_
  refine va_put (D := (dC, dI)) (ci := iX4) (v := .int ((-1))) (ty := .int) (C := RX4) (T := TX4) (N := 5) hx hb hts hin_X4 tyX4 tyX4_ok nmX4 hown hK hP hD hS 0 rfl rfl 2 (by decide) hfl_32 (fun _ h9 => h9) rfl (by decide +kernel) rfl rfl (Nat.le_of_ble_eq_true rfl) dX4_forget_12 (fun H locs hP hD hS => ?_)
  have hP : va_P (dC, dI) vwCl ([(g, .inr (iX4, [.int ((-1)), .int ((-1)), .int ((-1)), .int p3, .int p4]))]) H := hP
  have hD : va_D A ([(g, .inr (iX4, [.int ((-1)), .int ((-1)), .int ((-1)), .int p3, .int p4]))]) := hD
  refine lv_aload_n hx hb dX4_forget_15 rfl (lv_at hl 0 rfl) ?_
  refine lv_iconst (v := (-1)) hx hb dX4_forget_16 (by decide) ?_
  refine va_put (D := (dC, dI)) (ci := iX4) (v := .int ((-1))) (ty := .int) (C := RX4) (T := TX4) (N := 5) hx hb hts hin_X4 tyX4 tyX4_ok nmX4 hown hK hP hD hS 0 rfl rfl 3 (by decide) hfl_35 (fun _ h9 => h9) rfl (by decide +kernel) rfl rfl (Nat.le_of_ble_eq_true rfl) dX4_forget_17 (fun H locs hP hD hS => ?_)
  have hP : va_P (dC, dI) vwCl ([(g, .inr (iX4, [.int ((-1)), .int ((-1)), .int ((-1)), .int ((-1)), .int p4]))]) H := hP
  have hD : va_D A ([(g, .inr (iX4, [.int ((-1)), .int ((-1)), .int ((-1)), .int ((-1)), .int p4]))]) := hD
  refine lv_aload_n hx hb dX4_forget_20 rfl (lv_at hl 0 rfl) ?_
  refine lv_iconst (v := (-1)) hx hb dX4_forget_21 (by decide) ?_
  refine va_put (D := (dC, dI)) (ci := iX4) (v := .int ((-1))) (ty := .int) (C := RX4) (T := TX4) (N := 5) hx hb hts hin_X4 tyX4 tyX4_ok nmX4 hown hK hP hD hS 0 rfl rfl 4 (by decide) hfl_38 (fun _ h9 => h9) rfl (by decide +kernel) rfl rfl (Nat.le_of_ble_eq_true rfl) dX4_forget_22 (fun H locs hP hD hS => ?_)
  have hP : va_P (dC, dI) vwCl ([(g, .inr (iX4, [.int ((-1)), .int ((-1)), .int ((-1)), .int ((-1)), .int ((-1))]))]) H := hP
  have hD : va_D A ([(g, .inr (iX4, [.int ((-1)), .int ((-1)), .int ((-1)), .int ((-1)), .int ((-1))]))]) := hD
  refine W.widen (k := 0) (n := 0) (by omega) (by omega) ?_
  exact W.vret hx hb hr (fun t ht hW => ⟨⟨(), rfl, trivial, ⟨by rw [ht]; exact hP, hAe ▸ hD⟩⟩, hS.F ht⟩) hS.2.2 dX4_forget_25

set_option maxHeartbeats 4000000 in
set_option maxRecDepth 100000 in
theorem c_X4_init (l : Launch) (dC : Nat → ClassId) (dI : Nat → Nat → Nat) (cI cF : ClassId) (tr : List (ClassId × FieldType)) (sz : Nat) (g : Nat) : Met l yX4_init wsX4_init ({ frames := 1, cells := 0, slots := 0, locals := 20 } : Room) (cPd dC dI ((cI, .int) :: (cF, .object RX1) :: tr) sz ([(g, .inr (iX4, [.int 0, .int 0, .int 0, .int 0, .int 0]))]) [.ref g]) (va_Qv (fun _ : Unit => True) (fun _ t => va_P (dC, dI) vwCl ([(g, .inr (iX4, [.int ((-1)), .int ((-1)), .int ((-1)), .int ((-1)), .int ((-1))]))]) t.heap ∧ va_D (va_A ([(g, .inr (iX4, [.int 0, .int 0, .int 0, .int 0, .int 0]))]) sz) ([(g, .inr (iX4, [.int ((-1)), .int ((-1)), .int ((-1)), .int ((-1)), .int ((-1))]))])) (va_A ([(g, .inr (iX4, [.int 0, .int 0, .int 0, .int 0, .int 0]))]) sz)) 0 0 (va_A ([(g, .inr (iX4, [.int 0, .int 0, .int 0, .int 0, .int 0]))]) sz) := by
  refine Met.ofW (cc := cX4_init) (maxL := 1) (ret := none) (by decide) rfl ?_
  intro p e s m args below meth c s₁ B hml hv
  obtain ⟨rfl, hsz, hP, hK, hN, hD0⟩ := hv
  have hx := B.exec
  have hb := B.bytes
  have hr := B.returns
  have hts := atoms_spec (ws := wsX4_init) B.pre
  have hown : s.vm.findClass RX4 = some m.cls := findClass_of_methodNamed B.named
  have hlocks := B.notSynchronized
  have hin : meth.name = "<init>" := (name_of_methodNamed B.named B.method).1
  subst hsz
  have hD := hD0.self (sz := s.heap.size)
  generalize hAe : va_A ([(g, .inr (iX4, [.int 0, .int 0, .int 0, .int 0, .int 0]))]) s.heap.size = A at hD ⊢
  have hA : ∀ q : Nat, s.heap.size ≤ q → A q := fun q h => by rw [← hAe]; exact Or.inr h
  have hS : va_S A s.heap s.heap [] := va_S.rf
  have hP : va_P (dC, dI) vwCl ([(g, .inr (iX4, [.int 0, .int 0, .int 0, .int 0, .int 0]))]) s.heap := hP
  have hl := lv_entry ([.ref g]) (n := 1) (Nat.le_of_ble_eq_true rfl)
  rw [lg_entry_eq]
  generalize (lg_sl ([.ref g]) ++ List.replicate (1 - (lg_sl ([.ref g])).length) Slot.unset).toArray = ls at hl ⊢
  have hl : lv_has ls 1 [(0, .ref g)] := hl
  have hw_oi_l := hts (.methodLink RX4 3 objectInit) (by decide +kernel)
  have hw_oi_i := hts (.instanceMethod objectInit) (by decide +kernel)
  have hw_oi_c := hts (.code objectInit ⟨#[0xb1]⟩ 1 none) (by decide +kernel)
  refine lv_aload_n hx hb dX4_init_0 rfl (lv_at hl 0 rfl) ?_
  refine W.objInit hx hb hown hw_oi_l hw_oi_i hw_oi_c rfl (by rw [hml]; exact hl.1) rfl dX4_init_1 (Nat.le_of_ble_eq_true rfl) (Nat.le_of_ble_eq_true rfl) ?_
  refine W.eq (g2 := F0 m 4 ls []) rfl ?_
  refine lv_aload_n hx hb dX4_init_4 rfl (lv_at hl 0 rfl) ?_
  have hPc : va_P (dC, dI) vwCl ([(g, .inr (iX4, [.int 0, .int 0, .int 0, .int 0, .int 0]))]) _ := hP.sub [0] rfl
  have hDc : va_D (fun _ => True) ([(g, .inr (iX4, [.int 0, .int 0, .int 0, .int 0, .int 0]))]) := (hD.sub (ws' := [(g, .inr (iX4, [.int 0, .int 0, .int 0, .int 0, .int 0]))]) [0] (by decide) rfl).weaken (fun _ _ _ _ => trivial)
  have hFc := va_free (wc := [(g, .inr (iX4, [.int 0, .int 0, .int 0, .int 0, .int 0]))]) hD hS hA [0] rfl
  refine va_callv (va_runV (As := []) (rest := []) ⟨hx, hb, hml, hown, hts⟩ (c_X4_forget l dC dI cI cF tr (s.heap).size g 0 0 0 0 0) (cwV 0 hts gX4_init_X4_forget rfl rfl rfl (by decide +kernel) ⟨Nat.le_of_ble_eq_true rfl, Nat.le_of_ble_eq_true rfl⟩) ⟨cDbl, (va_recv hK hPc (ci := iX4) (q0 := 0) rfl rfl), (cDpre hPc hK hN hDc)⟩ rfl rfl hl.1 rfl (lv_room (Nat.le_of_ble_eq_true rfl)) dX4_init_5 ⟨(Nat.le_of_ble_eq_true rfl), (Nat.le_of_ble_eq_true rfl)⟩) hS (fun q _ h => hFc q h) hFc (fun u t H1 locs ht hvm hw_r_1 hB hz1 hk1 hS => ?_)
  refine W.widen (k := 0) (n := 0) (Nat.le_refl _) (Nat.le_refl _) ?_
  obtain ⟨hP1, hD1⟩ := hB
  rw [ht] at hP1
  obtain ⟨hP, hD⟩ := va_join (wr := []) (w1 := [(g, .inr (iX4, [.int ((-1)), .int ((-1)), .int ((-1)), .int ((-1)), .int ((-1))]))]) hP hD [0] [] rfl rfl (by decide) (by decide) hk1 hFc hP1 hD1
  have hD := hD.sub (ws' := [(g, .inr (iX4, [.int ((-1)), .int ((-1)), .int ((-1)), .int ((-1)), .int ((-1))]))]) [0] (by decide) rfl
  have hP : va_P (dC, dI) vwCl ([(g, .inr (iX4, [.int ((-1)), .int ((-1)), .int ((-1)), .int ((-1)), .int ((-1))]))]) H1 := hP.sub [0] rfl
  generalize H1 = H at hP hS ⊢
  have hP : va_P (dC, dI) vwCl ([(g, .inr (iX4, [.int ((-1)), .int ((-1)), .int ((-1)), .int ((-1)), .int ((-1))]))]) H := hP
  have hD : va_D A ([(g, .inr (iX4, [.int ((-1)), .int ((-1)), .int ((-1)), .int ((-1)), .int ((-1))]))]) := hD
  try dsimp only at hw_r_1
  refine W.widen (k := 0) (n := 0) (by omega) (by omega) ?_
  exact W.vret hx hb hr (fun t ht hW => ⟨⟨(), rfl, trivial, ⟨by rw [ht]; exact hP, hAe ▸ hD⟩⟩, hS.F ht⟩) hS.2.2 dX4_init_8
