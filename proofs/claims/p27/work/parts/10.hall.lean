/-! the hall: what is asked -/
def tnF (q : Int64 × Int64) (tu : Int32) : Int64 × Int64 := (frU (q.1 * tu.toInt64) (q.2 * 1), frL (q.1 * tu.toInt64) (q.2 * 1))
def wwF (q : Int64 × Int64) : Int64 × Int64 := (wwU q.1 q.2, wwL q.1 q.2)
def afF (q : Int64 × Int64) (tu k : Int32) : Int64 × Int64 := if k = 0 then q else if k = 1 then tnF q tu else wwF (tnF q tu)
def paF (q : Int64 × Int64) (tu te : Int32) : Int64 × Int64 := (frU (q.1 * (tu.toInt64 * te.toInt64)) (q.2 * 1), frL (q.1 * (tu.toInt64 * te.toInt64)) (q.2 * 1))
def caF (q : Int64 × Int64) (j c : Int32) : Int32 := ceF (wwF (tnF q j)).1 (wwF (tnF q j)).2 c
def owF (ax te me : Nat → Int32) (bc : Nat → Option Nat) (i k : Int32) : Int32 := if k = 0 then atF 12 ax i else if k = 1 then atF 12 te i else if k = 2 then atF 12 me i else if rinF 7 bc (atF 12 ax i) = none then 0 else 1
def oaF (q : Int64 × Int64) (tu k b : Int32) : Int64 := if b = 0 then (afF q tu k).2 else (afF q tu k).1
def olF (pc ag le gr : Nat → Int32) (i k : Int32) : Int32 := if k = 0 then atF 6 pc i else if k = 1 then atF 6 ag i else if k = 2 then atF 6 le i else atF 6 gr i
def ocF (cn : Nat) (wd : Int32) (nr : Nat → Int32) (i k : Int32) : Int32 := if k = 0 then atF 12 nr i else if k = 1 then (if isInF wd i = 0 then 0 else 1) else if k = 2 then (if isInF (stL nr wd cn) i = 0 then 0 else 1) else bcF (stL nr wd cn) - bcF (stL nr (wd ||| 1 <<< (i &&& 31)) cn)
def hsF (n cn : Nat) (me : Nat → Int32) (bc : Nat → Option Nat) (tu wd ja re : Int32) (nr pc : Nat → Int32) (i : Int32) : Int32 := if i = 0 then nI n else if i = 1 then cmL me n / 2 else if i = 2 then cvL bc 7 else if i = 3 then tu else if i = 4 then nI cn else if i = 5 then bcF (stL nr wd cn) else if i = 6 then cpL pc 6 else if i = 7 then ja else re
def mxF (d x : Int64) : Int64 := d * 31 + x

set_option maxHeartbeats 4000000 in
set_option maxRecDepth 100000 in
theorem c_p_X5_demandIndex (l : Launch) (dC : Nat → ClassId) (dI : Nat → Nat → Nat) (cI cF : ClassId) (tr : List (ClassId × FieldType)) (sz : Nat) (b : Int32) (hbn : ¬ b = 0) : Met l yX5_demandIndex wsX5_demandIndex ({ frames := 0, cells := 0, slots := 0, locals := 0 } : Room) (cPc dC dI ((cI, .int) :: (cF, .object RX1) :: tr) sz ([]) [.int b]) (va_Qv (fun _ : Unit => True) (fun _ _ => True) (va_A ([]) sz)) 0 0 (va_A ([]) sz) := by
  refine Met.ofW (cc := cX5_demandIndex) (maxL := 1) (ret := none) (by decide) rfl ?_
  intro p e s m args below meth c s₁ B hml hv
  obtain ⟨rfl, hsz, hP, hK, hN⟩ := hv
  have hx := B.exec
  have hb := B.bytes
  have hr := B.returns
  have hts := atoms_spec (ws := wsX5_demandIndex) B.pre
  have hown : s.vm.findClass RX5 = some m.cls := findClass_of_methodNamed B.named
  have hlocks := B.notSynchronized
  subst hsz
  generalize hAe : va_A [] s.heap.size = A
  have hA : ∀ q : Nat, s.heap.size ≤ q → A q := fun q h => by rw [← hAe]; exact Or.inr h
  have hS : va_S A s.heap s.heap [] := va_S.rf
  have hAn : ∀ q : Nat, q < s.heap.size → ¬ A q := fun q h => by rw [← hAe]; exact notZ h
  have hAg : ∀ q : Nat, A q → s.heap.size ≤ q := fun q h => geZ (hAe ▸ h)
  have hR0 : va_P (dC, dI) vwCl ([]) s.heap := hP
  have hR : va_P (dC, dI) vwCl ([]) s.heap := hP
  have hP : va_P (dC, dI) vwCl [] s.heap := fun k q h => by simp at h
  have hD : va_D A [] := ⟨fun i j p q h => by simp at h, fun k q h => by simp at h⟩
  have hl := lv_entry ([.int b]) (n := 1) (Nat.le_of_ble_eq_true rfl)
  rw [lg_entry_eq]
  generalize (lg_sl ([.int b]) ++ List.replicate (1 - (lg_sl ([.int b])).length) Slot.unset).toArray = ls at hl ⊢
  have hl : lv_has ls 1 [(0, .int b)] := hl
  refine lv_iload_n hx hb dX5_demandIndex_0 rfl (lv_at hl 0 rfl) ?_
  refine lv_if_ne (tgt := 15) hx hb dX5_demandIndex_1 (by decide) (fun c_1 => ?_) (fun c_1 => ?_)
  · refine W.widen (k := 0) (n := 0) (by omega) (by omega) ?_
    exact W.vret hx hb hr (fun t ht hW => ⟨⟨(), rfl, trivial, trivial⟩, hS.F ht⟩) hS.2.2 dX5_demandIndex_15
  · exfalso; exact hbn c_1

set_option maxHeartbeats 4000000 in
set_option maxRecDepth 100000 in
theorem c_p_X5_demandArgument (l : Launch) (dC : Nat → ClassId) (dI : Nat → Nat → Nat) (cI cF : ClassId) (tr : List (ClassId × FieldType)) (sz : Nat) (b : Int32) (hbn : ¬ b = 0) : Met l yX5_demandArgument wsX5_demandArgument ({ frames := 0, cells := 0, slots := 0, locals := 0 } : Room) (cPc dC dI ((cI, .int) :: (cF, .object RX1) :: tr) sz ([]) [.int b]) (va_Qv (fun _ : Unit => True) (fun _ _ => True) (va_A ([]) sz)) 0 0 (va_A ([]) sz) := by
  refine Met.ofW (cc := cX5_demandArgument) (maxL := 1) (ret := none) (by decide) rfl ?_
  intro p e s m args below meth c s₁ B hml hv
  obtain ⟨rfl, hsz, hP, hK, hN⟩ := hv
  have hx := B.exec
  have hb := B.bytes
  have hr := B.returns
  have hts := atoms_spec (ws := wsX5_demandArgument) B.pre
  have hown : s.vm.findClass RX5 = some m.cls := findClass_of_methodNamed B.named
  have hlocks := B.notSynchronized
  subst hsz
  generalize hAe : va_A [] s.heap.size = A
  have hA : ∀ q : Nat, s.heap.size ≤ q → A q := fun q h => by rw [← hAe]; exact Or.inr h
  have hS : va_S A s.heap s.heap [] := va_S.rf
  have hAn : ∀ q : Nat, q < s.heap.size → ¬ A q := fun q h => by rw [← hAe]; exact notZ h
  have hAg : ∀ q : Nat, A q → s.heap.size ≤ q := fun q h => geZ (hAe ▸ h)
  have hR0 : va_P (dC, dI) vwCl ([]) s.heap := hP
  have hR : va_P (dC, dI) vwCl ([]) s.heap := hP
  have hP : va_P (dC, dI) vwCl [] s.heap := fun k q h => by simp at h
  have hD : va_D A [] := ⟨fun i j p q h => by simp at h, fun k q h => by simp at h⟩
  have hl := lv_entry ([.int b]) (n := 1) (Nat.le_of_ble_eq_true rfl)
  rw [lg_entry_eq]
  generalize (lg_sl ([.int b]) ++ List.replicate (1 - (lg_sl ([.int b])).length) Slot.unset).toArray = ls at hl ⊢
  have hl : lv_has ls 1 [(0, .int b)] := hl
  refine lv_iload_n hx hb dX5_demandArgument_0 rfl (lv_at hl 0 rfl) ?_
  refine lv_if_ne (tgt := 15) hx hb dX5_demandArgument_1 (by decide) (fun c_1 => ?_) (fun c_1 => ?_)
  · refine W.widen (k := 0) (n := 0) (by omega) (by omega) ?_
    exact W.vret hx hb hr (fun t ht hW => ⟨⟨(), rfl, trivial, trivial⟩, hS.F ht⟩) hS.2.2 dX5_demandArgument_15
  · exfalso; exact hbn c_1

set_option maxHeartbeats 4000000 in
set_option maxRecDepth 100000 in
theorem c_p_X5_demandState (l : Launch) (dC : Nat → ClassId) (dI : Nat → Nat → Nat) (cI cF : ClassId) (tr : List (ClassId × FieldType)) (sz : Nat) (b : Int32) (hbn : ¬ b = 0) : Met l yX5_demandState wsX5_demandState ({ frames := 0, cells := 0, slots := 0, locals := 0 } : Room) (cPc dC dI ((cI, .int) :: (cF, .object RX1) :: tr) sz ([]) [.int b]) (va_Qv (fun _ : Unit => True) (fun _ _ => True) (va_A ([]) sz)) 0 0 (va_A ([]) sz) := by
  refine Met.ofW (cc := cX5_demandState) (maxL := 1) (ret := none) (by decide) rfl ?_
  intro p e s m args below meth c s₁ B hml hv
  obtain ⟨rfl, hsz, hP, hK, hN⟩ := hv
  have hx := B.exec
  have hb := B.bytes
  have hr := B.returns
  have hts := atoms_spec (ws := wsX5_demandState) B.pre
  have hown : s.vm.findClass RX5 = some m.cls := findClass_of_methodNamed B.named
  have hlocks := B.notSynchronized
  subst hsz
  generalize hAe : va_A [] s.heap.size = A
  have hA : ∀ q : Nat, s.heap.size ≤ q → A q := fun q h => by rw [← hAe]; exact Or.inr h
  have hS : va_S A s.heap s.heap [] := va_S.rf
  have hAn : ∀ q : Nat, q < s.heap.size → ¬ A q := fun q h => by rw [← hAe]; exact notZ h
  have hAg : ∀ q : Nat, A q → s.heap.size ≤ q := fun q h => geZ (hAe ▸ h)
  have hR0 : va_P (dC, dI) vwCl ([]) s.heap := hP
  have hR : va_P (dC, dI) vwCl ([]) s.heap := hP
  have hP : va_P (dC, dI) vwCl [] s.heap := fun k q h => by simp at h
  have hD : va_D A [] := ⟨fun i j p q h => by simp at h, fun k q h => by simp at h⟩
  have hl := lv_entry ([.int b]) (n := 1) (Nat.le_of_ble_eq_true rfl)
  rw [lg_entry_eq]
  generalize (lg_sl ([.int b]) ++ List.replicate (1 - (lg_sl ([.int b])).length) Slot.unset).toArray = ls at hl ⊢
  have hl : lv_has ls 1 [(0, .int b)] := hl
  refine lv_iload_n hx hb dX5_demandState_0 rfl (lv_at hl 0 rfl) ?_
  refine lv_if_ne (tgt := 15) hx hb dX5_demandState_1 (by decide) (fun c_1 => ?_) (fun c_1 => ?_)
  · refine W.widen (k := 0) (n := 0) (by omega) (by omega) ?_
    exact W.vret hx hb hr (fun t ht hW => ⟨⟨(), rfl, trivial, trivial⟩, hS.F ht⟩) hS.2.2 dX5_demandState_15
  · exfalso; exact hbn c_1

set_option maxHeartbeats 4000000 in
set_option maxRecDepth 100000 in
theorem c_p_X5_demandAxle (l : Launch) (dC : Nat → ClassId) (dI : Nat → Nat → Nat) (cI cF : ClassId) (tr : List (ClassId × FieldType)) (sz : Nat) (i : Int32) (hi : ¬ withinF i 0 6 = 0) : Met l yX5_demandAxle wsX5_demandAxle ({ frames := 1, cells := 0, slots := 0, locals := 22 } : Room) (cPc dC dI ((cI, .int) :: (cF, .object RX1) :: tr) sz ([]) [.int i]) (va_Qv (fun _ : Unit => True) (fun _ _ => True) (va_A ([]) sz)) 0 0 (va_A ([]) sz) := by
  refine Met.ofW (cc := cX5_demandAxle) (maxL := 1) (ret := none) (by decide) rfl ?_
  intro p e s m args below meth c s₁ B hml hv
  obtain ⟨rfl, hsz, hP, hK, hN⟩ := hv
  have hx := B.exec
  have hb := B.bytes
  have hr := B.returns
  have hts := atoms_spec (ws := wsX5_demandAxle) B.pre
  have hown : s.vm.findClass RX5 = some m.cls := findClass_of_methodNamed B.named
  have hlocks := B.notSynchronized
  subst hsz
  generalize hAe : va_A [] s.heap.size = A
  have hA : ∀ q : Nat, s.heap.size ≤ q → A q := fun q h => by rw [← hAe]; exact Or.inr h
  have hS : va_S A s.heap s.heap [] := va_S.rf
  have hAn : ∀ q : Nat, q < s.heap.size → ¬ A q := fun q h => by rw [← hAe]; exact notZ h
  have hAg : ∀ q : Nat, A q → s.heap.size ≤ q := fun q h => geZ (hAe ▸ h)
  have hR0 : va_P (dC, dI) vwCl ([]) s.heap := hP
  have hR : va_P (dC, dI) vwCl ([]) s.heap := hP
  have hP : va_P (dC, dI) vwCl [] s.heap := fun k q h => by simp at h
  have hD : va_D A [] := ⟨fun i j p q h => by simp at h, fun k q h => by simp at h⟩
  have hl := lv_entry ([.int i]) (n := 1) (Nat.le_of_ble_eq_true rfl)
  rw [lg_entry_eq]
  generalize (lg_sl ([.int i]) ++ List.replicate (1 - (lg_sl ([.int i])).length) Slot.unset).toArray = ls at hl ⊢
  have hl : lv_has ls 1 [(0, .int i)] := hl
  refine lv_iload_n hx hb dX5_demandAxle_0 rfl (lv_at hl 0 rfl) ?_
  refine lv_iconst (v := 0) hx hb dX5_demandAxle_1 (by decide) ?_
  refine lv_bipush (v := 6) hx hb dX5_demandAxle_2 (by decide) ?_
  have hPc : va_P (dC, dI) vwCl [] s.heap := nilP
  have hFc := frZ hS hA
  refine va_calli (va_runS (As := [.int i, .int 0, .int 6]) (rest := []) ⟨hx, hb, hml, hown, hts⟩ (c_X5_isWithin l dC dI cI cF tr (s.heap).size i 0 6) (va_cwS 3 hts gX5_demandAxle_X5_isWithin rfl rfl rfl (by decide +kernel) ⟨Nat.le_of_ble_eq_true rfl, Nat.le_of_ble_eq_true rfl⟩) ⟨cBl, (cPre hPc hK hN)⟩ rfl rfl hl.1 rfl (lv_room (Nat.le_of_ble_eq_true rfl)) dX5_demandAxle_4 ⟨(Nat.le_of_ble_eq_true rfl), (Nat.le_of_ble_eq_true rfl)⟩) hS (fun q _ h => hFc q h) hFc (fun r_1 u t H1 locs ht hvm hw_r_1 hB hz1 hk1 hS => ?_)
  refine W.widen (k := 0) (n := 0) (Nat.le_refl _) (Nat.le_refl _) ?_
  have hP := keepP hP hk1
  have hR := keepP hR hk1
  generalize H1 = H at hP hR hS ⊢
  have hP : va_P (dC, dI) vwCl ([]) H := hP
  try dsimp only at hw_r_1
  subst hw_r_1
  have hPc : va_P (dC, dI) vwCl [] H := nilP
  have hFc := frZ hS hA
  refine va_callv (va_runS (As := [.int (withinF i 0 6)]) (rest := []) ⟨hx, hb, hml, hown, hts⟩ (c_p_X5_demandIndex l dC dI cI cF tr (H).size (withinF i 0 6) (by assumption)) (va_cwS 1 hts gX5_demandAxle_X5_demandIndex rfl rfl rfl (by decide +kernel) ⟨Nat.le_of_ble_eq_true rfl, Nat.le_of_ble_eq_true rfl⟩) ⟨cBl, (cPre hPc hK hN)⟩ rfl rfl hl.1 rfl (lv_room (Nat.le_of_ble_eq_true rfl)) dX5_demandAxle_7 ⟨(Nat.le_of_ble_eq_true rfl), (Nat.le_of_ble_eq_true rfl)⟩) hS (fun q _ h => hFc q h) hFc (fun u t H1 locs ht hvm hw_r_2 hB hz1 hk1 hS => ?_)
  refine W.widen (k := 0) (n := 0) (Nat.le_refl _) (Nat.le_refl _) ?_
  have hP := keepP hP hk1
  have hR := keepP hR hk1
  generalize H1 = H at hP hR hS ⊢
  have hP : va_P (dC, dI) vwCl ([]) H := hP
  try dsimp only at hw_r_2
  refine W.widen (k := 0) (n := 0) (by omega) (by omega) ?_
  exact W.vret hx hb hr (fun t ht hW => ⟨⟨(), rfl, trivial, trivial⟩, hS.F ht⟩) hS.2.2 dX5_demandAxle_10

set_option maxHeartbeats 4000000 in
set_option maxRecDepth 100000 in
theorem c_p_X5_demandWheel (l : Launch) (dC : Nat → ClassId) (dI : Nat → Nat → Nat) (cI cF : ClassId) (tr : List (ClassId × FieldType)) (sz : Nat) (o : Nat) (ce : Nat) (lu : Nat) (cl : Nat) (se : Nat) (tu : Int32) (ja : Int32) (re : Int32) (g : Nat) (n : Nat) (xa : Nat) (xt : Nat) (xm : Nat) (wh : Nat) (st : Nat) (xb : Nat) (xc : Nat) (i : Int32) (hi : ¬ withinF i 0 (nI n - 1) = 0) : Met l yX5_demandWheel wsX5_demandWheel ({ frames := 1, cells := 0, slots := 0, locals := 22 } : Room) (cPc dC dI ((cI, .int) :: (cF, .object RX1) :: tr) sz ([(o, .inr (iX5, [.ref g, .ref ce, .ref lu, .ref cl, .ref se, .int tu, .int ja, .int re])), (g, .inr (iX2, [.int (nI n), .ref xa, .ref xt, .ref xm, .ref wh, .ref st, .ref xb, .ref xc]))]) [.ref o, .int i]) (va_Qv (fun _ : Unit => True) (fun _ _ => True) (va_A ([]) sz)) 0 0 (va_A ([]) sz) := by
  refine Met.ofW (cc := cX5_demandWheel) (maxL := 2) (ret := none) (by decide) rfl ?_
  intro p e s m args below meth c s₁ B hml hv
  obtain ⟨rfl, hsz, hP, hK, hN⟩ := hv
  have hx := B.exec
  have hb := B.bytes
  have hr := B.returns
  have hts := atoms_spec (ws := wsX5_demandWheel) B.pre
  have hown : s.vm.findClass RX5 = some m.cls := findClass_of_methodNamed B.named
  have hlocks := B.notSynchronized
  subst hsz
  generalize hAe : va_A [] s.heap.size = A
  have hA : ∀ q : Nat, s.heap.size ≤ q → A q := fun q h => by rw [← hAe]; exact Or.inr h
  have hS : va_S A s.heap s.heap [] := va_S.rf
  have hAn : ∀ q : Nat, q < s.heap.size → ¬ A q := fun q h => by rw [← hAe]; exact notZ h
  have hAg : ∀ q : Nat, A q → s.heap.size ≤ q := fun q h => geZ (hAe ▸ h)
  have hR0 : va_P (dC, dI) vwCl ([(o, .inr (iX5, [.ref g, .ref ce, .ref lu, .ref cl, .ref se, .int tu, .int ja, .int re])), (g, .inr (iX2, [.int (nI n), .ref xa, .ref xt, .ref xm, .ref wh, .ref st, .ref xb, .ref xc]))]) s.heap := hP
  have hR : va_P (dC, dI) vwCl ([(o, .inr (iX5, [.ref g, .ref ce, .ref lu, .ref cl, .ref se, .int tu, .int ja, .int re])), (g, .inr (iX2, [.int (nI n), .ref xa, .ref xt, .ref xm, .ref wh, .ref st, .ref xb, .ref xc]))]) s.heap := hP
  have hP : va_P (dC, dI) vwCl [] s.heap := fun k q h => by simp at h
  have hD : va_D A [] := ⟨fun i j p q h => by simp at h, fun k q h => by simp at h⟩
  have hl := lv_entry ([.ref o, .int i]) (n := 2) (Nat.le_of_ble_eq_true rfl)
  rw [lg_entry_eq]
  generalize (lg_sl ([.ref o, .int i]) ++ List.replicate (2 - (lg_sl ([.ref o, .int i])).length) Slot.unset).toArray = ls at hl ⊢
  have hl : lv_has ls 2 [(0, .ref o), (1, .int i)] := hl
  have hfl_10 := hts (.fieldLink RX5 10 "Greenwheels" "gearing" "LGreenwheels$Gearing;") (by decide +kernel)
  have hin_X5 : ∀ w ∈ u_ws RX5 TX5 8, w ∈ wsX5_demandWheel := by decide +kernel
  have hfl_53 := hts (.fieldLink RX5 53 "Greenwheels$Gearing" "wheels" "I") (by decide +kernel)
  have hin_X2 : ∀ w ∈ u_ws RX2 TX2 8, w ∈ wsX5_demandWheel := by decide +kernel
  refine lv_iload_n hx hb dX5_demandWheel_0 rfl (lv_at hl 1 rfl) ?_
  refine lv_iconst (v := 0) hx hb dX5_demandWheel_1 (by decide) ?_
  refine lv_aload_n hx hb dX5_demandWheel_2 rfl (lv_at hl 0 rfl) ?_
  refine va_get (D := (dC, dI)) (ci := iX5) (v := .ref g) (C := RX5) (T := TX5) (N := 8) hx hb hts hin_X5 hown hK hR 0 rfl rfl 0 (by decide) hfl_10 (fun _ h9 => h9) rfl dX5_demandWheel_3 ?_
  refine va_get (D := (dC, dI)) (ci := iX2) (v := .int (nI n)) (C := RX2) (T := TX2) (N := 8) hx hb hts hin_X2 hown hK hR 1 rfl rfl 0 (by decide) hfl_53 (fun _ h9 => h9) rfl dX5_demandWheel_6 ?_
  refine lv_iconst (v := 1) hx hb dX5_demandWheel_9 (by decide) ?_
  refine lv_isub hx hb dX5_demandWheel_10 ?_
  have hPc : va_P (dC, dI) vwCl [] s.heap := nilP
  have hFc := frZ hS hA
  refine va_calli (va_runS (As := [.int i, .int 0, .int ((nI n) - 1)]) (rest := []) ⟨hx, hb, hml, hown, hts⟩ (c_X5_isWithin l dC dI cI cF tr (s.heap).size i 0 ((nI n) - 1)) (va_cwS 3 hts gX5_demandWheel_X5_isWithin rfl rfl rfl (by decide +kernel) ⟨Nat.le_of_ble_eq_true rfl, Nat.le_of_ble_eq_true rfl⟩) ⟨cBl, (cPre hPc hK hN)⟩ rfl rfl hl.1 rfl (lv_room (Nat.le_of_ble_eq_true rfl)) dX5_demandWheel_11 ⟨(Nat.le_of_ble_eq_true rfl), (Nat.le_of_ble_eq_true rfl)⟩) hS (fun q _ h => hFc q h) hFc (fun r_1 u t H1 locs ht hvm hw_r_1 hB hz1 hk1 hS => ?_)
  refine W.widen (k := 0) (n := 0) (Nat.le_refl _) (Nat.le_refl _) ?_
  have hP := keepP hP hk1
  have hR := keepP hR hk1
  generalize H1 = H at hP hR hS ⊢
  have hP : va_P (dC, dI) vwCl ([]) H := hP
  try dsimp only at hw_r_1
  subst hw_r_1
  have hPc : va_P (dC, dI) vwCl [] H := nilP
  have hFc := frZ hS hA
  refine va_callv (va_runS (As := [.int (withinF i 0 ((nI n) - 1))]) (rest := []) ⟨hx, hb, hml, hown, hts⟩ (c_p_X5_demandIndex l dC dI cI cF tr (H).size (withinF i 0 ((nI n) - 1)) (by assumption)) (va_cwS 1 hts gX5_demandWheel_X5_demandIndex rfl rfl rfl (by decide +kernel) ⟨Nat.le_of_ble_eq_true rfl, Nat.le_of_ble_eq_true rfl⟩) ⟨cBl, (cPre hPc hK hN)⟩ rfl rfl hl.1 rfl (lv_room (Nat.le_of_ble_eq_true rfl)) dX5_demandWheel_14 ⟨(Nat.le_of_ble_eq_true rfl), (Nat.le_of_ble_eq_true rfl)⟩) hS (fun q _ h => hFc q h) hFc (fun u t H1 locs ht hvm hw_r_2 hB hz1 hk1 hS => ?_)
  refine W.widen (k := 0) (n := 0) (Nat.le_refl _) (Nat.le_refl _) ?_
  have hP := keepP hP hk1
  have hR := keepP hR hk1
  generalize H1 = H at hP hR hS ⊢
  have hP : va_P (dC, dI) vwCl ([]) H := hP
  try dsimp only at hw_r_2
  refine W.widen (k := 0) (n := 0) (by omega) (by omega) ?_
  exact W.vret hx hb hr (fun t ht hW => ⟨⟨(), rfl, trivial, trivial⟩, hS.F ht⟩) hS.2.2 dX5_demandWheel_17

set_option maxHeartbeats 4000000 in
set_option maxRecDepth 100000 in
theorem c_p_X5_demandClaim (l : Launch) (dC : Nat → ClassId) (dI : Nat → Nat → Nat) (cI cF : ClassId) (tr : List (ClassId × FieldType)) (sz : Nat) (o : Nat) (ce : Nat) (lu : Nat) (cl : Nat) (se : Nat) (tu : Int32) (ja : Int32) (re : Int32) (g : Nat) (cn : Nat) (wd : Int32) (xn : Nat) (xf : Nat) (i : Int32) (hi : ¬ withinF i 0 (nI cn - 1) = 0) : Met l yX5_demandClaim wsX5_demandClaim ({ frames := 1, cells := 0, slots := 0, locals := 22 } : Room) (cPc dC dI ((cI, .int) :: (cF, .object RX1) :: tr) sz ([(o, .inr (iX5, [.ref g, .ref ce, .ref lu, .ref cl, .ref se, .int tu, .int ja, .int re])), (cl, .inr (iX0, [.int (nI cn), .int wd, .ref xn, .ref xf]))]) [.ref o, .int i]) (va_Qv (fun _ : Unit => True) (fun _ _ => True) (va_A ([]) sz)) 0 0 (va_A ([]) sz) := by
  refine Met.ofW (cc := cX5_demandClaim) (maxL := 2) (ret := none) (by decide) rfl ?_
  intro p e s m args below meth c s₁ B hml hv
  obtain ⟨rfl, hsz, hP, hK, hN⟩ := hv
  have hx := B.exec
  have hb := B.bytes
  have hr := B.returns
  have hts := atoms_spec (ws := wsX5_demandClaim) B.pre
  have hown : s.vm.findClass RX5 = some m.cls := findClass_of_methodNamed B.named
  have hlocks := B.notSynchronized
  subst hsz
  generalize hAe : va_A [] s.heap.size = A
  have hA : ∀ q : Nat, s.heap.size ≤ q → A q := fun q h => by rw [← hAe]; exact Or.inr h
  have hS : va_S A s.heap s.heap [] := va_S.rf
  have hAn : ∀ q : Nat, q < s.heap.size → ¬ A q := fun q h => by rw [← hAe]; exact notZ h
  have hAg : ∀ q : Nat, A q → s.heap.size ≤ q := fun q h => geZ (hAe ▸ h)
  have hR0 : va_P (dC, dI) vwCl ([(o, .inr (iX5, [.ref g, .ref ce, .ref lu, .ref cl, .ref se, .int tu, .int ja, .int re])), (cl, .inr (iX0, [.int (nI cn), .int wd, .ref xn, .ref xf]))]) s.heap := hP
  have hR : va_P (dC, dI) vwCl ([(o, .inr (iX5, [.ref g, .ref ce, .ref lu, .ref cl, .ref se, .int tu, .int ja, .int re])), (cl, .inr (iX0, [.int (nI cn), .int wd, .ref xn, .ref xf]))]) s.heap := hP
  have hP : va_P (dC, dI) vwCl [] s.heap := fun k q h => by simp at h
  have hD : va_D A [] := ⟨fun i j p q h => by simp at h, fun k q h => by simp at h⟩
  have hl := lv_entry ([.ref o, .int i]) (n := 2) (Nat.le_of_ble_eq_true rfl)
  rw [lg_entry_eq]
  generalize (lg_sl ([.ref o, .int i]) ++ List.replicate (2 - (lg_sl ([.ref o, .int i])).length) Slot.unset).toArray = ls at hl ⊢
  have hl : lv_has ls 2 [(0, .ref o), (1, .int i)] := hl
  have hfl_30 := hts (.fieldLink RX5 30 "Greenwheels" "claims" "LGreenwheels$Claims;") (by decide +kernel)
  have hin_X5 : ∀ w ∈ u_ws RX5 TX5 8, w ∈ wsX5_demandClaim := by decide +kernel
  have hfl_113 := hts (.fieldLink RX5 113 "Greenwheels$Claims" "count" "I") (by decide +kernel)
  have hin_X0 : ∀ w ∈ u_ws RX0 TX0 4, w ∈ wsX5_demandClaim := by decide +kernel
  refine lv_iload_n hx hb dX5_demandClaim_0 rfl (lv_at hl 1 rfl) ?_
  refine lv_iconst (v := 0) hx hb dX5_demandClaim_1 (by decide) ?_
  refine lv_aload_n hx hb dX5_demandClaim_2 rfl (lv_at hl 0 rfl) ?_
  refine va_get (D := (dC, dI)) (ci := iX5) (v := .ref cl) (C := RX5) (T := TX5) (N := 8) hx hb hts hin_X5 hown hK hR 0 rfl rfl 3 (by decide) hfl_30 (fun _ h9 => h9) rfl dX5_demandClaim_3 ?_
  refine va_get (D := (dC, dI)) (ci := iX0) (v := .int (nI cn)) (C := RX0) (T := TX0) (N := 4) hx hb hts hin_X0 hown hK hR 1 rfl rfl 0 (by decide) hfl_113 (fun _ h9 => h9) rfl dX5_demandClaim_6 ?_
  refine lv_iconst (v := 1) hx hb dX5_demandClaim_9 (by decide) ?_
  refine lv_isub hx hb dX5_demandClaim_10 ?_
  have hPc : va_P (dC, dI) vwCl [] s.heap := nilP
  have hFc := frZ hS hA
  refine va_calli (va_runS (As := [.int i, .int 0, .int ((nI cn) - 1)]) (rest := []) ⟨hx, hb, hml, hown, hts⟩ (c_X5_isWithin l dC dI cI cF tr (s.heap).size i 0 ((nI cn) - 1)) (va_cwS 3 hts gX5_demandClaim_X5_isWithin rfl rfl rfl (by decide +kernel) ⟨Nat.le_of_ble_eq_true rfl, Nat.le_of_ble_eq_true rfl⟩) ⟨cBl, (cPre hPc hK hN)⟩ rfl rfl hl.1 rfl (lv_room (Nat.le_of_ble_eq_true rfl)) dX5_demandClaim_11 ⟨(Nat.le_of_ble_eq_true rfl), (Nat.le_of_ble_eq_true rfl)⟩) hS (fun q _ h => hFc q h) hFc (fun r_1 u t H1 locs ht hvm hw_r_1 hB hz1 hk1 hS => ?_)
  refine W.widen (k := 0) (n := 0) (Nat.le_refl _) (Nat.le_refl _) ?_
  have hP := keepP hP hk1
  have hR := keepP hR hk1
  generalize H1 = H at hP hR hS ⊢
  have hP : va_P (dC, dI) vwCl ([]) H := hP
  try dsimp only at hw_r_1
  subst hw_r_1
  have hPc : va_P (dC, dI) vwCl [] H := nilP
  have hFc := frZ hS hA
  refine va_callv (va_runS (As := [.int (withinF i 0 ((nI cn) - 1))]) (rest := []) ⟨hx, hb, hml, hown, hts⟩ (c_p_X5_demandIndex l dC dI cI cF tr (H).size (withinF i 0 ((nI cn) - 1)) (by assumption)) (va_cwS 1 hts gX5_demandClaim_X5_demandIndex rfl rfl rfl (by decide +kernel) ⟨Nat.le_of_ble_eq_true rfl, Nat.le_of_ble_eq_true rfl⟩) ⟨cBl, (cPre hPc hK hN)⟩ rfl rfl hl.1 rfl (lv_room (Nat.le_of_ble_eq_true rfl)) dX5_demandClaim_14 ⟨(Nat.le_of_ble_eq_true rfl), (Nat.le_of_ble_eq_true rfl)⟩) hS (fun q _ h => hFc q h) hFc (fun u t H1 locs ht hvm hw_r_2 hB hz1 hk1 hS => ?_)
  refine W.widen (k := 0) (n := 0) (Nat.le_refl _) (Nat.le_refl _) ?_
  have hP := keepP hP hk1
  have hR := keepP hR hk1
  generalize H1 = H at hP hR hS ⊢
  have hP : va_P (dC, dI) vwCl ([]) H := hP
  try dsimp only at hw_r_2
  refine W.widen (k := 0) (n := 0) (by omega) (by omega) ?_
  exact W.vret hx hb hr (fun t ht hW => ⟨⟨(), rfl, trivial, trivial⟩, hS.F ht⟩) hS.2.2 dX5_demandClaim_17

set_option maxHeartbeats 4000000 in
set_option maxRecDepth 100000 in
theorem c_X5_axleFraction (l : Launch) (dC : Nat → ClassId) (dI : Nat → Nat → Nat) (cI cF : ClassId) (tr : List (ClassId × FieldType)) (sz : Nat) (o : Nat) (ce : Nat) (lu : Nat) (cl : Nat) (se : Nat) (tu : Int32) (ja : Int32) (re : Int32) (g : Nat) (n : Nat) (xa : Nat) (xt : Nat) (xm : Nat) (wh : Nat) (st : Nat) (xb : Nat) (xc : Nat) (bc : Nat → Option Nat) (LP : List Nat) (v : Nat → Int64 × Int64) (i : Int32) (k : Int32) (hst : st ∈ LP) (hbc : ∀ k, k < 7 → ∀ a, bc k = some a → a ∈ LP) : Met l yX5_axleFraction wsX5_axleFraction ({ frames := 4, cells := 2, slots := 4, locals := 102 } : Room) (cPc dC dI ((cI, .int) :: (cF, .object RX1) :: tr) sz ([(o, .inr (iX5, [.ref g, .ref ce, .ref lu, .ref cl, .ref se, .int tu, .int ja, .int re])), (g, .inr (iX2, [.int (nI n), .ref xa, .ref xt, .ref xm, .ref wh, .ref st, .ref xb, .ref xc])), (xb, .inl (cF, 7, .inr (.inr (.inr (.inr (bc))))))] ++ va_pl LP (fe v)) [.ref o, .int i, .int k]) (va_Qr (fun _ : Unit => True) (fun _ a t => va_P (dC, dI) vwCl [(a, .inr (iX1, [.long ((afF (v (rtA st bc i)) tu k).1), .long ((afF (v (rtA st bc i)) tu k).2)]))] t.heap) (va_A ([]) sz)) 2 4 (va_A ([]) sz) := by
  refine Met.ofW (cc := cX5_axleFraction) (maxL := 3) (ret := (some (.object "Greenwheels$Fraction"))) (by decide) rfl ?_
  intro p e s m args below meth c s₁ B hml hv
  obtain ⟨rfl, hsz, hP, hK, hN⟩ := hv
  have hx := B.exec
  have hb := B.bytes
  have hr := B.returns
  have hts := atoms_spec (ws := wsX5_axleFraction) B.pre
  have hown : s.vm.findClass RX5 = some m.cls := findClass_of_methodNamed B.named
  have hlocks := B.notSynchronized
  subst hsz
  generalize hAe : va_A [] s.heap.size = A
  have hA : ∀ q : Nat, s.heap.size ≤ q → A q := fun q h => by rw [← hAe]; exact Or.inr h
  have hS : va_S A s.heap s.heap [] := va_S.rf
  have hAn : ∀ q : Nat, q < s.heap.size → ¬ A q := fun q h => by rw [← hAe]; exact notZ h
  have hAg : ∀ q : Nat, A q → s.heap.size ≤ q := fun q h => geZ (hAe ▸ h)
  have hR0 : va_P (dC, dI) vwCl ([(o, .inr (iX5, [.ref g, .ref ce, .ref lu, .ref cl, .ref se, .int tu, .int ja, .int re])), (g, .inr (iX2, [.int (nI n), .ref xa, .ref xt, .ref xm, .ref wh, .ref st, .ref xb, .ref xc])), (xb, .inl (cF, 7, .inr (.inr (.inr (.inr (bc))))))] ++ va_pl LP (fe v)) s.heap := hP
  have hR : va_P (dC, dI) vwCl ([(o, .inr (iX5, [.ref g, .ref ce, .ref lu, .ref cl, .ref se, .int tu, .int ja, .int re])), (g, .inr (iX2, [.int (nI n), .ref xa, .ref xt, .ref xm, .ref wh, .ref st, .ref xb, .ref xc])), (xb, .inl (cF, 7, .inr (.inr (.inr (.inr (bc))))))] ++ va_pl LP (fe v)) s.heap := hP
  have hP : va_P (dC, dI) vwCl [] s.heap := fun k q h => by simp at h
  have hD : va_D A [] := ⟨fun i j p q h => by simp at h, fun k q h => by simp at h⟩
  have hl := lv_entry ([.ref o, .int i, .int k]) (n := 3) (Nat.le_of_ble_eq_true rfl)
  rw [lg_entry_eq]
  generalize (lg_sl ([.ref o, .int i, .int k]) ++ List.replicate (3 - (lg_sl ([.ref o, .int i, .int k])).length) Slot.unset).toArray = ls at hl ⊢
  have hl : lv_has ls 3 [(0, .ref o), (1, .int i), (2, .int k)] := hl
  have hfl_10 := hts (.fieldLink RX5 10 "Greenwheels" "gearing" "LGreenwheels$Gearing;") (by decide +kernel)
  have hin_X5 : ∀ w ∈ u_ws RX5 TX5 8, w ∈ wsX5_axleFraction := by decide +kernel
  have hfl_87 := hts (.fieldLink RX5 87 "Greenwheels" "turns" "I") (by decide +kernel)
  refine lv_iload_n hx hb dX5_axleFraction_0 rfl (lv_at hl 2 rfl) ?_
  by_cases c_1 : k = 0
  · refine lv_lookup (off := 27) (tgt := 28) hx hb dX5_axleFraction_1 (by decide) (by rw [c_1]; rfl) (by decide) ?_
    refine lv_aload_n hx hb dX5_axleFraction_28 rfl (lv_at hl 0 rfl) ?_
    refine va_get (D := (dC, dI)) (ci := iX5) (v := .ref g) (C := RX5) (T := TX5) (N := 8) hx hb hts hin_X5 hown hK hR 0 rfl rfl 0 (by decide) hfl_10 (fun _ h9 => h9) rfl dX5_axleFraction_29 ?_
    refine lv_iload_n hx hb dX5_axleFraction_32 rfl (lv_at hl 1 rfl) ?_
    have hPc : va_P (dC, dI) vwCl ([(g, .inr (iX2, [.int (nI n), .ref xa, .ref xt, .ref xm, .ref wh, .ref st, .ref xb, .ref xc])), (xb, .inl (cF, 7, .inr (.inr (.inr (.inr (bc))))))]) _ := hR.sub [1, 2] rfl
    have hFc := frZ hS hA
    refine va_callr (va_runV (As := [.int i]) (rest := []) ⟨hx, hb, hml, hown, hts⟩ (c_X2_rateOf l dC dI cI cF tr (s.heap).size g n xa xt xm wh st xb xc bc i) (cwV 1 hts gX5_axleFraction_X2_rateOf rfl rfl rfl (by decide +kernel) ⟨Nat.le_of_ble_eq_true rfl, Nat.le_of_ble_eq_true rfl⟩) ⟨cBl, (va_recv hK hPc (ci := iX2) (q0 := 0) rfl rfl), (cPre hPc hK hN)⟩ rfl rfl hl.1 rfl (lv_room (Nat.le_of_ble_eq_true rfl)) dX5_axleFraction_33 ⟨(Nat.le_of_ble_eq_true rfl), (Nat.le_of_ble_eq_true rfl)⟩) hS (fun q _ h => hFc q h) hFc (fun u r_2 t H1 locs ht hvm hw_r_2 hB hz1 hk1 hS => ?_)
    refine W.widen (k := 0) (n := 0) (Nat.le_refl _) (Nat.le_refl _) ?_
    have hP := keepP hP hk1
    have hR := keepP hR hk1
    generalize H1 = H at hP hR hS ⊢
    have hP : va_P (dC, dI) vwCl ([]) H := hP
    try dsimp only at hB
    subst hB
    refine W.widen (k := 2) (n := 4) (by omega) (by omega) ?_
    have hQ_3 := poolP hR (rtA_mem hst hbc i)
    have eq_4 : ([(rtA st bc i, .inr (iX1, [.long ((v (rtA st bc i)).1), .long ((v (rtA st bc i)).2)]))] : va_W) = [(rtA st bc i, .inr (iX1, [.long ((afF (v (rtA st bc i)) tu k).1), .long ((afF (v (rtA st bc i)) tu k).2)]))] := (by simp [afF, tnF, wwF, c_1])
    exact W.aret (v := .ref (rtA st bc i)) hx hb hr (Or.inl ⟨_, rfl⟩) (Or.inr ⟨_, rfl⟩) (fun t ht hW => ⟨⟨(), rtA st bc i, rfl, trivial, (by show va_P (dC, dI) vwCl ([(rtA st bc i, .inr (iX1, [.long ((afF (v (rtA st bc i)) tu k).1), .long ((afF (v (rtA st bc i)) tu k).2)]))]) t.heap; rw [ht]; exact eq_4 ▸ (hQ_3.sub (ws' := [(rtA st bc i, .inr (iX1, [.long ((v (rtA st bc i)).1), .long ((v (rtA st bc i)).2)]))]) [0] rfl))⟩, hS.F ht⟩) hS.2.2 dX5_axleFraction_36
  by_cases c_5 : k = 1
  · refine lv_lookup (off := 36) (tgt := 37) hx hb dX5_axleFraction_1 (by decide) (by rw [c_5]; rfl) (by decide) ?_
    refine lv_aload_n hx hb dX5_axleFraction_37 rfl (lv_at hl 0 rfl) ?_
    refine va_get (D := (dC, dI)) (ci := iX5) (v := .ref g) (C := RX5) (T := TX5) (N := 8) hx hb hts hin_X5 hown hK hR 0 rfl rfl 0 (by decide) hfl_10 (fun _ h9 => h9) rfl dX5_axleFraction_38 ?_
    refine lv_iload_n hx hb dX5_axleFraction_41 rfl (lv_at hl 1 rfl) ?_
    refine lv_aload_n hx hb dX5_axleFraction_42 rfl (lv_at hl 0 rfl) ?_
    refine va_get (D := (dC, dI)) (ci := iX5) (v := .int tu) (C := RX5) (T := TX5) (N := 8) hx hb hts hin_X5 hown hK hR 0 rfl rfl 5 (by decide) hfl_87 (fun _ h9 => h9) rfl dX5_axleFraction_43 ?_
    have hPc : va_P (dC, dI) vwCl ([(g, .inr (iX2, [.int (nI n), .ref xa, .ref xt, .ref xm, .ref wh, .ref st, .ref xb, .ref xc])), (xb, .inl (cF, 7, .inr (.inr (.inr (.inr (bc))))))] ++ va_pl LP (fe v)) _ := hR.part [1, 2] rfl
    have hFc := frZ hS hA
    have hz0 := hS.1
    refine va_callr (va_runV (As := [.int i, .int tu]) (rest := []) ⟨hx, hb, hml, hown, hts⟩ (c_X2_turnedAt l dC dI cI cF tr (s.heap).size g n xa xt xm wh st xb xc bc LP v i tu (by assumption) (by assumption)) (cwV 2 hts gX5_axleFraction_X2_turnedAt rfl rfl rfl (by decide +kernel) ⟨Nat.le_of_ble_eq_true rfl, Nat.le_of_ble_eq_true rfl⟩) ⟨cBl, (va_recv hK hPc (ci := iX2) (q0 := 0) rfl rfl), (cPre hPc hK hN)⟩ rfl rfl hl.1 rfl (lv_room (Nat.le_of_ble_eq_true rfl)) dX5_axleFraction_46 ⟨(Nat.le_of_ble_eq_true rfl), (Nat.le_of_ble_eq_true rfl)⟩) hS (fun q _ h => hFc q h) hFc (fun u r_6 t H1 locs ht hvm hw_r_6 hB hz1 hk1 hS => ?_)
    refine W.widen (k := 1) (n := 2) (by omega) (by omega) ?_
    have hP := keepP hP hk1
    have hR := keepP hR hk1
    obtain ⟨hB, hBn⟩ := hB
    rw [ht] at hB
    have hGe_r_6 : s.heap.size ≤ r_6 := Nat.le_trans hz0 hBn
    have hT : va_P (dC, dI) vwCl ([(r_6, .inr (iX1, [.long (frU ((v (rtA st bc i)).1 * tu.toInt64) ((v (rtA st bc i)).2 * 1)), .long (frL ((v (rtA st bc i)).1 * tu.toInt64) ((v (rtA st bc i)).2 * 1))]))]) H1 := hB
    generalize H1 = H at hP hR hT hS ⊢
    have hP : va_P (dC, dI) vwCl ([]) H := hP
    try dsimp only at hw_r_6
    refine W.widen (k := 2) (n := 4) (by omega) (by omega) ?_
    have eq_7 : ([(r_6, .inr (iX1, [.long (frU ((v (rtA st bc i)).1 * tu.toInt64) ((v (rtA st bc i)).2 * 1)), .long (frL ((v (rtA st bc i)).1 * tu.toInt64) ((v (rtA st bc i)).2 * 1))]))] : va_W) = [(r_6, .inr (iX1, [.long ((afF (v (rtA st bc i)) tu k).1), .long ((afF (v (rtA st bc i)) tu k).2)]))] := (by simp [afF, tnF, wwF, c_1, c_5])
    exact W.aret (v := .ref r_6) hx hb hr (Or.inl ⟨_, rfl⟩) (Or.inr ⟨_, rfl⟩) (fun t ht hW => ⟨⟨(), r_6, rfl, trivial, (by show va_P (dC, dI) vwCl ([(r_6, .inr (iX1, [.long ((afF (v (rtA st bc i)) tu k).1), .long ((afF (v (rtA st bc i)) tu k).2)]))]) t.heap; rw [ht]; exact eq_7 ▸ (hT.sub (ws' := [(r_6, .inr (iX1, [.long (frU ((v (rtA st bc i)).1 * tu.toInt64) ((v (rtA st bc i)).2 * 1)), .long (frL ((v (rtA st bc i)).1 * tu.toInt64) ((v (rtA st bc i)).2 * 1))]))]) [0] rfl))⟩, hS.F ht⟩) hS.2.2 dX5_axleFraction_49
  refine lv_lookup (off := 49) (tgt := 50) hx hb dX5_axleFraction_1 (by decide) (by show Op.lookupswitch.offset [(0, 27), (1, 36)] 49 _ = 49; rw [lv_osw (a := 0) c_1 rfl]; rw [lv_osw (a := 1) c_5 rfl]; rfl) (by decide) ?_
  refine lv_aload_n hx hb dX5_axleFraction_50 rfl (lv_at hl 0 rfl) ?_
  refine va_get (D := (dC, dI)) (ci := iX5) (v := .ref g) (C := RX5) (T := TX5) (N := 8) hx hb hts hin_X5 hown hK hR 0 rfl rfl 0 (by decide) hfl_10 (fun _ h9 => h9) rfl dX5_axleFraction_51 ?_
  refine lv_iload_n hx hb dX5_axleFraction_54 rfl (lv_at hl 1 rfl) ?_
  refine lv_aload_n hx hb dX5_axleFraction_55 rfl (lv_at hl 0 rfl) ?_
  refine va_get (D := (dC, dI)) (ci := iX5) (v := .int tu) (C := RX5) (T := TX5) (N := 8) hx hb hts hin_X5 hown hK hR 0 rfl rfl 5 (by decide) hfl_87 (fun _ h9 => h9) rfl dX5_axleFraction_56 ?_
  have hPc : va_P (dC, dI) vwCl ([(g, .inr (iX2, [.int (nI n), .ref xa, .ref xt, .ref xm, .ref wh, .ref st, .ref xb, .ref xc])), (xb, .inl (cF, 7, .inr (.inr (.inr (.inr (bc))))))] ++ va_pl LP (fe v)) _ := hR.part [1, 2] rfl
  have hFc := frZ hS hA
  have hz0 := hS.1
  refine va_callr (va_runV (As := [.int i, .int tu]) (rest := []) ⟨hx, hb, hml, hown, hts⟩ (c_X2_turnedAt l dC dI cI cF tr (s.heap).size g n xa xt xm wh st xb xc bc LP v i tu (by assumption) (by assumption)) (cwV 2 hts gX5_axleFraction_X2_turnedAt rfl rfl rfl (by decide +kernel) ⟨Nat.le_of_ble_eq_true rfl, Nat.le_of_ble_eq_true rfl⟩) ⟨cBl, (va_recv hK hPc (ci := iX2) (q0 := 0) rfl rfl), (cPre hPc hK hN)⟩ rfl rfl hl.1 rfl (lv_room (Nat.le_of_ble_eq_true rfl)) dX5_axleFraction_59 ⟨(Nat.le_of_ble_eq_true rfl), (Nat.le_of_ble_eq_true rfl)⟩) hS (fun q _ h => hFc q h) hFc (fun u r_8 t H1 locs ht hvm hw_r_8 hB hz1 hk1 hS => ?_)
  refine W.widen (k := 1) (n := 2) (by omega) (by omega) ?_
  have hP := keepP hP hk1
  have hR := keepP hR hk1
  obtain ⟨hB, hBn⟩ := hB
  rw [ht] at hB
  have hGe_r_8 : s.heap.size ≤ r_8 := Nat.le_trans hz0 hBn
  have hT : va_P (dC, dI) vwCl ([(r_8, .inr (iX1, [.long (frU ((v (rtA st bc i)).1 * tu.toInt64) ((v (rtA st bc i)).2 * 1)), .long (frL ((v (rtA st bc i)).1 * tu.toInt64) ((v (rtA st bc i)).2 * 1))]))]) H1 := hB
  generalize H1 = H at hP hR hT hS ⊢
  have hP : va_P (dC, dI) vwCl ([]) H := hP
  try dsimp only at hw_r_8
  have hPc : va_P (dC, dI) vwCl ([(r_8, .inr (iX1, [.long (frU ((v (rtA st bc i)).1 * tu.toInt64) ((v (rtA st bc i)).2 * 1)), .long (frL ((v (rtA st bc i)).1 * tu.toInt64) ((v (rtA st bc i)).2 * 1))]))]) _ := hT.sub [0] rfl
  have hFc := frZ hS hA
  refine va_callr (va_runV (As := []) (rest := []) ⟨hx, hb, hml, hown, hts⟩ (c_X1_withoutWhole l dC dI cI cF tr (H).size r_8 (frU ((v (rtA st bc i)).1 * tu.toInt64) ((v (rtA st bc i)).2 * 1)) (frL ((v (rtA st bc i)).1 * tu.toInt64) ((v (rtA st bc i)).2 * 1))) (cwV 0 hts gX5_axleFraction_X1_withoutWhole rfl rfl rfl (by decide +kernel) ⟨Nat.le_of_ble_eq_true rfl, Nat.le_of_ble_eq_true rfl⟩) ⟨cBl, (va_recv hK hPc (ci := iX1) (q0 := 0) rfl rfl), (cPre hPc hK hN)⟩ rfl rfl hl.1 rfl (lv_room (Nat.le_of_ble_eq_true rfl)) dX5_axleFraction_62 ⟨(Nat.le_of_ble_eq_true rfl), (Nat.le_of_ble_eq_true rfl)⟩) hS (fun q _ h => hFc q h) hFc (fun u r_9 t H1 locs ht hvm hw_r_9 hB hz1 hk1 hS => ?_)
  refine W.widen (k := 2) (n := 4) (by omega) (by omega) ?_
  have hP := keepP hP hk1
  have hR := keepP hR hk1
  have hT := keepP hT hk1
  have hBn := True.intro
  rw [ht] at hB
  have hT : va_P (dC, dI) vwCl ([(r_8, .inr (iX1, [.long (frU ((v (rtA st bc i)).1 * tu.toInt64) ((v (rtA st bc i)).2 * 1)), .long (frL ((v (rtA st bc i)).1 * tu.toInt64) ((v (rtA st bc i)).2 * 1))])), (r_9, .inr (iX1, [.long (wwU (frU ((v (rtA st bc i)).1 * tu.toInt64) ((v (rtA st bc i)).2 * 1)) (frL ((v (rtA st bc i)).1 * tu.toInt64) ((v (rtA st bc i)).2 * 1))), .long (wwL (frU ((v (rtA st bc i)).1 * tu.toInt64) ((v (rtA st bc i)).2 * 1)) (frL ((v (rtA st bc i)).1 * tu.toInt64) ((v (rtA st bc i)).2 * 1)))]))]) H1 := hT.app hB
  generalize H1 = H at hP hR hT hS ⊢
  have hP : va_P (dC, dI) vwCl ([]) H := hP
  try dsimp only at hw_r_9
  refine W.widen (k := 2) (n := 4) (by omega) (by omega) ?_
  have eq_10 : ([(r_9, .inr (iX1, [.long (wwU (frU ((v (rtA st bc i)).1 * tu.toInt64) ((v (rtA st bc i)).2 * 1)) (frL ((v (rtA st bc i)).1 * tu.toInt64) ((v (rtA st bc i)).2 * 1))), .long (wwL (frU ((v (rtA st bc i)).1 * tu.toInt64) ((v (rtA st bc i)).2 * 1)) (frL ((v (rtA st bc i)).1 * tu.toInt64) ((v (rtA st bc i)).2 * 1)))]))] : va_W) = [(r_9, .inr (iX1, [.long ((afF (v (rtA st bc i)) tu k).1), .long ((afF (v (rtA st bc i)) tu k).2)]))] := (by simp [afF, tnF, wwF, c_1, c_5])
  exact W.aret (v := .ref r_9) hx hb hr (Or.inl ⟨_, rfl⟩) (Or.inr ⟨_, rfl⟩) (fun t ht hW => ⟨⟨(), r_9, rfl, trivial, (by show va_P (dC, dI) vwCl ([(r_9, .inr (iX1, [.long ((afF (v (rtA st bc i)) tu k).1), .long ((afF (v (rtA st bc i)) tu k).2)]))]) t.heap; rw [ht]; exact eq_10 ▸ (hT.sub (ws' := [(r_9, .inr (iX1, [.long (wwU (frU ((v (rtA st bc i)).1 * tu.toInt64) ((v (rtA st bc i)).2 * 1)) (frL ((v (rtA st bc i)).1 * tu.toInt64) ((v (rtA st bc i)).2 * 1))), .long (wwL (frU ((v (rtA st bc i)).1 * tu.toInt64) ((v (rtA st bc i)).2 * 1)) (frL ((v (rtA st bc i)).1 * tu.toInt64) ((v (rtA st bc i)).2 * 1)))]))]) [1] rfl))⟩, hS.F ht⟩) hS.2.2 dX5_axleFraction_65

set_option maxHeartbeats 4000000 in
set_option maxRecDepth 100000 in
theorem c_X5_passedBy (l : Launch) (dC : Nat → ClassId) (dI : Nat → Nat → Nat) (cI cF : ClassId) (tr : List (ClassId × FieldType)) (sz : Nat) (o : Nat) (ce : Nat) (lu : Nat) (cl : Nat) (se : Nat) (tu : Int32) (ja : Int32) (re : Int32) (g : Nat) (n : Nat) (xa : Nat) (xt : Nat) (xm : Nat) (wh : Nat) (st : Nat) (xb : Nat) (xc : Nat) (ax : Nat → Int32) (te : Nat → Int32) (bc : Nat → Option Nat) (LP : List Nat) (v : Nat → Int64 × Int64) (i : Int32) (hst : st ∈ LP) (hbc : ∀ k, k < 7 → ∀ a, bc k = some a → a ∈ LP) : Met l yX5_passedBy wsX5_passedBy ({ frames := 3, cells := 1, slots := 2, locals := 80 } : Room) (cPc dC dI ((cI, .int) :: (cF, .object RX1) :: tr) sz ([(o, .inr (iX5, [.ref g, .ref ce, .ref lu, .ref cl, .ref se, .int tu, .int ja, .int re])), (g, .inr (iX2, [.int (nI n), .ref xa, .ref xt, .ref xm, .ref wh, .ref st, .ref xb, .ref xc])), (xa, .inl (cI, 12, .inl (ax))), (xt, .inl (cI, 12, .inl (te))), (xb, .inl (cF, 7, .inr (.inr (.inr (.inr (bc))))))] ++ va_pl LP (fe v)) [.ref o, .int i]) (va_Qr (fun _ : Unit => True) (fun _ a t => va_P (dC, dI) vwCl [(a, .inr (iX1, [.long ((paF (v (rtA st bc (atF 12 ax i))) tu (atF 12 te i)).1), .long ((paF (v (rtA st bc (atF 12 ax i))) tu (atF 12 te i)).2)]))] t.heap ∧ sz ≤ a) (va_A ([]) sz)) 1 2 (va_A ([]) sz) := by
  refine Met.ofW (cc := cX5_passedBy) (maxL := 2) (ret := (some (.object "Greenwheels$Fraction"))) (by decide) rfl ?_
  intro p e s m args below meth c s₁ B hml hv
  obtain ⟨rfl, hsz, hP, hK, hN⟩ := hv
  have hx := B.exec
  have hb := B.bytes
  have hr := B.returns
  have hts := atoms_spec (ws := wsX5_passedBy) B.pre
  have hown : s.vm.findClass RX5 = some m.cls := findClass_of_methodNamed B.named
  have hlocks := B.notSynchronized
  subst hsz
  generalize hAe : va_A [] s.heap.size = A
  have hA : ∀ q : Nat, s.heap.size ≤ q → A q := fun q h => by rw [← hAe]; exact Or.inr h
  have hS : va_S A s.heap s.heap [] := va_S.rf
  have hAn : ∀ q : Nat, q < s.heap.size → ¬ A q := fun q h => by rw [← hAe]; exact notZ h
  have hAg : ∀ q : Nat, A q → s.heap.size ≤ q := fun q h => geZ (hAe ▸ h)
  have hR0 : va_P (dC, dI) vwCl ([(o, .inr (iX5, [.ref g, .ref ce, .ref lu, .ref cl, .ref se, .int tu, .int ja, .int re])), (g, .inr (iX2, [.int (nI n), .ref xa, .ref xt, .ref xm, .ref wh, .ref st, .ref xb, .ref xc])), (xa, .inl (cI, 12, .inl (ax))), (xt, .inl (cI, 12, .inl (te))), (xb, .inl (cF, 7, .inr (.inr (.inr (.inr (bc))))))] ++ va_pl LP (fe v)) s.heap := hP
  have hR : va_P (dC, dI) vwCl ([(o, .inr (iX5, [.ref g, .ref ce, .ref lu, .ref cl, .ref se, .int tu, .int ja, .int re])), (g, .inr (iX2, [.int (nI n), .ref xa, .ref xt, .ref xm, .ref wh, .ref st, .ref xb, .ref xc])), (xa, .inl (cI, 12, .inl (ax))), (xt, .inl (cI, 12, .inl (te))), (xb, .inl (cF, 7, .inr (.inr (.inr (.inr (bc))))))] ++ va_pl LP (fe v)) s.heap := hP
  have hP : va_P (dC, dI) vwCl [] s.heap := fun k q h => by simp at h
  have hD : va_D A [] := ⟨fun i j p q h => by simp at h, fun k q h => by simp at h⟩
  have hl := lv_entry ([.ref o, .int i]) (n := 2) (Nat.le_of_ble_eq_true rfl)
  rw [lg_entry_eq]
  generalize (lg_sl ([.ref o, .int i]) ++ List.replicate (2 - (lg_sl ([.ref o, .int i])).length) Slot.unset).toArray = ls at hl ⊢
  have hl : lv_has ls 2 [(0, .ref o), (1, .int i)] := hl
  have hfl_10 := hts (.fieldLink RX5 10 "Greenwheels" "gearing" "LGreenwheels$Gearing;") (by decide +kernel)
  have hin_X5 : ∀ w ∈ u_ws RX5 TX5 8, w ∈ wsX5_passedBy := by decide +kernel
  have hfl_87 := hts (.fieldLink RX5 87 "Greenwheels" "turns" "I") (by decide +kernel)
  refine lv_aload_n hx hb dX5_passedBy_0 rfl (lv_at hl 0 rfl) ?_
  refine va_get (D := (dC, dI)) (ci := iX5) (v := .ref g) (C := RX5) (T := TX5) (N := 8) hx hb hts hin_X5 hown hK hR 0 rfl rfl 0 (by decide) hfl_10 (fun _ h9 => h9) rfl dX5_passedBy_1 ?_
  refine lv_aload_n hx hb dX5_passedBy_4 rfl (lv_at hl 0 rfl) ?_
  refine va_get (D := (dC, dI)) (ci := iX5) (v := .ref g) (C := RX5) (T := TX5) (N := 8) hx hb hts hin_X5 hown hK hR 0 rfl rfl 0 (by decide) hfl_10 (fun _ h9 => h9) rfl dX5_passedBy_5 ?_
  refine lv_iload_n hx hb dX5_passedBy_8 rfl (lv_at hl 1 rfl) ?_
  have hPc : va_P (dC, dI) vwCl ([(g, .inr (iX2, [.int (nI n), .ref xa, .ref xt, .ref xm, .ref wh, .ref st, .ref xb, .ref xc])), (xa, .inl (cI, 12, .inl (ax)))]) _ := hR.sub [1, 2] rfl
  have hFc := frZ hS hA
  refine va_calli (va_runV (As := [.int i]) (rest := [.ref g]) ⟨hx, hb, hml, hown, hts⟩ (c_X2_axleOf l dC dI cI cF tr (s.heap).size g n xa xt xm wh st xb xc ax i) (cwV 1 hts gX5_passedBy_X2_axleOf rfl rfl rfl (by decide +kernel) ⟨Nat.le_of_ble_eq_true rfl, Nat.le_of_ble_eq_true rfl⟩) ⟨cBl, (va_recv hK hPc (ci := iX2) (q0 := 0) rfl rfl), (cPre hPc hK hN)⟩ rfl rfl hl.1 rfl (lv_room (Nat.le_of_ble_eq_true rfl)) dX5_passedBy_9 ⟨(Nat.le_of_ble_eq_true rfl), (Nat.le_of_ble_eq_true rfl)⟩) hS (fun q _ h => hFc q h) hFc (fun r_1 u t H1 locs ht hvm hw_r_1 hB hz1 hk1 hS => ?_)
  refine W.widen (k := 0) (n := 0) (Nat.le_refl _) (Nat.le_refl _) ?_
  have hP := keepP hP hk1
  have hR := keepP hR hk1
  generalize H1 = H at hP hR hS ⊢
  have hP : va_P (dC, dI) vwCl ([]) H := hP
  try dsimp only at hw_r_1
  subst hw_r_1
  have hPc : va_P (dC, dI) vwCl ([(g, .inr (iX2, [.int (nI n), .ref xa, .ref xt, .ref xm, .ref wh, .ref st, .ref xb, .ref xc])), (xb, .inl (cF, 7, .inr (.inr (.inr (.inr (bc))))))]) _ := hR.sub [1, 4] rfl
  have hFc := frZ hS hA
  refine va_callr (va_runV (As := [.int (atF 12 ax i)]) (rest := []) ⟨hx, hb, hml, hown, hts⟩ (c_X2_rateOf l dC dI cI cF tr (H).size g n xa xt xm wh st xb xc bc (atF 12 ax i)) (cwV 1 hts gX5_passedBy_X2_rateOf rfl rfl rfl (by decide +kernel) ⟨Nat.le_of_ble_eq_true rfl, Nat.le_of_ble_eq_true rfl⟩) ⟨cBl, (va_recv hK hPc (ci := iX2) (q0 := 0) rfl rfl), (cPre hPc hK hN)⟩ rfl rfl hl.1 rfl (lv_room (Nat.le_of_ble_eq_true rfl)) dX5_passedBy_12 ⟨(Nat.le_of_ble_eq_true rfl), (Nat.le_of_ble_eq_true rfl)⟩) hS (fun q _ h => hFc q h) hFc (fun u r_2 t H1 locs ht hvm hw_r_2 hB hz1 hk1 hS => ?_)
  refine W.widen (k := 0) (n := 0) (Nat.le_refl _) (Nat.le_refl _) ?_
  have hP := keepP hP hk1
  have hR := keepP hR hk1
  generalize H1 = H at hP hR hS ⊢
  have hP : va_P (dC, dI) vwCl ([]) H := hP
  try dsimp only at hB
  subst hB
  refine lv_aload_n hx hb dX5_passedBy_15 rfl (lv_at hl 0 rfl) ?_
  refine va_get (D := (dC, dI)) (ci := iX5) (v := .int tu) (C := RX5) (T := TX5) (N := 8) hx hb hts hin_X5 hown hK hR 0 rfl rfl 5 (by decide) hfl_87 (fun _ h9 => h9) rfl dX5_passedBy_16 ?_
  refine lv_i2l hx hb dX5_passedBy_19 rfl ?_
  refine lv_aload_n hx hb dX5_passedBy_20 rfl (lv_at hl 0 rfl) ?_
  refine va_get (D := (dC, dI)) (ci := iX5) (v := .ref g) (C := RX5) (T := TX5) (N := 8) hx hb hts hin_X5 hown hK hR 0 rfl rfl 0 (by decide) hfl_10 (fun _ h9 => h9) rfl dX5_passedBy_21 ?_
  refine lv_iload_n hx hb dX5_passedBy_24 rfl (lv_at hl 1 rfl) ?_
  have hPc : va_P (dC, dI) vwCl ([(g, .inr (iX2, [.int (nI n), .ref xa, .ref xt, .ref xm, .ref wh, .ref st, .ref xb, .ref xc])), (xt, .inl (cI, 12, .inl (te)))]) _ := hR.sub [1, 3] rfl
  have hFc := frZ hS hA
  refine va_calli (va_runV (As := [.int i]) (rest := [.long (tu.toInt64), .ref (rtA st bc (atF 12 ax i))]) ⟨hx, hb, hml, hown, hts⟩ (c_X2_teethOf l dC dI cI cF tr (H).size g n xa xt xm wh st xb xc te i) (cwV 1 hts gX5_passedBy_X2_teethOf rfl rfl rfl (by decide +kernel) ⟨Nat.le_of_ble_eq_true rfl, Nat.le_of_ble_eq_true rfl⟩) ⟨cBl, (va_recv hK hPc (ci := iX2) (q0 := 0) rfl rfl), (cPre hPc hK hN)⟩ rfl rfl hl.1 rfl (lv_room (Nat.le_of_ble_eq_true rfl)) dX5_passedBy_25 ⟨(Nat.le_of_ble_eq_true rfl), (Nat.le_of_ble_eq_true rfl)⟩) hS (fun q _ h => hFc q h) hFc (fun r_3 u t H1 locs ht hvm hw_r_3 hB hz1 hk1 hS => ?_)
  refine W.widen (k := 0) (n := 0) (Nat.le_refl _) (Nat.le_refl _) ?_
  have hP := keepP hP hk1
  have hR := keepP hR hk1
  generalize H1 = H at hP hR hS ⊢
  have hP : va_P (dC, dI) vwCl ([]) H := hP
  try dsimp only at hw_r_3
  subst hw_r_3
  refine lv_i2l hx hb dX5_passedBy_28 rfl ?_
  refine lv_lmul hx hb dX5_passedBy_29 ?_
  refine lv_lconst (v := 1) hx hb dX5_passedBy_30 (by decide) ?_
  have hPc : va_P (dC, dI) vwCl ([(rtA st bc (atF 12 ax i), .inr (iX1, [.long ((v (rtA st bc (atF 12 ax i))).1), .long ((v (rtA st bc (atF 12 ax i))).2)]))]) _ := poolP hR (rtA_mem hst hbc (atF 12 ax i))
  have hFc := frZ hS hA
  have hz0 := hS.1
  refine va_callr (va_runV (As := [.long (tu.toInt64 * ((atF 12 te i).toInt64)), .long 1]) (rest := []) ⟨hx, hb, hml, hown, hts⟩ (c_X1_times l dC dI cI cF tr (H).size (rtA st bc (atF 12 ax i)) ((v (rtA st bc (atF 12 ax i))).1) ((v (rtA st bc (atF 12 ax i))).2) (tu.toInt64 * ((atF 12 te i).toInt64)) 1) (cwV 2 hts gX5_passedBy_X1_times rfl rfl rfl (by decide +kernel) ⟨Nat.le_of_ble_eq_true rfl, Nat.le_of_ble_eq_true rfl⟩) ⟨cBl, (va_recv hK hPc (ci := iX1) (q0 := 0) rfl rfl), (cPre hPc hK hN)⟩ rfl rfl hl.1 rfl (lv_room (Nat.le_of_ble_eq_true rfl)) dX5_passedBy_31 ⟨(Nat.le_of_ble_eq_true rfl), (Nat.le_of_ble_eq_true rfl)⟩) hS (fun q _ h => hFc q h) hFc (fun u r_4 t H1 locs ht hvm hw_r_4 hB hz1 hk1 hS => ?_)
  refine W.widen (k := 1) (n := 2) (by omega) (by omega) ?_
  have hP := keepP hP hk1
  have hR := keepP hR hk1
  obtain ⟨hB, hBn⟩ := hB
  rw [ht] at hB
  have hGe_r_4 : s.heap.size ≤ r_4 := Nat.le_trans hz0 hBn
  have hT : va_P (dC, dI) vwCl ([(r_4, .inr (iX1, [.long (frU (((v (rtA st bc (atF 12 ax i))).1) * (tu.toInt64 * ((atF 12 te i).toInt64))) (((v (rtA st bc (atF 12 ax i))).2) * 1)), .long (frL (((v (rtA st bc (atF 12 ax i))).1) * (tu.toInt64 * ((atF 12 te i).toInt64))) (((v (rtA st bc (atF 12 ax i))).2) * 1))]))]) H1 := hB
  generalize H1 = H at hP hR hT hS ⊢
  have hP : va_P (dC, dI) vwCl ([]) H := hP
  try dsimp only at hw_r_4
  refine W.widen (k := 1) (n := 2) (by omega) (by omega) ?_
  have eq_5 : ([(r_4, .inr (iX1, [.long (frU (((v (rtA st bc (atF 12 ax i))).1) * (tu.toInt64 * ((atF 12 te i).toInt64))) (((v (rtA st bc (atF 12 ax i))).2) * 1)), .long (frL (((v (rtA st bc (atF 12 ax i))).1) * (tu.toInt64 * ((atF 12 te i).toInt64))) (((v (rtA st bc (atF 12 ax i))).2) * 1))]))] : va_W) = [(r_4, .inr (iX1, [.long ((paF (v (rtA st bc (atF 12 ax i))) tu (atF 12 te i)).1), .long ((paF (v (rtA st bc (atF 12 ax i))) tu (atF 12 te i)).2)]))] := (by simp [paF])
  exact W.aret (v := .ref r_4) hx hb hr (Or.inl ⟨_, rfl⟩) (Or.inr ⟨_, rfl⟩) (fun t ht hW => ⟨⟨(), r_4, rfl, trivial, (by show va_P (dC, dI) vwCl ([(r_4, .inr (iX1, [.long ((paF (v (rtA st bc (atF 12 ax i))) tu (atF 12 te i)).1), .long ((paF (v (rtA st bc (atF 12 ax i))) tu (atF 12 te i)).2)]))]) t.heap; rw [ht]; exact eq_5 ▸ (hT.sub (ws' := [(r_4, .inr (iX1, [.long (frU (((v (rtA st bc (atF 12 ax i))).1) * (tu.toInt64 * ((atF 12 te i).toInt64))) (((v (rtA st bc (atF 12 ax i))).2) * 1)), .long (frL (((v (rtA st bc (atF 12 ax i))).1) * (tu.toInt64 * ((atF 12 te i).toInt64))) (((v (rtA st bc (atF 12 ax i))).2) * 1))]))]) [0] rfl)), hGe_r_4⟩, hS.F ht⟩) hS.2.2 dX5_passedBy_34

set_option maxHeartbeats 4000000 in
set_option maxRecDepth 100000 in
theorem c_X5_cellAt (l : Launch) (dC : Nat → ClassId) (dI : Nat → Nat → Nat) (cI cF : ClassId) (tr : List (ClassId × FieldType)) (sz : Nat) (o : Nat) (ce : Nat) (lu : Nat) (cl : Nat) (se : Nat) (tu : Int32) (ja : Int32) (re : Int32) (g : Nat) (n : Nat) (xa : Nat) (xt : Nat) (xm : Nat) (wh : Nat) (st : Nat) (xb : Nat) (xc : Nat) (bc : Nat → Option Nat) (cs : Nat → Int32) (LP : List Nat) (v : Nat → Int64 × Int64) (i : Int32) (j : Int32) (hst : st ∈ LP) (hbc : ∀ k, k < 7 → ∀ a, bc k = some a → a ∈ LP) : Met l yX5_cellAt wsX5_cellAt ({ frames := 4, cells := 2, slots := 4, locals := 102 } : Room) (cPc dC dI ((cI, .int) :: (cF, .object RX1) :: tr) sz ([(o, .inr (iX5, [.ref g, .ref ce, .ref lu, .ref cl, .ref se, .int tu, .int ja, .int re])), (g, .inr (iX2, [.int (nI n), .ref xa, .ref xt, .ref xm, .ref wh, .ref st, .ref xb, .ref xc])), (xb, .inl (cF, 7, .inr (.inr (.inr (.inr (bc)))))), (ce, .inl (cI, 7, .inl (cs)))] ++ va_pl LP (fe v)) [.ref o, .int i, .int j]) (va_Qi (fun (r : Int32) (_ : Unit) => r = caF (v (rtA st bc i)) j (atF 7 cs i)) (fun _ _ => True) (va_A ([]) sz)) 2 4 (va_A ([]) sz) := by
  refine Met.ofW (cc := cX5_cellAt) (maxL := 3) (ret := (some .int)) (by decide) rfl ?_
  intro p e s m args below meth c s₁ B hml hv
  obtain ⟨rfl, hsz, hP, hK, hN⟩ := hv
  have hx := B.exec
  have hb := B.bytes
  have hr := B.returns
  have hts := atoms_spec (ws := wsX5_cellAt) B.pre
  have hown : s.vm.findClass RX5 = some m.cls := findClass_of_methodNamed B.named
  have hlocks := B.notSynchronized
  subst hsz
  generalize hAe : va_A [] s.heap.size = A
  have hA : ∀ q : Nat, s.heap.size ≤ q → A q := fun q h => by rw [← hAe]; exact Or.inr h
  have hS : va_S A s.heap s.heap [] := va_S.rf
  have hAn : ∀ q : Nat, q < s.heap.size → ¬ A q := fun q h => by rw [← hAe]; exact notZ h
  have hAg : ∀ q : Nat, A q → s.heap.size ≤ q := fun q h => geZ (hAe ▸ h)
  have hR0 : va_P (dC, dI) vwCl ([(o, .inr (iX5, [.ref g, .ref ce, .ref lu, .ref cl, .ref se, .int tu, .int ja, .int re])), (g, .inr (iX2, [.int (nI n), .ref xa, .ref xt, .ref xm, .ref wh, .ref st, .ref xb, .ref xc])), (xb, .inl (cF, 7, .inr (.inr (.inr (.inr (bc)))))), (ce, .inl (cI, 7, .inl (cs)))] ++ va_pl LP (fe v)) s.heap := hP
  have hR : va_P (dC, dI) vwCl ([(o, .inr (iX5, [.ref g, .ref ce, .ref lu, .ref cl, .ref se, .int tu, .int ja, .int re])), (g, .inr (iX2, [.int (nI n), .ref xa, .ref xt, .ref xm, .ref wh, .ref st, .ref xb, .ref xc])), (xb, .inl (cF, 7, .inr (.inr (.inr (.inr (bc)))))), (ce, .inl (cI, 7, .inl (cs)))] ++ va_pl LP (fe v)) s.heap := hP
  have hP : va_P (dC, dI) vwCl [] s.heap := fun k q h => by simp at h
  have hD : va_D A [] := ⟨fun i j p q h => by simp at h, fun k q h => by simp at h⟩
  have hl := lv_entry ([.ref o, .int i, .int j]) (n := 3) (Nat.le_of_ble_eq_true rfl)
  rw [lg_entry_eq]
  generalize (lg_sl ([.ref o, .int i, .int j]) ++ List.replicate (3 - (lg_sl ([.ref o, .int i, .int j])).length) Slot.unset).toArray = ls at hl ⊢
  have hl : lv_has ls 3 [(0, .ref o), (1, .int i), (2, .int j)] := hl
  have hfl_10 := hts (.fieldLink RX5 10 "Greenwheels" "gearing" "LGreenwheels$Gearing;") (by decide +kernel)
  have hin_X5 : ∀ w ∈ u_ws RX5 TX5 8, w ∈ wsX5_cellAt := by decide +kernel
  have hfl_16 := hts (.fieldLink RX5 16 "Greenwheels" "cells" "[I") (by decide +kernel)
  refine lv_aload_n hx hb dX5_cellAt_0 rfl (lv_at hl 0 rfl) ?_
  refine va_get (D := (dC, dI)) (ci := iX5) (v := .ref g) (C := RX5) (T := TX5) (N := 8) hx hb hts hin_X5 hown hK hR 0 rfl rfl 0 (by decide) hfl_10 (fun _ h9 => h9) rfl dX5_cellAt_1 ?_
  refine lv_iload_n hx hb dX5_cellAt_4 rfl (lv_at hl 1 rfl) ?_
  refine lv_iload_n hx hb dX5_cellAt_5 rfl (lv_at hl 2 rfl) ?_
  have hPc : va_P (dC, dI) vwCl ([(g, .inr (iX2, [.int (nI n), .ref xa, .ref xt, .ref xm, .ref wh, .ref st, .ref xb, .ref xc])), (xb, .inl (cF, 7, .inr (.inr (.inr (.inr (bc))))))] ++ va_pl LP (fe v)) _ := hR.part [1, 2] rfl
  have hFc := frZ hS hA
  have hz0 := hS.1
  refine va_callr (va_runV (As := [.int i, .int j]) (rest := []) ⟨hx, hb, hml, hown, hts⟩ (c_X2_turnedAt l dC dI cI cF tr (s.heap).size g n xa xt xm wh st xb xc bc LP v i j (by assumption) (by assumption)) (cwV 2 hts gX5_cellAt_X2_turnedAt rfl rfl rfl (by decide +kernel) ⟨Nat.le_of_ble_eq_true rfl, Nat.le_of_ble_eq_true rfl⟩) ⟨cBl, (va_recv hK hPc (ci := iX2) (q0 := 0) rfl rfl), (cPre hPc hK hN)⟩ rfl rfl hl.1 rfl (lv_room (Nat.le_of_ble_eq_true rfl)) dX5_cellAt_6 ⟨(Nat.le_of_ble_eq_true rfl), (Nat.le_of_ble_eq_true rfl)⟩) hS (fun q _ h => hFc q h) hFc (fun u r_1 t H1 locs ht hvm hw_r_1 hB hz1 hk1 hS => ?_)
  refine W.widen (k := 1) (n := 2) (by omega) (by omega) ?_
  have hP := keepP hP hk1
  have hR := keepP hR hk1
  obtain ⟨hB, hBn⟩ := hB
  rw [ht] at hB
  have hGe_r_1 : s.heap.size ≤ r_1 := Nat.le_trans hz0 hBn
  have hT : va_P (dC, dI) vwCl ([(r_1, .inr (iX1, [.long (frU ((v (rtA st bc i)).1 * j.toInt64) ((v (rtA st bc i)).2 * 1)), .long (frL ((v (rtA st bc i)).1 * j.toInt64) ((v (rtA st bc i)).2 * 1))]))]) H1 := hB
  generalize H1 = H at hP hR hT hS ⊢
  have hP : va_P (dC, dI) vwCl ([]) H := hP
  try dsimp only at hw_r_1
  have hPc : va_P (dC, dI) vwCl ([(r_1, .inr (iX1, [.long (frU ((v (rtA st bc i)).1 * j.toInt64) ((v (rtA st bc i)).2 * 1)), .long (frL ((v (rtA st bc i)).1 * j.toInt64) ((v (rtA st bc i)).2 * 1))]))]) _ := hT.sub [0] rfl
  have hFc := frZ hS hA
  refine va_callr (va_runV (As := []) (rest := []) ⟨hx, hb, hml, hown, hts⟩ (c_X1_withoutWhole l dC dI cI cF tr (H).size r_1 (frU ((v (rtA st bc i)).1 * j.toInt64) ((v (rtA st bc i)).2 * 1)) (frL ((v (rtA st bc i)).1 * j.toInt64) ((v (rtA st bc i)).2 * 1))) (cwV 0 hts gX5_cellAt_X1_withoutWhole rfl rfl rfl (by decide +kernel) ⟨Nat.le_of_ble_eq_true rfl, Nat.le_of_ble_eq_true rfl⟩) ⟨cBl, (va_recv hK hPc (ci := iX1) (q0 := 0) rfl rfl), (cPre hPc hK hN)⟩ rfl rfl hl.1 rfl (lv_room (Nat.le_of_ble_eq_true rfl)) dX5_cellAt_9 ⟨(Nat.le_of_ble_eq_true rfl), (Nat.le_of_ble_eq_true rfl)⟩) hS (fun q _ h => hFc q h) hFc (fun u r_2 t H1 locs ht hvm hw_r_2 hB hz1 hk1 hS => ?_)
  refine W.widen (k := 2) (n := 4) (by omega) (by omega) ?_
  have hP := keepP hP hk1
  have hR := keepP hR hk1
  have hT := keepP hT hk1
  have hBn := True.intro
  rw [ht] at hB
  have hT : va_P (dC, dI) vwCl ([(r_1, .inr (iX1, [.long (frU ((v (rtA st bc i)).1 * j.toInt64) ((v (rtA st bc i)).2 * 1)), .long (frL ((v (rtA st bc i)).1 * j.toInt64) ((v (rtA st bc i)).2 * 1))])), (r_2, .inr (iX1, [.long (wwU (frU ((v (rtA st bc i)).1 * j.toInt64) ((v (rtA st bc i)).2 * 1)) (frL ((v (rtA st bc i)).1 * j.toInt64) ((v (rtA st bc i)).2 * 1))), .long (wwL (frU ((v (rtA st bc i)).1 * j.toInt64) ((v (rtA st bc i)).2 * 1)) (frL ((v (rtA st bc i)).1 * j.toInt64) ((v (rtA st bc i)).2 * 1)))]))]) H1 := hT.app hB
  generalize H1 = H at hP hR hT hS ⊢
  have hP : va_P (dC, dI) vwCl ([]) H := hP
  try dsimp only at hw_r_2
  refine lv_aload_n hx hb dX5_cellAt_12 rfl (lv_at hl 0 rfl) ?_
  refine va_get (D := (dC, dI)) (ci := iX5) (v := .ref ce) (C := RX5) (T := TX5) (N := 8) hx hb hts hin_X5 hown hK hR 0 rfl rfl 1 (by decide) hfl_16 (fun _ h9 => h9) rfl dX5_cellAt_13 ?_
  refine lv_iload_n hx hb dX5_cellAt_16 rfl (lv_at hl 1 rfl) ?_
  have hPc : va_P (dC, dI) vwCl ([(ce, .inl (cI, 7, .inl (cs)))]) _ := hR.sub [3] rfl
  have hFc := frZ hS hA
  refine va_calli (va_runS (As := [.ref ce, .int i]) (rest := [.ref r_2]) ⟨hx, hb, hml, hown, hts⟩ (c_X5_at l dC dI cI cF tr (H).size ce 7 cs i (by decide)) (va_cwS 2 hts gX5_cellAt_X5_at rfl rfl rfl (by decide +kernel) ⟨Nat.le_of_ble_eq_true rfl, Nat.le_of_ble_eq_true rfl⟩) ⟨cBl, (cPre hPc hK hN)⟩ rfl rfl hl.1 rfl (lv_room (Nat.le_of_ble_eq_true rfl)) dX5_cellAt_17 ⟨(Nat.le_of_ble_eq_true rfl), (Nat.le_of_ble_eq_true rfl)⟩) hS (fun q _ h => hFc q h) hFc (fun r_3 u t H1 locs ht hvm hw_r_3 hB hz1 hk1 hS => ?_)
  refine W.widen (k := 2) (n := 4) (Nat.le_refl _) (Nat.le_refl _) ?_
  have hP := keepP hP hk1
  have hR := keepP hR hk1
  have hT := keepP hT hk1
  generalize H1 = H at hP hR hT hS ⊢
  have hP : va_P (dC, dI) vwCl ([]) H := hP
  try dsimp only at hw_r_3
  subst hw_r_3
  have hPc : va_P (dC, dI) vwCl ([(r_2, .inr (iX1, [.long (wwU (frU ((v (rtA st bc i)).1 * j.toInt64) ((v (rtA st bc i)).2 * 1)) (frL ((v (rtA st bc i)).1 * j.toInt64) ((v (rtA st bc i)).2 * 1))), .long (wwL (frU ((v (rtA st bc i)).1 * j.toInt64) ((v (rtA st bc i)).2 * 1)) (frL ((v (rtA st bc i)).1 * j.toInt64) ((v (rtA st bc i)).2 * 1)))]))]) _ := hT.sub [1] rfl
  have hFc := frZ hS hA
  refine va_calli (va_runV (As := [.int (atF 7 cs i)]) (rest := []) ⟨hx, hb, hml, hown, hts⟩ (c_X1_cellOf l dC dI cI cF tr (H).size r_2 (wwU (frU ((v (rtA st bc i)).1 * j.toInt64) ((v (rtA st bc i)).2 * 1)) (frL ((v (rtA st bc i)).1 * j.toInt64) ((v (rtA st bc i)).2 * 1))) (wwL (frU ((v (rtA st bc i)).1 * j.toInt64) ((v (rtA st bc i)).2 * 1)) (frL ((v (rtA st bc i)).1 * j.toInt64) ((v (rtA st bc i)).2 * 1))) (atF 7 cs i)) (cwV 1 hts gX5_cellAt_X1_cellOf rfl rfl rfl (by decide +kernel) ⟨Nat.le_of_ble_eq_true rfl, Nat.le_of_ble_eq_true rfl⟩) ⟨cBl, (va_recv hK hPc (ci := iX1) (q0 := 0) rfl rfl), (cPre hPc hK hN)⟩ rfl rfl hl.1 rfl (lv_room (Nat.le_of_ble_eq_true rfl)) dX5_cellAt_20 ⟨(Nat.le_of_ble_eq_true rfl), (Nat.le_of_ble_eq_true rfl)⟩) hS (fun q _ h => hFc q h) hFc (fun r_4 u t H1 locs ht hvm hw_r_4 hB hz1 hk1 hS => ?_)
  refine W.widen (k := 2) (n := 4) (Nat.le_refl _) (Nat.le_refl _) ?_
  have hP := keepP hP hk1
  have hR := keepP hR hk1
  have hT := keepP hT hk1
  generalize H1 = H at hP hR hT hS ⊢
  have hP : va_P (dC, dI) vwCl ([]) H := hP
  try dsimp only at hw_r_4
  subst hw_r_4
  refine W.widen (k := 2) (n := 4) (by omega) (by omega) ?_
  exact W.iret (v := ceF (wwU (frU ((v (rtA st bc i)).1 * j.toInt64) ((v (rtA st bc i)).2 * 1)) (frL ((v (rtA st bc i)).1 * j.toInt64) ((v (rtA st bc i)).2 * 1))) (wwL (frU ((v (rtA st bc i)).1 * j.toInt64) ((v (rtA st bc i)).2 * 1)) (frL ((v (rtA st bc i)).1 * j.toInt64) ((v (rtA st bc i)).2 * 1))) (atF 7 cs i)) hx hb hr (fun t ht hW => ⟨⟨ceF (wwU (frU ((v (rtA st bc i)).1 * j.toInt64) ((v (rtA st bc i)).2 * 1)) (frL ((v (rtA st bc i)).1 * j.toInt64) ((v (rtA st bc i)).2 * 1))) (wwL (frU ((v (rtA st bc i)).1 * j.toInt64) ((v (rtA st bc i)).2 * 1)) (frL ((v (rtA st bc i)).1 * j.toInt64) ((v (rtA st bc i)).2 * 1))) (atF 7 cs i), (), rfl, rfl, trivial⟩, hS.F ht⟩) hS.2.2 dX5_cellAt_23

set_option maxHeartbeats 4000000 in
set_option maxRecDepth 100000 in
theorem c_X5_mixed (l : Launch) (dC : Nat → ClassId) (dI : Nat → Nat → Nat) (cI cF : ClassId) (tr : List (ClassId × FieldType)) (sz : Nat) (d : Int64) (x : Int64) : Met l yX5_mixed wsX5_mixed ({ frames := 0, cells := 0, slots := 0, locals := 0 } : Room) (cPc dC dI ((cI, .int) :: (cF, .object RX1) :: tr) sz ([]) [.long d, .long x]) (va_Ql (fun (r : Int64) (_ : Unit) => r = mxF d x) (fun _ _ => True) (va_A ([]) sz)) 0 0 (va_A ([]) sz) := by
  refine Met.ofW (cc := cX5_mixed) (maxL := 4) (ret := (some .long)) (by decide) rfl ?_
  intro p e s m args below meth c s₁ B hml hv
  obtain ⟨rfl, hsz, hP, hK, hN⟩ := hv
  have hx := B.exec
  have hb := B.bytes
  have hr := B.returns
  have hts := atoms_spec (ws := wsX5_mixed) B.pre
  have hown : s.vm.findClass RX5 = some m.cls := findClass_of_methodNamed B.named
  have hlocks := B.notSynchronized
  subst hsz
  generalize hAe : va_A [] s.heap.size = A
  have hA : ∀ q : Nat, s.heap.size ≤ q → A q := fun q h => by rw [← hAe]; exact Or.inr h
  have hS : va_S A s.heap s.heap [] := va_S.rf
  have hAn : ∀ q : Nat, q < s.heap.size → ¬ A q := fun q h => by rw [← hAe]; exact notZ h
  have hAg : ∀ q : Nat, A q → s.heap.size ≤ q := fun q h => geZ (hAe ▸ h)
  have hR0 : va_P (dC, dI) vwCl ([]) s.heap := hP
  have hR : va_P (dC, dI) vwCl ([]) s.heap := hP
  have hP : va_P (dC, dI) vwCl [] s.heap := fun k q h => by simp at h
  have hD : va_D A [] := ⟨fun i j p q h => by simp at h, fun k q h => by simp at h⟩
  have hl := lv_entry ([.long d, .long x]) (n := 4) (Nat.le_of_ble_eq_true rfl)
  rw [lg_entry_eq]
  generalize (lg_sl ([.long d, .long x]) ++ List.replicate (4 - (lg_sl ([.long d, .long x])).length) Slot.unset).toArray = ls at hl ⊢
  have hl : lv_has ls 4 [(0, .long d), (2, .long x)] := hl
  have hw_k340 := hts (.constantLong RX5 340 (31)) (by decide +kernel)
  refine lv_lload_n hx hb dX5_mixed_0 rfl (lv_at hl 0 rfl) ?_
  refine lv_ldc2 hx hb hown hw_k340 dX5_mixed_1 ?_
  refine lv_lmul hx hb dX5_mixed_4 ?_
  refine lv_lload_n hx hb dX5_mixed_5 rfl (lv_at hl 1 rfl) ?_
  refine lv_ladd hx hb dX5_mixed_6 ?_
  refine W.widen (k := 0) (n := 0) (by omega) (by omega) ?_
  exact W.lret (v := (d * 31) + x) hx hb hr (fun t ht hW => ⟨⟨(d * 31) + x, (), rfl, (by first | (simp [mxF]; done) | contradiction), trivial⟩, hS.F ht⟩) hS.2.2 dX5_mixed_7

set_option maxHeartbeats 4000000 in
set_option maxRecDepth 100000 in
theorem c_X5_mixedFraction (l : Launch) (dC : Nat → ClassId) (dI : Nat → Nat → Nat) (cI cF : ClassId) (tr : List (ClassId × FieldType)) (sz : Nat) (d : Int64) (h : Nat) (x : Int64) (y : Int64) : Met l yX5_mixedFraction wsX5_mixedFraction ({ frames := 1, cells := 0, slots := 0, locals := 23 } : Room) (cPc dC dI ((cI, .int) :: (cF, .object RX1) :: tr) sz ([(h, .inr (iX1, [.long x, .long y]))]) [.long d, .ref h]) (va_Ql (fun (r : Int64) (_ : Unit) => r = mxF (mxF d x) y) (fun _ _ => True) (va_A ([]) sz)) 0 0 (va_A ([]) sz) := by
  refine Met.ofW (cc := cX5_mixedFraction) (maxL := 3) (ret := (some .long)) (by decide) rfl ?_
  intro p e s m args below meth c s₁ B hml hv
  obtain ⟨rfl, hsz, hP, hK, hN⟩ := hv
  have hx := B.exec
  have hb := B.bytes
  have hr := B.returns
  have hts := atoms_spec (ws := wsX5_mixedFraction) B.pre
  have hown : s.vm.findClass RX5 = some m.cls := findClass_of_methodNamed B.named
  have hlocks := B.notSynchronized
  subst hsz
  generalize hAe : va_A [] s.heap.size = A
  have hA : ∀ q : Nat, s.heap.size ≤ q → A q := fun q h => by rw [← hAe]; exact Or.inr h
  have hS : va_S A s.heap s.heap [] := va_S.rf
  have hAn : ∀ q : Nat, q < s.heap.size → ¬ A q := fun q h => by rw [← hAe]; exact notZ h
  have hAg : ∀ q : Nat, A q → s.heap.size ≤ q := fun q h => geZ (hAe ▸ h)
  have hR0 : va_P (dC, dI) vwCl ([(h, .inr (iX1, [.long x, .long y]))]) s.heap := hP
  have hR : va_P (dC, dI) vwCl ([(h, .inr (iX1, [.long x, .long y]))]) s.heap := hP
  have hP : va_P (dC, dI) vwCl [] s.heap := fun k q h => by simp at h
  have hD : va_D A [] := ⟨fun i j p q h => by simp at h, fun k q h => by simp at h⟩
  have hl := lv_entry ([.long d, .ref h]) (n := 3) (Nat.le_of_ble_eq_true rfl)
  rw [lg_entry_eq]
  generalize (lg_sl ([.long d, .ref h]) ++ List.replicate (3 - (lg_sl ([.long d, .ref h])).length) Slot.unset).toArray = ls at hl ⊢
  have hl : lv_has ls 3 [(0, .long d), (2, .ref h)] := hl
  have hfl_333 := hts (.fieldLink RX5 333 "Greenwheels$Fraction" "upper" "J") (by decide +kernel)
  have hin_X1 : ∀ w ∈ u_ws RX1 TX1 2, w ∈ wsX5_mixedFraction := by decide +kernel
  have hfl_337 := hts (.fieldLink RX5 337 "Greenwheels$Fraction" "lower" "J") (by decide +kernel)
  refine lv_lload_n hx hb dX5_mixedFraction_0 rfl (lv_at hl 0 rfl) ?_
  refine lv_aload_n hx hb dX5_mixedFraction_1 rfl (lv_at hl 1 rfl) ?_
  refine va_get (D := (dC, dI)) (ci := iX1) (v := .long x) (C := RX1) (T := TX1) (N := 2) hx hb hts hin_X1 hown hK hR 0 rfl rfl 0 (by decide) hfl_333 (fun _ h9 => h9) rfl dX5_mixedFraction_2 ?_
  have hPc : va_P (dC, dI) vwCl [] s.heap := nilP
  have hFc := frZ hS hA
  refine va_calll (va_runS (As := [.long d, .long x]) (rest := []) ⟨hx, hb, hml, hown, hts⟩ (c_X5_mixed l dC dI cI cF tr (s.heap).size d x) (va_cwS 2 hts gX5_mixedFraction_X5_mixed rfl rfl rfl (by decide +kernel) ⟨Nat.le_of_ble_eq_true rfl, Nat.le_of_ble_eq_true rfl⟩) ⟨cBl, (cPre hPc hK hN)⟩ rfl rfl hl.1 rfl (lv_room (Nat.le_of_ble_eq_true rfl)) dX5_mixedFraction_5 ⟨(Nat.le_of_ble_eq_true rfl), (Nat.le_of_ble_eq_true rfl)⟩) hS (fun q _ h => hFc q h) hFc (fun r_1 u t H1 locs ht hvm hw_r_1 hB hz1 hk1 hS => ?_)
  refine W.widen (k := 0) (n := 0) (Nat.le_refl _) (Nat.le_refl _) ?_
  have hP := keepP hP hk1
  have hR := keepP hR hk1
  generalize H1 = H at hP hR hS ⊢
  have hP : va_P (dC, dI) vwCl ([]) H := hP
  try dsimp only at hw_r_1
  subst hw_r_1
  refine lv_aload_n hx hb dX5_mixedFraction_8 rfl (lv_at hl 1 rfl) ?_
  refine va_get (D := (dC, dI)) (ci := iX1) (v := .long y) (C := RX1) (T := TX1) (N := 2) hx hb hts hin_X1 hown hK hR 0 rfl rfl 1 (by decide) hfl_337 (fun _ h9 => h9) rfl dX5_mixedFraction_9 ?_
  have hPc : va_P (dC, dI) vwCl [] H := nilP
  have hFc := frZ hS hA
  refine va_calll (va_runS (As := [.long (mxF d x), .long y]) (rest := []) ⟨hx, hb, hml, hown, hts⟩ (c_X5_mixed l dC dI cI cF tr (H).size (mxF d x) y) (va_cwS 2 hts gX5_mixedFraction_X5_mixed rfl rfl rfl (by decide +kernel) ⟨Nat.le_of_ble_eq_true rfl, Nat.le_of_ble_eq_true rfl⟩) ⟨cBl, (cPre hPc hK hN)⟩ rfl rfl hl.1 rfl (lv_room (Nat.le_of_ble_eq_true rfl)) dX5_mixedFraction_12 ⟨(Nat.le_of_ble_eq_true rfl), (Nat.le_of_ble_eq_true rfl)⟩) hS (fun q _ h => hFc q h) hFc (fun r_2 u t H1 locs ht hvm hw_r_2 hB hz1 hk1 hS => ?_)
  refine W.widen (k := 0) (n := 0) (Nat.le_refl _) (Nat.le_refl _) ?_
  have hP := keepP hP hk1
  have hR := keepP hR hk1
  generalize H1 = H at hP hR hS ⊢
  have hP : va_P (dC, dI) vwCl ([]) H := hP
  try dsimp only at hw_r_2
  subst hw_r_2
  refine W.widen (k := 0) (n := 0) (by omega) (by omega) ?_
  exact W.lret (v := mxF (mxF d x) y) hx hb hr (fun t ht hW => ⟨⟨mxF (mxF d x) y, (), rfl, (by first | (simp []; done) | contradiction), trivial⟩, hS.F ht⟩) hS.2.2 dX5_mixedFraction_15

set_option maxHeartbeats 4000000 in
set_option maxRecDepth 100000 in
theorem c_p_X5_ofAxle (l : Launch) (dC : Nat → ClassId) (dI : Nat → Nat → Nat) (cI cF : ClassId) (tr : List (ClassId × FieldType)) (sz : Nat) (o : Nat) (ce : Nat) (lu : Nat) (cl : Nat) (se : Nat) (tu : Int32) (ja : Int32) (re : Int32) (g : Nat) (n : Nat) (xa : Nat) (xt : Nat) (xm : Nat) (wh : Nat) (st : Nat) (xb : Nat) (xc : Nat) (bc : Nat → Option Nat) (LP : List Nat) (v : Nat → Int64 × Int64) (i : Int32) (k : Int32) (b : Int32) (hst : st ∈ LP) (hbc : ∀ k, k < 7 → ∀ a, bc k = some a → a ∈ LP) (hi : ¬ withinF i 0 6 = 0) (hk : ¬ withinF k 0 2 = 0) : Met l yX5_ofAxle wsX5_ofAxle ({ frames := 5, cells := 2, slots := 4, locals := 124 } : Room) (cPc dC dI ((cI, .int) :: (cF, .object RX1) :: tr) sz ([(o, .inr (iX5, [.ref g, .ref ce, .ref lu, .ref cl, .ref se, .int tu, .int ja, .int re])), (g, .inr (iX2, [.int (nI n), .ref xa, .ref xt, .ref xm, .ref wh, .ref st, .ref xb, .ref xc])), (xb, .inl (cF, 7, .inr (.inr (.inr (.inr (bc))))))] ++ va_pl LP (fe v)) [.ref o, .int i, .int k, .int b]) (va_Ql (fun (r : Int64) (_ : Unit) => r = oaF (v (rtA st bc i)) tu k b) (fun _ _ => True) (va_A ([]) sz)) 2 4 (va_A ([]) sz) := by
  refine Met.ofW (cc := cX5_ofAxle) (maxL := 4) (ret := (some .long)) (by decide) rfl ?_
  intro p e s m args below meth c s₁ B hml hv
  obtain ⟨rfl, hsz, hP, hK, hN⟩ := hv
  have hx := B.exec
  have hb := B.bytes
  have hr := B.returns
  have hts := atoms_spec (ws := wsX5_ofAxle) B.pre
  have hown : s.vm.findClass RX5 = some m.cls := findClass_of_methodNamed B.named
  have hlocks := B.notSynchronized
  subst hsz
  generalize hAe : va_A [] s.heap.size = A
  have hA : ∀ q : Nat, s.heap.size ≤ q → A q := fun q h => by rw [← hAe]; exact Or.inr h
  have hS : va_S A s.heap s.heap [] := va_S.rf
  have hAn : ∀ q : Nat, q < s.heap.size → ¬ A q := fun q h => by rw [← hAe]; exact notZ h
  have hAg : ∀ q : Nat, A q → s.heap.size ≤ q := fun q h => geZ (hAe ▸ h)
  have hR0 : va_P (dC, dI) vwCl ([(o, .inr (iX5, [.ref g, .ref ce, .ref lu, .ref cl, .ref se, .int tu, .int ja, .int re])), (g, .inr (iX2, [.int (nI n), .ref xa, .ref xt, .ref xm, .ref wh, .ref st, .ref xb, .ref xc])), (xb, .inl (cF, 7, .inr (.inr (.inr (.inr (bc))))))] ++ va_pl LP (fe v)) s.heap := hP
  have hR : va_P (dC, dI) vwCl ([(o, .inr (iX5, [.ref g, .ref ce, .ref lu, .ref cl, .ref se, .int tu, .int ja, .int re])), (g, .inr (iX2, [.int (nI n), .ref xa, .ref xt, .ref xm, .ref wh, .ref st, .ref xb, .ref xc])), (xb, .inl (cF, 7, .inr (.inr (.inr (.inr (bc))))))] ++ va_pl LP (fe v)) s.heap := hP
  have hP : va_P (dC, dI) vwCl [] s.heap := fun k q h => by simp at h
  have hD : va_D A [] := ⟨fun i j p q h => by simp at h, fun k q h => by simp at h⟩
  have hl := lv_entry ([.ref o, .int i, .int k, .int b]) (n := 4) (Nat.le_of_ble_eq_true rfl)
  rw [lg_entry_eq]
  generalize (lg_sl ([.ref o, .int i, .int k, .int b]) ++ List.replicate (4 - (lg_sl ([.ref o, .int i, .int k, .int b])).length) Slot.unset).toArray = ls at hl ⊢
  have hl : lv_has ls 4 [(0, .ref o), (1, .int i), (2, .int k), (3, .int b)] := hl
  refine lv_iload_n hx hb dX5_ofAxle_0 rfl (lv_at hl 1 rfl) ?_
  have hPc : va_P (dC, dI) vwCl [] s.heap := nilP
  have hFc := frZ hS hA
  refine va_callv (va_runS (As := [.int i]) (rest := []) ⟨hx, hb, hml, hown, hts⟩ (c_p_X5_demandAxle l dC dI cI cF tr (s.heap).size i (by assumption)) (va_cwS 1 hts gX5_ofAxle_X5_demandAxle rfl rfl rfl (by decide +kernel) ⟨Nat.le_of_ble_eq_true rfl, Nat.le_of_ble_eq_true rfl⟩) ⟨cBl, (cPre hPc hK hN)⟩ rfl rfl hl.1 rfl (lv_room (Nat.le_of_ble_eq_true rfl)) dX5_ofAxle_1 ⟨(Nat.le_of_ble_eq_true rfl), (Nat.le_of_ble_eq_true rfl)⟩) hS (fun q _ h => hFc q h) hFc (fun u t H1 locs ht hvm hw_r_1 hB hz1 hk1 hS => ?_)
  refine W.widen (k := 0) (n := 0) (Nat.le_refl _) (Nat.le_refl _) ?_
  have hP := keepP hP hk1
  have hR := keepP hR hk1
  generalize H1 = H at hP hR hS ⊢
  have hP : va_P (dC, dI) vwCl ([]) H := hP
  try dsimp only at hw_r_1
  refine lv_iload_n hx hb dX5_ofAxle_4 rfl (lv_at hl 2 rfl) ?_
  refine lv_iconst (v := 0) hx hb dX5_ofAxle_5 (by decide) ?_
  refine lv_iconst (v := 2) hx hb dX5_ofAxle_6 (by decide) ?_
  have hPc : va_P (dC, dI) vwCl [] H := nilP
  have hFc := frZ hS hA
  refine va_calli (va_runS (As := [.int k, .int 0, .int 2]) (rest := []) ⟨hx, hb, hml, hown, hts⟩ (c_X5_isWithin l dC dI cI cF tr (H).size k 0 2) (va_cwS 3 hts gX5_ofAxle_X5_isWithin rfl rfl rfl (by decide +kernel) ⟨Nat.le_of_ble_eq_true rfl, Nat.le_of_ble_eq_true rfl⟩) ⟨cBl, (cPre hPc hK hN)⟩ rfl rfl hl.1 rfl (lv_room (Nat.le_of_ble_eq_true rfl)) dX5_ofAxle_7 ⟨(Nat.le_of_ble_eq_true rfl), (Nat.le_of_ble_eq_true rfl)⟩) hS (fun q _ h => hFc q h) hFc (fun r_2 u t H1 locs ht hvm hw_r_2 hB hz1 hk1 hS => ?_)
  refine W.widen (k := 0) (n := 0) (Nat.le_refl _) (Nat.le_refl _) ?_
  have hP := keepP hP hk1
  have hR := keepP hR hk1
  generalize H1 = H at hP hR hS ⊢
  have hP : va_P (dC, dI) vwCl ([]) H := hP
  try dsimp only at hw_r_2
  subst hw_r_2
  have hPc : va_P (dC, dI) vwCl [] H := nilP
  have hFc := frZ hS hA
  refine va_callv (va_runS (As := [.int (withinF k 0 2)]) (rest := []) ⟨hx, hb, hml, hown, hts⟩ (c_p_X5_demandArgument l dC dI cI cF tr (H).size (withinF k 0 2) (by assumption)) (va_cwS 1 hts gX5_ofAxle_X5_demandArgument rfl rfl rfl (by decide +kernel) ⟨Nat.le_of_ble_eq_true rfl, Nat.le_of_ble_eq_true rfl⟩) ⟨cBl, (cPre hPc hK hN)⟩ rfl rfl hl.1 rfl (lv_room (Nat.le_of_ble_eq_true rfl)) dX5_ofAxle_10 ⟨(Nat.le_of_ble_eq_true rfl), (Nat.le_of_ble_eq_true rfl)⟩) hS (fun q _ h => hFc q h) hFc (fun u t H1 locs ht hvm hw_r_3 hB hz1 hk1 hS => ?_)
  refine W.widen (k := 0) (n := 0) (Nat.le_refl _) (Nat.le_refl _) ?_
  have hP := keepP hP hk1
  have hR := keepP hR hk1
  generalize H1 = H at hP hR hS ⊢
  have hP : va_P (dC, dI) vwCl ([]) H := hP
  try dsimp only at hw_r_3
  refine lv_aload_n hx hb dX5_ofAxle_13 rfl (lv_at hl 0 rfl) ?_
  refine lv_iload_n hx hb dX5_ofAxle_14 rfl (lv_at hl 1 rfl) ?_
  refine lv_iload_n hx hb dX5_ofAxle_15 rfl (lv_at hl 2 rfl) ?_
  have hPc : va_P (dC, dI) vwCl ([(o, .inr (iX5, [.ref g, .ref ce, .ref lu, .ref cl, .ref se, .int tu, .int ja, .int re])), (g, .inr (iX2, [.int (nI n), .ref xa, .ref xt, .ref xm, .ref wh, .ref st, .ref xb, .ref xc])), (xb, .inl (cF, 7, .inr (.inr (.inr (.inr (bc))))))] ++ va_pl LP (fe v)) _ := hR.part [0, 1, 2] rfl
  have hFc := frZ hS hA
  refine va_callr (va_runV (As := [.int i, .int k]) (rest := []) ⟨hx, hb, hml, hown, hts⟩ (c_X5_axleFraction l dC dI cI cF tr (H).size o ce lu cl se tu ja re g n xa xt xm wh st xb xc bc LP v i k (by assumption) (by assumption)) (cwV 2 hts gX5_ofAxle_X5_axleFraction rfl rfl rfl (by decide +kernel) ⟨Nat.le_of_ble_eq_true rfl, Nat.le_of_ble_eq_true rfl⟩) ⟨cBl, (va_recv hK hPc (ci := iX5) (q0 := 0) rfl rfl), (cPre hPc hK hN)⟩ rfl rfl hl.1 rfl (lv_room (Nat.le_of_ble_eq_true rfl)) dX5_ofAxle_16 ⟨(Nat.le_of_ble_eq_true rfl), (Nat.le_of_ble_eq_true rfl)⟩) hS (fun q _ h => hFc q h) hFc (fun u r_4 t H1 locs ht hvm hw_r_4 hB hz1 hk1 hS => ?_)
  refine W.widen (k := 2) (n := 4) (by omega) (by omega) ?_
  have hP := keepP hP hk1
  have hR := keepP hR hk1
  have hBn := True.intro
  rw [ht] at hB
  have hT : va_P (dC, dI) vwCl ([(r_4, .inr (iX1, [.long ((afF (v (rtA st bc i)) tu k).1), .long ((afF (v (rtA st bc i)) tu k).2)]))]) H1 := hB
  generalize H1 = H at hP hR hT hS ⊢
  have hP : va_P (dC, dI) vwCl ([]) H := hP
  try dsimp only at hw_r_4
  refine lv_iload_n hx hb dX5_ofAxle_19 rfl (lv_at hl 3 rfl) ?_
  have hPc : va_P (dC, dI) vwCl ([(r_4, .inr (iX1, [.long ((afF (v (rtA st bc i)) tu k).1), .long ((afF (v (rtA st bc i)) tu k).2)]))]) _ := hT.sub [0] rfl
  have hFc := frZ hS hA
  refine va_calll (va_runV (As := [.int b]) (rest := []) ⟨hx, hb, hml, hown, hts⟩ (c_X1_told l dC dI cI cF tr (H).size r_4 ((afF (v (rtA st bc i)) tu k).1) ((afF (v (rtA st bc i)) tu k).2) b) (cwV 1 hts gX5_ofAxle_X1_told rfl rfl rfl (by decide +kernel) ⟨Nat.le_of_ble_eq_true rfl, Nat.le_of_ble_eq_true rfl⟩) ⟨cBl, (va_recv hK hPc (ci := iX1) (q0 := 0) rfl rfl), (cPre hPc hK hN)⟩ rfl rfl hl.1 rfl (lv_room (Nat.le_of_ble_eq_true rfl)) dX5_ofAxle_20 ⟨(Nat.le_of_ble_eq_true rfl), (Nat.le_of_ble_eq_true rfl)⟩) hS (fun q _ h => hFc q h) hFc (fun r_5 u t H1 locs ht hvm hw_r_5 hB hz1 hk1 hS => ?_)
  refine W.widen (k := 2) (n := 4) (Nat.le_refl _) (Nat.le_refl _) ?_
  have hP := keepP hP hk1
  have hR := keepP hR hk1
  have hT := keepP hT hk1
  generalize H1 = H at hP hR hT hS ⊢
  have hP : va_P (dC, dI) vwCl ([]) H := hP
  try dsimp only at hw_r_5
  subst hw_r_5
  refine W.widen (k := 2) (n := 4) (by omega) (by omega) ?_
  exact W.lret (v := if b = 0 then ((afF (v (rtA st bc i)) tu k).2) else ((afF (v (rtA st bc i)) tu k).1)) hx hb hr (fun t ht hW => ⟨⟨if b = 0 then ((afF (v (rtA st bc i)) tu k).2) else ((afF (v (rtA st bc i)) tu k).1), (), rfl, rfl, trivial⟩, hS.F ht⟩) hS.2.2 dX5_ofAxle_23

set_option maxHeartbeats 4000000 in
set_option maxRecDepth 100000 in
theorem c_p_X5_ofWheel (l : Launch) (dC : Nat → ClassId) (dI : Nat → Nat → Nat) (cI cF : ClassId) (tr : List (ClassId × FieldType)) (sz : Nat) (o : Nat) (ce : Nat) (lu : Nat) (cl : Nat) (se : Nat) (tu : Int32) (ja : Int32) (re : Int32) (g : Nat) (n : Nat) (xa : Nat) (xt : Nat) (xm : Nat) (wh : Nat) (st : Nat) (xb : Nat) (xc : Nat) (ax : Nat → Int32) (te : Nat → Int32) (me : Nat → Int32) (bc : Nat → Option Nat) (i : Int32) (k : Int32) (hi : ¬ withinF i 0 (nI n - 1) = 0) (hk : ¬ withinF k 0 3 = 0) : Met l yX5_ofWheel wsX5_ofWheel ({ frames := 2, cells := 0, slots := 0, locals := 43 } : Room) (cPc dC dI ((cI, .int) :: (cF, .object RX1) :: tr) sz ([(o, .inr (iX5, [.ref g, .ref ce, .ref lu, .ref cl, .ref se, .int tu, .int ja, .int re])), (g, .inr (iX2, [.int (nI n), .ref xa, .ref xt, .ref xm, .ref wh, .ref st, .ref xb, .ref xc])), (xa, .inl (cI, 12, .inl (ax))), (xt, .inl (cI, 12, .inl (te))), (xm, .inl (cI, 12, .inl (me))), (xb, .inl (cF, 7, .inr (.inr (.inr (.inr (bc))))))]) [.ref o, .int i, .int k]) (va_Qi (fun (r : Int32) (_ : Unit) => r = owF ax te me bc i k) (fun _ _ => True) (va_A ([]) sz)) 0 0 (va_A ([]) sz) := by
  refine Met.ofW (cc := cX5_ofWheel) (maxL := 3) (ret := (some .int)) (by decide) rfl ?_
  intro p e s m args below meth c s₁ B hml hv
  obtain ⟨rfl, hsz, hP, hK, hN⟩ := hv
  have hx := B.exec
  have hb := B.bytes
  have hr := B.returns
  have hts := atoms_spec (ws := wsX5_ofWheel) B.pre
  have hown : s.vm.findClass RX5 = some m.cls := findClass_of_methodNamed B.named
  have hlocks := B.notSynchronized
  subst hsz
  generalize hAe : va_A [] s.heap.size = A
  have hA : ∀ q : Nat, s.heap.size ≤ q → A q := fun q h => by rw [← hAe]; exact Or.inr h
  have hS : va_S A s.heap s.heap [] := va_S.rf
  have hAn : ∀ q : Nat, q < s.heap.size → ¬ A q := fun q h => by rw [← hAe]; exact notZ h
  have hAg : ∀ q : Nat, A q → s.heap.size ≤ q := fun q h => geZ (hAe ▸ h)
  have hR0 : va_P (dC, dI) vwCl ([(o, .inr (iX5, [.ref g, .ref ce, .ref lu, .ref cl, .ref se, .int tu, .int ja, .int re])), (g, .inr (iX2, [.int (nI n), .ref xa, .ref xt, .ref xm, .ref wh, .ref st, .ref xb, .ref xc])), (xa, .inl (cI, 12, .inl (ax))), (xt, .inl (cI, 12, .inl (te))), (xm, .inl (cI, 12, .inl (me))), (xb, .inl (cF, 7, .inr (.inr (.inr (.inr (bc))))))]) s.heap := hP
  have hR : va_P (dC, dI) vwCl ([(o, .inr (iX5, [.ref g, .ref ce, .ref lu, .ref cl, .ref se, .int tu, .int ja, .int re])), (g, .inr (iX2, [.int (nI n), .ref xa, .ref xt, .ref xm, .ref wh, .ref st, .ref xb, .ref xc])), (xa, .inl (cI, 12, .inl (ax))), (xt, .inl (cI, 12, .inl (te))), (xm, .inl (cI, 12, .inl (me))), (xb, .inl (cF, 7, .inr (.inr (.inr (.inr (bc))))))]) s.heap := hP
  have hP : va_P (dC, dI) vwCl [] s.heap := fun k q h => by simp at h
  have hD : va_D A [] := ⟨fun i j p q h => by simp at h, fun k q h => by simp at h⟩
  have hl := lv_entry ([.ref o, .int i, .int k]) (n := 3) (Nat.le_of_ble_eq_true rfl)
  rw [lg_entry_eq]
  generalize (lg_sl ([.ref o, .int i, .int k]) ++ List.replicate (3 - (lg_sl ([.ref o, .int i, .int k])).length) Slot.unset).toArray = ls at hl ⊢
  have hl : lv_has ls 3 [(0, .ref o), (1, .int i), (2, .int k)] := hl
  have hfl_10 := hts (.fieldLink RX5 10 "Greenwheels" "gearing" "LGreenwheels$Gearing;") (by decide +kernel)
  have hin_X5 : ∀ w ∈ u_ws RX5 TX5 8, w ∈ wsX5_ofWheel := by decide +kernel
  refine lv_aload_n hx hb dX5_ofWheel_0 rfl (lv_at hl 0 rfl) ?_
  refine lv_iload_n hx hb dX5_ofWheel_1 rfl (lv_at hl 1 rfl) ?_
  have hPc : va_P (dC, dI) vwCl ([(o, .inr (iX5, [.ref g, .ref ce, .ref lu, .ref cl, .ref se, .int tu, .int ja, .int re])), (g, .inr (iX2, [.int (nI n), .ref xa, .ref xt, .ref xm, .ref wh, .ref st, .ref xb, .ref xc]))]) _ := hR.sub [0, 1] rfl
  have hFc := frZ hS hA
  refine va_callv (va_runV (As := [.int i]) (rest := []) ⟨hx, hb, hml, hown, hts⟩ (c_p_X5_demandWheel l dC dI cI cF tr (s.heap).size o ce lu cl se tu ja re g n xa xt xm wh st xb xc i (by assumption)) (cwV 1 hts gX5_ofWheel_X5_demandWheel rfl rfl rfl (by decide +kernel) ⟨Nat.le_of_ble_eq_true rfl, Nat.le_of_ble_eq_true rfl⟩) ⟨cBl, (va_recv hK hPc (ci := iX5) (q0 := 0) rfl rfl), (cPre hPc hK hN)⟩ rfl rfl hl.1 rfl (lv_room (Nat.le_of_ble_eq_true rfl)) dX5_ofWheel_2 ⟨(Nat.le_of_ble_eq_true rfl), (Nat.le_of_ble_eq_true rfl)⟩) hS (fun q _ h => hFc q h) hFc (fun u t H1 locs ht hvm hw_r_1 hB hz1 hk1 hS => ?_)
  refine W.widen (k := 0) (n := 0) (Nat.le_refl _) (Nat.le_refl _) ?_
  have hP := keepP hP hk1
  have hR := keepP hR hk1
  generalize H1 = H at hP hR hS ⊢
  have hP : va_P (dC, dI) vwCl ([]) H := hP
  try dsimp only at hw_r_1
  refine lv_iload_n hx hb dX5_ofWheel_5 rfl (lv_at hl 2 rfl) ?_
  refine lv_iconst (v := 0) hx hb dX5_ofWheel_6 (by decide) ?_
  refine lv_iconst (v := 3) hx hb dX5_ofWheel_7 (by decide) ?_
  have hPc : va_P (dC, dI) vwCl [] H := nilP
  have hFc := frZ hS hA
  refine va_calli (va_runS (As := [.int k, .int 0, .int 3]) (rest := []) ⟨hx, hb, hml, hown, hts⟩ (c_X5_isWithin l dC dI cI cF tr (H).size k 0 3) (va_cwS 3 hts gX5_ofWheel_X5_isWithin rfl rfl rfl (by decide +kernel) ⟨Nat.le_of_ble_eq_true rfl, Nat.le_of_ble_eq_true rfl⟩) ⟨cBl, (cPre hPc hK hN)⟩ rfl rfl hl.1 rfl (lv_room (Nat.le_of_ble_eq_true rfl)) dX5_ofWheel_8 ⟨(Nat.le_of_ble_eq_true rfl), (Nat.le_of_ble_eq_true rfl)⟩) hS (fun q _ h => hFc q h) hFc (fun r_2 u t H1 locs ht hvm hw_r_2 hB hz1 hk1 hS => ?_)
  refine W.widen (k := 0) (n := 0) (Nat.le_refl _) (Nat.le_refl _) ?_
  have hP := keepP hP hk1
  have hR := keepP hR hk1
  generalize H1 = H at hP hR hS ⊢
  have hP : va_P (dC, dI) vwCl ([]) H := hP
  try dsimp only at hw_r_2
  subst hw_r_2
  have hPc : va_P (dC, dI) vwCl [] H := nilP
  have hFc := frZ hS hA
  refine va_callv (va_runS (As := [.int (withinF k 0 3)]) (rest := []) ⟨hx, hb, hml, hown, hts⟩ (c_p_X5_demandArgument l dC dI cI cF tr (H).size (withinF k 0 3) (by assumption)) (va_cwS 1 hts gX5_ofWheel_X5_demandArgument rfl rfl rfl (by decide +kernel) ⟨Nat.le_of_ble_eq_true rfl, Nat.le_of_ble_eq_true rfl⟩) ⟨cBl, (cPre hPc hK hN)⟩ rfl rfl hl.1 rfl (lv_room (Nat.le_of_ble_eq_true rfl)) dX5_ofWheel_11 ⟨(Nat.le_of_ble_eq_true rfl), (Nat.le_of_ble_eq_true rfl)⟩) hS (fun q _ h => hFc q h) hFc (fun u t H1 locs ht hvm hw_r_3 hB hz1 hk1 hS => ?_)
  refine W.widen (k := 0) (n := 0) (Nat.le_refl _) (Nat.le_refl _) ?_
  have hP := keepP hP hk1
  have hR := keepP hR hk1
  generalize H1 = H at hP hR hS ⊢
  have hP : va_P (dC, dI) vwCl ([]) H := hP
  try dsimp only at hw_r_3
  refine lv_iload_n hx hb dX5_ofWheel_14 rfl (lv_at hl 2 rfl) ?_
  by_cases c_4 : k = 0
  · refine lv_tableIn (off := 25) (tgt := 40) hx hb dX5_ofWheel_15 (by rw [c_4]; decide) (by rw [c_4]; decide) (by rw [c_4]; rfl) (by decide) ?_
    refine lv_aload_n hx hb dX5_ofWheel_40 rfl (lv_at hl 0 rfl) ?_
    refine va_get (D := (dC, dI)) (ci := iX5) (v := .ref g) (C := RX5) (T := TX5) (N := 8) hx hb hts hin_X5 hown hK hR 0 rfl rfl 0 (by decide) hfl_10 (fun _ h9 => h9) rfl dX5_ofWheel_41 ?_
    refine lv_iload_n hx hb dX5_ofWheel_44 rfl (lv_at hl 1 rfl) ?_
    have hPc : va_P (dC, dI) vwCl ([(g, .inr (iX2, [.int (nI n), .ref xa, .ref xt, .ref xm, .ref wh, .ref st, .ref xb, .ref xc])), (xa, .inl (cI, 12, .inl (ax)))]) _ := hR.sub [1, 2] rfl
    have hFc := frZ hS hA
    refine va_calli (va_runV (As := [.int i]) (rest := []) ⟨hx, hb, hml, hown, hts⟩ (c_X2_axleOf l dC dI cI cF tr (H).size g n xa xt xm wh st xb xc ax i) (cwV 1 hts gX5_ofWheel_X2_axleOf rfl rfl rfl (by decide +kernel) ⟨Nat.le_of_ble_eq_true rfl, Nat.le_of_ble_eq_true rfl⟩) ⟨cBl, (va_recv hK hPc (ci := iX2) (q0 := 0) rfl rfl), (cPre hPc hK hN)⟩ rfl rfl hl.1 rfl (lv_room (Nat.le_of_ble_eq_true rfl)) dX5_ofWheel_45 ⟨(Nat.le_of_ble_eq_true rfl), (Nat.le_of_ble_eq_true rfl)⟩) hS (fun q _ h => hFc q h) hFc (fun r_5 u t H1 locs ht hvm hw_r_5 hB hz1 hk1 hS => ?_)
    refine W.widen (k := 0) (n := 0) (Nat.le_refl _) (Nat.le_refl _) ?_
    have hP := keepP hP hk1
    have hR := keepP hR hk1
    generalize H1 = H at hP hR hS ⊢
    have hP : va_P (dC, dI) vwCl ([]) H := hP
    try dsimp only at hw_r_5
    subst hw_r_5
    refine W.widen (k := 0) (n := 0) (by omega) (by omega) ?_
    exact W.iret (v := atF 12 ax i) hx hb hr (fun t ht hW => ⟨⟨atF 12 ax i, (), rfl, (by first | (simp [owF, c_4]; done) | contradiction), trivial⟩, hS.F ht⟩) hS.2.2 dX5_ofWheel_48
  by_cases c_6 : k = 1
  · refine lv_tableIn (off := 34) (tgt := 49) hx hb dX5_ofWheel_15 (by rw [c_6]; decide) (by rw [c_6]; decide) (by rw [c_6]; rfl) (by decide) ?_
    refine lv_aload_n hx hb dX5_ofWheel_49 rfl (lv_at hl 0 rfl) ?_
    refine va_get (D := (dC, dI)) (ci := iX5) (v := .ref g) (C := RX5) (T := TX5) (N := 8) hx hb hts hin_X5 hown hK hR 0 rfl rfl 0 (by decide) hfl_10 (fun _ h9 => h9) rfl dX5_ofWheel_50 ?_
    refine lv_iload_n hx hb dX5_ofWheel_53 rfl (lv_at hl 1 rfl) ?_
    have hPc : va_P (dC, dI) vwCl ([(g, .inr (iX2, [.int (nI n), .ref xa, .ref xt, .ref xm, .ref wh, .ref st, .ref xb, .ref xc])), (xt, .inl (cI, 12, .inl (te)))]) _ := hR.sub [1, 3] rfl
    have hFc := frZ hS hA
    refine va_calli (va_runV (As := [.int i]) (rest := []) ⟨hx, hb, hml, hown, hts⟩ (c_X2_teethOf l dC dI cI cF tr (H).size g n xa xt xm wh st xb xc te i) (cwV 1 hts gX5_ofWheel_X2_teethOf rfl rfl rfl (by decide +kernel) ⟨Nat.le_of_ble_eq_true rfl, Nat.le_of_ble_eq_true rfl⟩) ⟨cBl, (va_recv hK hPc (ci := iX2) (q0 := 0) rfl rfl), (cPre hPc hK hN)⟩ rfl rfl hl.1 rfl (lv_room (Nat.le_of_ble_eq_true rfl)) dX5_ofWheel_54 ⟨(Nat.le_of_ble_eq_true rfl), (Nat.le_of_ble_eq_true rfl)⟩) hS (fun q _ h => hFc q h) hFc (fun r_7 u t H1 locs ht hvm hw_r_7 hB hz1 hk1 hS => ?_)
    refine W.widen (k := 0) (n := 0) (Nat.le_refl _) (Nat.le_refl _) ?_
    have hP := keepP hP hk1
    have hR := keepP hR hk1
    generalize H1 = H at hP hR hS ⊢
    have hP : va_P (dC, dI) vwCl ([]) H := hP
    try dsimp only at hw_r_7
    subst hw_r_7
    refine W.widen (k := 0) (n := 0) (by omega) (by omega) ?_
    exact W.iret (v := atF 12 te i) hx hb hr (fun t ht hW => ⟨⟨atF 12 te i, (), rfl, (by first | (simp [owF, c_4, c_6]; done) | contradiction), trivial⟩, hS.F ht⟩) hS.2.2 dX5_ofWheel_57
  by_cases c_8 : k = 2
  · refine lv_tableIn (off := 43) (tgt := 58) hx hb dX5_ofWheel_15 (by rw [c_8]; decide) (by rw [c_8]; decide) (by rw [c_8]; rfl) (by decide) ?_
    refine lv_aload_n hx hb dX5_ofWheel_58 rfl (lv_at hl 0 rfl) ?_
    refine va_get (D := (dC, dI)) (ci := iX5) (v := .ref g) (C := RX5) (T := TX5) (N := 8) hx hb hts hin_X5 hown hK hR 0 rfl rfl 0 (by decide) hfl_10 (fun _ h9 => h9) rfl dX5_ofWheel_59 ?_
    refine lv_iload_n hx hb dX5_ofWheel_62 rfl (lv_at hl 1 rfl) ?_
    have hPc : va_P (dC, dI) vwCl ([(g, .inr (iX2, [.int (nI n), .ref xa, .ref xt, .ref xm, .ref wh, .ref st, .ref xb, .ref xc])), (xm, .inl (cI, 12, .inl (me)))]) _ := hR.sub [1, 4] rfl
    have hFc := frZ hS hA
    refine va_calli (va_runV (As := [.int i]) (rest := []) ⟨hx, hb, hml, hown, hts⟩ (c_X2_meshedWith l dC dI cI cF tr (H).size g n xa xt xm wh st xb xc me i) (cwV 1 hts gX5_ofWheel_X2_meshedWith rfl rfl rfl (by decide +kernel) ⟨Nat.le_of_ble_eq_true rfl, Nat.le_of_ble_eq_true rfl⟩) ⟨cBl, (va_recv hK hPc (ci := iX2) (q0 := 0) rfl rfl), (cPre hPc hK hN)⟩ rfl rfl hl.1 rfl (lv_room (Nat.le_of_ble_eq_true rfl)) dX5_ofWheel_63 ⟨(Nat.le_of_ble_eq_true rfl), (Nat.le_of_ble_eq_true rfl)⟩) hS (fun q _ h => hFc q h) hFc (fun r_9 u t H1 locs ht hvm hw_r_9 hB hz1 hk1 hS => ?_)
    refine W.widen (k := 0) (n := 0) (Nat.le_refl _) (Nat.le_refl _) ?_
    have hP := keepP hP hk1
    have hR := keepP hR hk1
    generalize H1 = H at hP hR hS ⊢
    have hP : va_P (dC, dI) vwCl ([]) H := hP
    try dsimp only at hw_r_9
    subst hw_r_9
    refine W.widen (k := 0) (n := 0) (by omega) (by omega) ?_
    exact W.iret (v := atF 12 me i) hx hb hr (fun t ht hW => ⟨⟨atF 12 me i, (), rfl, (by first | (simp [owF, c_4, c_6, c_8]; done) | contradiction), trivial⟩, hS.F ht⟩) hS.2.2 dX5_ofWheel_66
  refine lv_tableOut (tgt := 67) hx hb dX5_ofWheel_15 (by have a0 := lv_neT (a := 0) c_4 rfl; have a1 := lv_neT (a := 1) c_6 rfl; have a2 := lv_neT (a := 2) c_8 rfl; omega) (by decide) ?_
  refine lv_aload_n hx hb dX5_ofWheel_67 rfl (lv_at hl 0 rfl) ?_
  refine va_get (D := (dC, dI)) (ci := iX5) (v := .ref g) (C := RX5) (T := TX5) (N := 8) hx hb hts hin_X5 hown hK hR 0 rfl rfl 0 (by decide) hfl_10 (fun _ h9 => h9) rfl dX5_ofWheel_68 ?_
  refine lv_aload_n hx hb dX5_ofWheel_71 rfl (lv_at hl 0 rfl) ?_
  refine va_get (D := (dC, dI)) (ci := iX5) (v := .ref g) (C := RX5) (T := TX5) (N := 8) hx hb hts hin_X5 hown hK hR 0 rfl rfl 0 (by decide) hfl_10 (fun _ h9 => h9) rfl dX5_ofWheel_72 ?_
  refine lv_iload_n hx hb dX5_ofWheel_75 rfl (lv_at hl 1 rfl) ?_
  have hPc : va_P (dC, dI) vwCl ([(g, .inr (iX2, [.int (nI n), .ref xa, .ref xt, .ref xm, .ref wh, .ref st, .ref xb, .ref xc])), (xa, .inl (cI, 12, .inl (ax)))]) _ := hR.sub [1, 2] rfl
  have hFc := frZ hS hA
  refine va_calli (va_runV (As := [.int i]) (rest := [.ref g]) ⟨hx, hb, hml, hown, hts⟩ (c_X2_axleOf l dC dI cI cF tr (H).size g n xa xt xm wh st xb xc ax i) (cwV 1 hts gX5_ofWheel_X2_axleOf rfl rfl rfl (by decide +kernel) ⟨Nat.le_of_ble_eq_true rfl, Nat.le_of_ble_eq_true rfl⟩) ⟨cBl, (va_recv hK hPc (ci := iX2) (q0 := 0) rfl rfl), (cPre hPc hK hN)⟩ rfl rfl hl.1 rfl (lv_room (Nat.le_of_ble_eq_true rfl)) dX5_ofWheel_76 ⟨(Nat.le_of_ble_eq_true rfl), (Nat.le_of_ble_eq_true rfl)⟩) hS (fun q _ h => hFc q h) hFc (fun r_10 u t H1 locs ht hvm hw_r_10 hB hz1 hk1 hS => ?_)
  refine W.widen (k := 0) (n := 0) (Nat.le_refl _) (Nat.le_refl _) ?_
  have hP := keepP hP hk1
  have hR := keepP hR hk1
  generalize H1 = H at hP hR hS ⊢
  have hP : va_P (dC, dI) vwCl ([]) H := hP
  try dsimp only at hw_r_10
  subst hw_r_10
  have hPc : va_P (dC, dI) vwCl ([(g, .inr (iX2, [.int (nI n), .ref xa, .ref xt, .ref xm, .ref wh, .ref st, .ref xb, .ref xc])), (xb, .inl (cF, 7, .inr (.inr (.inr (.inr (bc))))))]) _ := hR.sub [1, 5] rfl
  have hFc := frZ hS hA
  refine va_calli (va_runV (As := [.int (atF 12 ax i)]) (rest := []) ⟨hx, hb, hml, hown, hts⟩ (c_X2_isMoved l dC dI cI cF tr (H).size g n xa xt xm wh st xb xc bc (atF 12 ax i)) (cwV 1 hts gX5_ofWheel_X2_isMoved rfl rfl rfl (by decide +kernel) ⟨Nat.le_of_ble_eq_true rfl, Nat.le_of_ble_eq_true rfl⟩) ⟨cBl, (va_recv hK hPc (ci := iX2) (q0 := 0) rfl rfl), (cPre hPc hK hN)⟩ rfl rfl hl.1 rfl (lv_room (Nat.le_of_ble_eq_true rfl)) dX5_ofWheel_79 ⟨(Nat.le_of_ble_eq_true rfl), (Nat.le_of_ble_eq_true rfl)⟩) hS (fun q _ h => hFc q h) hFc (fun r_11 u t H1 locs ht hvm hw_r_11 hB hz1 hk1 hS => ?_)
  refine W.widen (k := 0) (n := 0) (Nat.le_refl _) (Nat.le_refl _) ?_
  have hP := keepP hP hk1
  have hR := keepP hR hk1
  generalize H1 = H at hP hR hS ⊢
  have hP : va_P (dC, dI) vwCl ([]) H := hP
  try dsimp only at hw_r_11
  subst hw_r_11
  refine lv_if_eq (tgt := 89) hx hb dX5_ofWheel_82 (by decide) (fun c_12 => ?_) (fun c_12 => ?_)
  · refine lv_iconst (v := 0) hx hb dX5_ofWheel_89 (by decide) ?_
    refine W.widen (k := 0) (n := 0) (by omega) (by omega) ?_
    exact W.iret (v := 0) hx hb hr (fun t ht hW => ⟨⟨0, (), rfl, (by have c9 := c_12; simp at c9; simp [owF, c_4, c_6, c_8, c9]), trivial⟩, hS.F ht⟩) hS.2.2 dX5_ofWheel_90
  · refine lv_iconst (v := 1) hx hb dX5_ofWheel_85 (by decide) ?_
    refine lv_goto (tgt := 90) hx hb dX5_ofWheel_86 (by decide) ?_
    refine W.widen (k := 0) (n := 0) (by omega) (by omega) ?_
    exact W.iret (v := 1) hx hb hr (fun t ht hW => ⟨⟨1, (), rfl, (by have c9 := c_12; simp at c9; simp [owF, c_4, c_6, c_8, c9]), trivial⟩, hS.F ht⟩) hS.2.2 dX5_ofWheel_90

set_option maxHeartbeats 4000000 in
set_option maxRecDepth 100000 in
theorem c_p_X5_passed (l : Launch) (dC : Nat → ClassId) (dI : Nat → Nat → Nat) (cI cF : ClassId) (tr : List (ClassId × FieldType)) (sz : Nat) (o : Nat) (ce : Nat) (lu : Nat) (cl : Nat) (se : Nat) (tu : Int32) (ja : Int32) (re : Int32) (g : Nat) (n : Nat) (xa : Nat) (xt : Nat) (xm : Nat) (wh : Nat) (st : Nat) (xb : Nat) (xc : Nat) (ax : Nat → Int32) (te : Nat → Int32) (bc : Nat → Option Nat) (LP : List Nat) (v : Nat → Int64 × Int64) (i : Int32) (b : Int32) (hst : st ∈ LP) (hbc : ∀ k, k < 7 → ∀ a, bc k = some a → a ∈ LP) (hi : ¬ withinF i 0 (nI n - 1) = 0) : Met l yX5_passed wsX5_passed ({ frames := 4, cells := 1, slots := 2, locals := 101 } : Room) (cPc dC dI ((cI, .int) :: (cF, .object RX1) :: tr) sz ([(o, .inr (iX5, [.ref g, .ref ce, .ref lu, .ref cl, .ref se, .int tu, .int ja, .int re])), (g, .inr (iX2, [.int (nI n), .ref xa, .ref xt, .ref xm, .ref wh, .ref st, .ref xb, .ref xc])), (xa, .inl (cI, 12, .inl (ax))), (xt, .inl (cI, 12, .inl (te))), (xb, .inl (cF, 7, .inr (.inr (.inr (.inr (bc))))))] ++ va_pl LP (fe v)) [.ref o, .int i, .int b]) (va_Ql (fun (r : Int64) (_ : Unit) => r = if b = 0 then (paF (v (rtA st bc (atF 12 ax i))) tu (atF 12 te i)).2 else (paF (v (rtA st bc (atF 12 ax i))) tu (atF 12 te i)).1) (fun _ _ => True) (va_A ([]) sz)) 1 2 (va_A ([]) sz) := by
  refine Met.ofW (cc := cX5_passed) (maxL := 3) (ret := (some .long)) (by decide) rfl ?_
  intro p e s m args below meth c s₁ B hml hv
  obtain ⟨rfl, hsz, hP, hK, hN⟩ := hv
  have hx := B.exec
  have hb := B.bytes
  have hr := B.returns
  have hts := atoms_spec (ws := wsX5_passed) B.pre
  have hown : s.vm.findClass RX5 = some m.cls := findClass_of_methodNamed B.named
  have hlocks := B.notSynchronized
  subst hsz
  generalize hAe : va_A [] s.heap.size = A
  have hA : ∀ q : Nat, s.heap.size ≤ q → A q := fun q h => by rw [← hAe]; exact Or.inr h
  have hS : va_S A s.heap s.heap [] := va_S.rf
  have hAn : ∀ q : Nat, q < s.heap.size → ¬ A q := fun q h => by rw [← hAe]; exact notZ h
  have hAg : ∀ q : Nat, A q → s.heap.size ≤ q := fun q h => geZ (hAe ▸ h)
  have hR0 : va_P (dC, dI) vwCl ([(o, .inr (iX5, [.ref g, .ref ce, .ref lu, .ref cl, .ref se, .int tu, .int ja, .int re])), (g, .inr (iX2, [.int (nI n), .ref xa, .ref xt, .ref xm, .ref wh, .ref st, .ref xb, .ref xc])), (xa, .inl (cI, 12, .inl (ax))), (xt, .inl (cI, 12, .inl (te))), (xb, .inl (cF, 7, .inr (.inr (.inr (.inr (bc))))))] ++ va_pl LP (fe v)) s.heap := hP
  have hR : va_P (dC, dI) vwCl ([(o, .inr (iX5, [.ref g, .ref ce, .ref lu, .ref cl, .ref se, .int tu, .int ja, .int re])), (g, .inr (iX2, [.int (nI n), .ref xa, .ref xt, .ref xm, .ref wh, .ref st, .ref xb, .ref xc])), (xa, .inl (cI, 12, .inl (ax))), (xt, .inl (cI, 12, .inl (te))), (xb, .inl (cF, 7, .inr (.inr (.inr (.inr (bc))))))] ++ va_pl LP (fe v)) s.heap := hP
  have hP : va_P (dC, dI) vwCl [] s.heap := fun k q h => by simp at h
  have hD : va_D A [] := ⟨fun i j p q h => by simp at h, fun k q h => by simp at h⟩
  have hl := lv_entry ([.ref o, .int i, .int b]) (n := 3) (Nat.le_of_ble_eq_true rfl)
  rw [lg_entry_eq]
  generalize (lg_sl ([.ref o, .int i, .int b]) ++ List.replicate (3 - (lg_sl ([.ref o, .int i, .int b])).length) Slot.unset).toArray = ls at hl ⊢
  have hl : lv_has ls 3 [(0, .ref o), (1, .int i), (2, .int b)] := hl
  refine lv_aload_n hx hb dX5_passed_0 rfl (lv_at hl 0 rfl) ?_
  refine lv_iload_n hx hb dX5_passed_1 rfl (lv_at hl 1 rfl) ?_
  have hPc : va_P (dC, dI) vwCl ([(o, .inr (iX5, [.ref g, .ref ce, .ref lu, .ref cl, .ref se, .int tu, .int ja, .int re])), (g, .inr (iX2, [.int (nI n), .ref xa, .ref xt, .ref xm, .ref wh, .ref st, .ref xb, .ref xc]))]) _ := hR.sub [0, 1] rfl
  have hFc := frZ hS hA
  refine va_callv (va_runV (As := [.int i]) (rest := []) ⟨hx, hb, hml, hown, hts⟩ (c_p_X5_demandWheel l dC dI cI cF tr (s.heap).size o ce lu cl se tu ja re g n xa xt xm wh st xb xc i (by assumption)) (cwV 1 hts gX5_passed_X5_demandWheel rfl rfl rfl (by decide +kernel) ⟨Nat.le_of_ble_eq_true rfl, Nat.le_of_ble_eq_true rfl⟩) ⟨cBl, (va_recv hK hPc (ci := iX5) (q0 := 0) rfl rfl), (cPre hPc hK hN)⟩ rfl rfl hl.1 rfl (lv_room (Nat.le_of_ble_eq_true rfl)) dX5_passed_2 ⟨(Nat.le_of_ble_eq_true rfl), (Nat.le_of_ble_eq_true rfl)⟩) hS (fun q _ h => hFc q h) hFc (fun u t H1 locs ht hvm hw_r_1 hB hz1 hk1 hS => ?_)
  refine W.widen (k := 0) (n := 0) (Nat.le_refl _) (Nat.le_refl _) ?_
  have hP := keepP hP hk1
  have hR := keepP hR hk1
  generalize H1 = H at hP hR hS ⊢
  have hP : va_P (dC, dI) vwCl ([]) H := hP
  try dsimp only at hw_r_1
  refine lv_aload_n hx hb dX5_passed_5 rfl (lv_at hl 0 rfl) ?_
  refine lv_iload_n hx hb dX5_passed_6 rfl (lv_at hl 1 rfl) ?_
  have hPc : va_P (dC, dI) vwCl ([(o, .inr (iX5, [.ref g, .ref ce, .ref lu, .ref cl, .ref se, .int tu, .int ja, .int re])), (g, .inr (iX2, [.int (nI n), .ref xa, .ref xt, .ref xm, .ref wh, .ref st, .ref xb, .ref xc])), (xa, .inl (cI, 12, .inl (ax))), (xt, .inl (cI, 12, .inl (te))), (xb, .inl (cF, 7, .inr (.inr (.inr (.inr (bc))))))] ++ va_pl LP (fe v)) _ := hR.part [0, 1, 2, 3, 4] rfl
  have hFc := frZ hS hA
  have hz0 := hS.1
  refine va_callr (va_runV (As := [.int i]) (rest := []) ⟨hx, hb, hml, hown, hts⟩ (c_X5_passedBy l dC dI cI cF tr (H).size o ce lu cl se tu ja re g n xa xt xm wh st xb xc ax te bc LP v i (by assumption) (by assumption)) (cwV 1 hts gX5_passed_X5_passedBy rfl rfl rfl (by decide +kernel) ⟨Nat.le_of_ble_eq_true rfl, Nat.le_of_ble_eq_true rfl⟩) ⟨cBl, (va_recv hK hPc (ci := iX5) (q0 := 0) rfl rfl), (cPre hPc hK hN)⟩ rfl rfl hl.1 rfl (lv_room (Nat.le_of_ble_eq_true rfl)) dX5_passed_7 ⟨(Nat.le_of_ble_eq_true rfl), (Nat.le_of_ble_eq_true rfl)⟩) hS (fun q _ h => hFc q h) hFc (fun u r_2 t H1 locs ht hvm hw_r_2 hB hz1 hk1 hS => ?_)
  refine W.widen (k := 1) (n := 2) (by omega) (by omega) ?_
  have hP := keepP hP hk1
  have hR := keepP hR hk1
  obtain ⟨hB, hBn⟩ := hB
  rw [ht] at hB
  have hGe_r_2 : s.heap.size ≤ r_2 := Nat.le_trans hz0 hBn
  have hT : va_P (dC, dI) vwCl ([(r_2, .inr (iX1, [.long ((paF (v (rtA st bc (atF 12 ax i))) tu (atF 12 te i)).1), .long ((paF (v (rtA st bc (atF 12 ax i))) tu (atF 12 te i)).2)]))]) H1 := hB
  generalize H1 = H at hP hR hT hS ⊢
  have hP : va_P (dC, dI) vwCl ([]) H := hP
  try dsimp only at hw_r_2
  refine lv_iload_n hx hb dX5_passed_10 rfl (lv_at hl 2 rfl) ?_
  have hPc : va_P (dC, dI) vwCl ([(r_2, .inr (iX1, [.long ((paF (v (rtA st bc (atF 12 ax i))) tu (atF 12 te i)).1), .long ((paF (v (rtA st bc (atF 12 ax i))) tu (atF 12 te i)).2)]))]) _ := hT.sub [0] rfl
  have hFc := frZ hS hA
  refine va_calll (va_runV (As := [.int b]) (rest := []) ⟨hx, hb, hml, hown, hts⟩ (c_X1_told l dC dI cI cF tr (H).size r_2 ((paF (v (rtA st bc (atF 12 ax i))) tu (atF 12 te i)).1) ((paF (v (rtA st bc (atF 12 ax i))) tu (atF 12 te i)).2) b) (cwV 1 hts gX5_passed_X1_told rfl rfl rfl (by decide +kernel) ⟨Nat.le_of_ble_eq_true rfl, Nat.le_of_ble_eq_true rfl⟩) ⟨cBl, (va_recv hK hPc (ci := iX1) (q0 := 0) rfl rfl), (cPre hPc hK hN)⟩ rfl rfl hl.1 rfl (lv_room (Nat.le_of_ble_eq_true rfl)) dX5_passed_11 ⟨(Nat.le_of_ble_eq_true rfl), (Nat.le_of_ble_eq_true rfl)⟩) hS (fun q _ h => hFc q h) hFc (fun r_3 u t H1 locs ht hvm hw_r_3 hB hz1 hk1 hS => ?_)
  refine W.widen (k := 1) (n := 2) (Nat.le_refl _) (Nat.le_refl _) ?_
  have hP := keepP hP hk1
  have hR := keepP hR hk1
  have hT := keepP hT hk1
  generalize H1 = H at hP hR hT hS ⊢
  have hP : va_P (dC, dI) vwCl ([]) H := hP
  try dsimp only at hw_r_3
  subst hw_r_3
  refine W.widen (k := 1) (n := 2) (by omega) (by omega) ?_
  exact W.lret (v := if b = 0 then ((paF (v (rtA st bc (atF 12 ax i))) tu (atF 12 te i)).2) else ((paF (v (rtA st bc (atF 12 ax i))) tu (atF 12 te i)).1)) hx hb hr (fun t ht hW => ⟨⟨if b = 0 then ((paF (v (rtA st bc (atF 12 ax i))) tu (atF 12 te i)).2) else ((paF (v (rtA st bc (atF 12 ax i))) tu (atF 12 te i)).1), (), rfl, rfl, trivial⟩, hS.F ht⟩) hS.2.2 dX5_passed_14

set_option maxHeartbeats 4000000 in
set_option maxRecDepth 100000 in
theorem c_X5_period (l : Launch) (dC : Nat → ClassId) (dI : Nat → Nat → Nat) (cI cF : ClassId) (tr : List (ClassId × FieldType)) (sz : Nat) (o : Nat) (ce : Nat) (lu : Nat) (cl : Nat) (se : Nat) (tu : Int32) (ja : Int32) (re : Int32) (g : Nat) (n : Nat) (xa : Nat) (xt : Nat) (xm : Nat) (wh : Nat) (st : Nat) (xb : Nat) (xc : Nat) (bc : Nat → Option Nat) (LP : List Nat) (v : Nat → Int64 × Int64) (hst : st ∈ LP) (hbc : ∀ k, k < 7 → ∀ a, bc k = some a → a ∈ LP) : Met l yX5_period wsX5_period ({ frames := 3, cells := 0, slots := 0, locals := 70 } : Room) (cPc dC dI ((cI, .int) :: (cF, .object RX1) :: tr) sz ([(o, .inr (iX5, [.ref g, .ref ce, .ref lu, .ref cl, .ref se, .int tu, .int ja, .int re])), (g, .inr (iX2, [.int (nI n), .ref xa, .ref xt, .ref xm, .ref wh, .ref st, .ref xb, .ref xc])), (xb, .inl (cF, 7, .inr (.inr (.inr (.inr (bc))))))] ++ va_pl LP (fe v)) [.ref o]) (va_Ql (fun (r : Int64) (_ : Unit) => r = ptL st bc v 7) (fun _ _ => True) (va_A ([]) sz)) 0 0 (va_A ([]) sz) := by
  refine Met.ofW (cc := cX5_period) (maxL := 1) (ret := (some .long)) (by decide) rfl ?_
  intro p e s m args below meth c s₁ B hml hv
  obtain ⟨rfl, hsz, hP, hK, hN⟩ := hv
  have hx := B.exec
  have hb := B.bytes
  have hr := B.returns
  have hts := atoms_spec (ws := wsX5_period) B.pre
  have hown : s.vm.findClass RX5 = some m.cls := findClass_of_methodNamed B.named
  have hlocks := B.notSynchronized
  subst hsz
  generalize hAe : va_A [] s.heap.size = A
  have hA : ∀ q : Nat, s.heap.size ≤ q → A q := fun q h => by rw [← hAe]; exact Or.inr h
  have hS : va_S A s.heap s.heap [] := va_S.rf
  have hAn : ∀ q : Nat, q < s.heap.size → ¬ A q := fun q h => by rw [← hAe]; exact notZ h
  have hAg : ∀ q : Nat, A q → s.heap.size ≤ q := fun q h => geZ (hAe ▸ h)
  have hR0 : va_P (dC, dI) vwCl ([(o, .inr (iX5, [.ref g, .ref ce, .ref lu, .ref cl, .ref se, .int tu, .int ja, .int re])), (g, .inr (iX2, [.int (nI n), .ref xa, .ref xt, .ref xm, .ref wh, .ref st, .ref xb, .ref xc])), (xb, .inl (cF, 7, .inr (.inr (.inr (.inr (bc))))))] ++ va_pl LP (fe v)) s.heap := hP
  have hR : va_P (dC, dI) vwCl ([(o, .inr (iX5, [.ref g, .ref ce, .ref lu, .ref cl, .ref se, .int tu, .int ja, .int re])), (g, .inr (iX2, [.int (nI n), .ref xa, .ref xt, .ref xm, .ref wh, .ref st, .ref xb, .ref xc])), (xb, .inl (cF, 7, .inr (.inr (.inr (.inr (bc))))))] ++ va_pl LP (fe v)) s.heap := hP
  have hP : va_P (dC, dI) vwCl [] s.heap := fun k q h => by simp at h
  have hD : va_D A [] := ⟨fun i j p q h => by simp at h, fun k q h => by simp at h⟩
  have hl := lv_entry ([.ref o]) (n := 1) (Nat.le_of_ble_eq_true rfl)
  rw [lg_entry_eq]
  generalize (lg_sl ([.ref o]) ++ List.replicate (1 - (lg_sl ([.ref o])).length) Slot.unset).toArray = ls at hl ⊢
  have hl : lv_has ls 1 [(0, .ref o)] := hl
  have hfl_10 := hts (.fieldLink RX5 10 "Greenwheels" "gearing" "LGreenwheels$Gearing;") (by decide +kernel)
  have hin_X5 : ∀ w ∈ u_ws RX5 TX5 8, w ∈ wsX5_period := by decide +kernel
  refine lv_aload_n hx hb dX5_period_0 rfl (lv_at hl 0 rfl) ?_
  refine va_get (D := (dC, dI)) (ci := iX5) (v := .ref g) (C := RX5) (T := TX5) (N := 8) hx hb hts hin_X5 hown hK hR 0 rfl rfl 0 (by decide) hfl_10 (fun _ h9 => h9) rfl dX5_period_1 ?_
  have hPc : va_P (dC, dI) vwCl ([(g, .inr (iX2, [.int (nI n), .ref xa, .ref xt, .ref xm, .ref wh, .ref st, .ref xb, .ref xc])), (xb, .inl (cF, 7, .inr (.inr (.inr (.inr (bc))))))] ++ va_pl LP (fe v)) _ := hR.part [1, 2] rfl
  have hFc := frZ hS hA
  refine va_calll (va_runV (As := []) (rest := []) ⟨hx, hb, hml, hown, hts⟩ (c_X2_turnsToReturn l dC dI cI cF tr (s.heap).size g n xa xt xm wh st xb xc bc LP v (by assumption) (by assumption)) (cwV 0 hts gX5_period_X2_turnsToReturn rfl rfl rfl (by decide +kernel) ⟨Nat.le_of_ble_eq_true rfl, Nat.le_of_ble_eq_true rfl⟩) ⟨cBl, (va_recv hK hPc (ci := iX2) (q0 := 0) rfl rfl), (cPre hPc hK hN)⟩ rfl rfl hl.1 rfl (lv_room (Nat.le_of_ble_eq_true rfl)) dX5_period_4 ⟨(Nat.le_of_ble_eq_true rfl), (Nat.le_of_ble_eq_true rfl)⟩) hS (fun q _ h => hFc q h) hFc (fun r_1 u t H1 locs ht hvm hw_r_1 hB hz1 hk1 hS => ?_)
  refine W.widen (k := 0) (n := 0) (Nat.le_refl _) (Nat.le_refl _) ?_
  have hP := keepP hP hk1
  have hR := keepP hR hk1
  generalize H1 = H at hP hR hS ⊢
  have hP : va_P (dC, dI) vwCl ([]) H := hP
  try dsimp only at hw_r_1
  subst hw_r_1
  refine W.widen (k := 0) (n := 0) (by omega) (by omega) ?_
  exact W.lret (v := ptL st bc v 7) hx hb hr (fun t ht hW => ⟨⟨ptL st bc v 7, (), rfl, (by first | (simp []; done) | contradiction), trivial⟩, hS.F ht⟩) hS.2.2 dX5_period_7

set_option maxHeartbeats 4000000 in
set_option maxRecDepth 100000 in
theorem c_p_X5_ofLump (l : Launch) (dC : Nat → ClassId) (dI : Nat → Nat → Nat) (cI cF : ClassId) (tr : List (ClassId × FieldType)) (sz : Nat) (o : Nat) (ce : Nat) (lu : Nat) (cl : Nat) (se : Nat) (tu : Int32) (ja : Int32) (re : Int32) (g : Nat) (yp : Nat) (yt : Nat) (yd : Nat) (yq : Nat) (yg : Nat) (yl : Nat) (yh : Nat) (pc : Nat → Int32) (ag : Nat → Int32) (le : Nat → Int32) (gr : Nat → Int32) (i : Int32) (k : Int32) (hi : ¬ withinF i 0 5 = 0) (hk : ¬ withinF k 0 3 = 0) : Met l yX5_ofLump wsX5_ofLump ({ frames := 2, cells := 0, slots := 0, locals := 42 } : Room) (cPc dC dI ((cI, .int) :: (cF, .object RX1) :: tr) sz ([(o, .inr (iX5, [.ref g, .ref ce, .ref lu, .ref cl, .ref se, .int tu, .int ja, .int re])), (lu, .inr (iX3, [.ref yp, .ref yt, .ref yd, .ref yq, .ref yg, .ref yl, .ref yh])), (yp, .inl (cI, 6, .inl (pc))), (yg, .inl (cI, 6, .inl (ag))), (yl, .inl (cI, 6, .inl (le))), (yh, .inl (cI, 6, .inl (gr)))]) [.ref o, .int i, .int k]) (va_Qi (fun (r : Int32) (_ : Unit) => r = olF pc ag le gr i k) (fun _ _ => True) (va_A ([]) sz)) 0 0 (va_A ([]) sz) := by
  refine Met.ofW (cc := cX5_ofLump) (maxL := 3) (ret := (some .int)) (by decide) rfl ?_
  intro p e s m args below meth c s₁ B hml hv
  obtain ⟨rfl, hsz, hP, hK, hN⟩ := hv
  have hx := B.exec
  have hb := B.bytes
  have hr := B.returns
  have hts := atoms_spec (ws := wsX5_ofLump) B.pre
  have hown : s.vm.findClass RX5 = some m.cls := findClass_of_methodNamed B.named
  have hlocks := B.notSynchronized
  subst hsz
  generalize hAe : va_A [] s.heap.size = A
  have hA : ∀ q : Nat, s.heap.size ≤ q → A q := fun q h => by rw [← hAe]; exact Or.inr h
  have hS : va_S A s.heap s.heap [] := va_S.rf
  have hAn : ∀ q : Nat, q < s.heap.size → ¬ A q := fun q h => by rw [← hAe]; exact notZ h
  have hAg : ∀ q : Nat, A q → s.heap.size ≤ q := fun q h => geZ (hAe ▸ h)
  have hR0 : va_P (dC, dI) vwCl ([(o, .inr (iX5, [.ref g, .ref ce, .ref lu, .ref cl, .ref se, .int tu, .int ja, .int re])), (lu, .inr (iX3, [.ref yp, .ref yt, .ref yd, .ref yq, .ref yg, .ref yl, .ref yh])), (yp, .inl (cI, 6, .inl (pc))), (yg, .inl (cI, 6, .inl (ag))), (yl, .inl (cI, 6, .inl (le))), (yh, .inl (cI, 6, .inl (gr)))]) s.heap := hP
  have hR : va_P (dC, dI) vwCl ([(o, .inr (iX5, [.ref g, .ref ce, .ref lu, .ref cl, .ref se, .int tu, .int ja, .int re])), (lu, .inr (iX3, [.ref yp, .ref yt, .ref yd, .ref yq, .ref yg, .ref yl, .ref yh])), (yp, .inl (cI, 6, .inl (pc))), (yg, .inl (cI, 6, .inl (ag))), (yl, .inl (cI, 6, .inl (le))), (yh, .inl (cI, 6, .inl (gr)))]) s.heap := hP
  have hP : va_P (dC, dI) vwCl [] s.heap := fun k q h => by simp at h
  have hD : va_D A [] := ⟨fun i j p q h => by simp at h, fun k q h => by simp at h⟩
  have hl := lv_entry ([.ref o, .int i, .int k]) (n := 3) (Nat.le_of_ble_eq_true rfl)
  rw [lg_entry_eq]
  generalize (lg_sl ([.ref o, .int i, .int k]) ++ List.replicate (3 - (lg_sl ([.ref o, .int i, .int k])).length) Slot.unset).toArray = ls at hl ⊢
  have hl : lv_has ls 3 [(0, .ref o), (1, .int i), (2, .int k)] := hl
  have hfl_23 := hts (.fieldLink RX5 23 "Greenwheels" "lumps" "LGreenwheels$Lumps;") (by decide +kernel)
  have hin_X5 : ∀ w ∈ u_ws RX5 TX5 8, w ∈ wsX5_ofLump := by decide +kernel
  refine lv_iload_n hx hb dX5_ofLump_0 rfl (lv_at hl 1 rfl) ?_
  refine lv_iconst (v := 0) hx hb dX5_ofLump_1 (by decide) ?_
  refine lv_iconst (v := 5) hx hb dX5_ofLump_2 (by decide) ?_
  have hPc : va_P (dC, dI) vwCl [] s.heap := nilP
  have hFc := frZ hS hA
  refine va_calli (va_runS (As := [.int i, .int 0, .int 5]) (rest := []) ⟨hx, hb, hml, hown, hts⟩ (c_X5_isWithin l dC dI cI cF tr (s.heap).size i 0 5) (va_cwS 3 hts gX5_ofLump_X5_isWithin rfl rfl rfl (by decide +kernel) ⟨Nat.le_of_ble_eq_true rfl, Nat.le_of_ble_eq_true rfl⟩) ⟨cBl, (cPre hPc hK hN)⟩ rfl rfl hl.1 rfl (lv_room (Nat.le_of_ble_eq_true rfl)) dX5_ofLump_3 ⟨(Nat.le_of_ble_eq_true rfl), (Nat.le_of_ble_eq_true rfl)⟩) hS (fun q _ h => hFc q h) hFc (fun r_1 u t H1 locs ht hvm hw_r_1 hB hz1 hk1 hS => ?_)
  refine W.widen (k := 0) (n := 0) (Nat.le_refl _) (Nat.le_refl _) ?_
  have hP := keepP hP hk1
  have hR := keepP hR hk1
  generalize H1 = H at hP hR hS ⊢
  have hP : va_P (dC, dI) vwCl ([]) H := hP
  try dsimp only at hw_r_1
  subst hw_r_1
  have hPc : va_P (dC, dI) vwCl [] H := nilP
  have hFc := frZ hS hA
  refine va_callv (va_runS (As := [.int (withinF i 0 5)]) (rest := []) ⟨hx, hb, hml, hown, hts⟩ (c_p_X5_demandIndex l dC dI cI cF tr (H).size (withinF i 0 5) (by assumption)) (va_cwS 1 hts gX5_ofLump_X5_demandIndex rfl rfl rfl (by decide +kernel) ⟨Nat.le_of_ble_eq_true rfl, Nat.le_of_ble_eq_true rfl⟩) ⟨cBl, (cPre hPc hK hN)⟩ rfl rfl hl.1 rfl (lv_room (Nat.le_of_ble_eq_true rfl)) dX5_ofLump_6 ⟨(Nat.le_of_ble_eq_true rfl), (Nat.le_of_ble_eq_true rfl)⟩) hS (fun q _ h => hFc q h) hFc (fun u t H1 locs ht hvm hw_r_2 hB hz1 hk1 hS => ?_)
  refine W.widen (k := 0) (n := 0) (Nat.le_refl _) (Nat.le_refl _) ?_
  have hP := keepP hP hk1
  have hR := keepP hR hk1
  generalize H1 = H at hP hR hS ⊢
  have hP : va_P (dC, dI) vwCl ([]) H := hP
  try dsimp only at hw_r_2
  refine lv_iload_n hx hb dX5_ofLump_9 rfl (lv_at hl 2 rfl) ?_
  refine lv_iconst (v := 0) hx hb dX5_ofLump_10 (by decide) ?_
  refine lv_iconst (v := 3) hx hb dX5_ofLump_11 (by decide) ?_
  have hPc : va_P (dC, dI) vwCl [] H := nilP
  have hFc := frZ hS hA
  refine va_calli (va_runS (As := [.int k, .int 0, .int 3]) (rest := []) ⟨hx, hb, hml, hown, hts⟩ (c_X5_isWithin l dC dI cI cF tr (H).size k 0 3) (va_cwS 3 hts gX5_ofLump_X5_isWithin rfl rfl rfl (by decide +kernel) ⟨Nat.le_of_ble_eq_true rfl, Nat.le_of_ble_eq_true rfl⟩) ⟨cBl, (cPre hPc hK hN)⟩ rfl rfl hl.1 rfl (lv_room (Nat.le_of_ble_eq_true rfl)) dX5_ofLump_12 ⟨(Nat.le_of_ble_eq_true rfl), (Nat.le_of_ble_eq_true rfl)⟩) hS (fun q _ h => hFc q h) hFc (fun r_3 u t H1 locs ht hvm hw_r_3 hB hz1 hk1 hS => ?_)
  refine W.widen (k := 0) (n := 0) (Nat.le_refl _) (Nat.le_refl _) ?_
  have hP := keepP hP hk1
  have hR := keepP hR hk1
  generalize H1 = H at hP hR hS ⊢
  have hP : va_P (dC, dI) vwCl ([]) H := hP
  try dsimp only at hw_r_3
  subst hw_r_3
  have hPc : va_P (dC, dI) vwCl [] H := nilP
  have hFc := frZ hS hA
  refine va_callv (va_runS (As := [.int (withinF k 0 3)]) (rest := []) ⟨hx, hb, hml, hown, hts⟩ (c_p_X5_demandArgument l dC dI cI cF tr (H).size (withinF k 0 3) (by assumption)) (va_cwS 1 hts gX5_ofLump_X5_demandArgument rfl rfl rfl (by decide +kernel) ⟨Nat.le_of_ble_eq_true rfl, Nat.le_of_ble_eq_true rfl⟩) ⟨cBl, (cPre hPc hK hN)⟩ rfl rfl hl.1 rfl (lv_room (Nat.le_of_ble_eq_true rfl)) dX5_ofLump_15 ⟨(Nat.le_of_ble_eq_true rfl), (Nat.le_of_ble_eq_true rfl)⟩) hS (fun q _ h => hFc q h) hFc (fun u t H1 locs ht hvm hw_r_4 hB hz1 hk1 hS => ?_)
  refine W.widen (k := 0) (n := 0) (Nat.le_refl _) (Nat.le_refl _) ?_
  have hP := keepP hP hk1
  have hR := keepP hR hk1
  generalize H1 = H at hP hR hS ⊢
  have hP : va_P (dC, dI) vwCl ([]) H := hP
  try dsimp only at hw_r_4
  refine lv_iload_n hx hb dX5_ofLump_18 rfl (lv_at hl 2 rfl) ?_
  by_cases c_5 : k = 0
  · refine lv_tableIn (off := 25) (tgt := 44) hx hb dX5_ofLump_19 (by rw [c_5]; decide) (by rw [c_5]; decide) (by rw [c_5]; rfl) (by decide) ?_
    refine lv_aload_n hx hb dX5_ofLump_44 rfl (lv_at hl 0 rfl) ?_
    refine va_get (D := (dC, dI)) (ci := iX5) (v := .ref lu) (C := RX5) (T := TX5) (N := 8) hx hb hts hin_X5 hown hK hR 0 rfl rfl 2 (by decide) hfl_23 (fun _ h9 => h9) rfl dX5_ofLump_45 ?_
    refine lv_iload_n hx hb dX5_ofLump_48 rfl (lv_at hl 1 rfl) ?_
    have hPc : va_P (dC, dI) vwCl ([(lu, .inr (iX3, [.ref yp, .ref yt, .ref yd, .ref yq, .ref yg, .ref yl, .ref yh])), (yp, .inl (cI, 6, .inl (pc)))]) _ := hR.sub [1, 2] rfl
    have hFc := frZ hS hA
    refine va_calli (va_runV (As := [.int i]) (rest := []) ⟨hx, hb, hml, hown, hts⟩ (c_X3_piecesOf l dC dI cI cF tr (H).size lu yp yt yd yq yg yl yh pc i) (cwV 1 hts gX5_ofLump_X3_piecesOf rfl rfl rfl (by decide +kernel) ⟨Nat.le_of_ble_eq_true rfl, Nat.le_of_ble_eq_true rfl⟩) ⟨cBl, (va_recv hK hPc (ci := iX3) (q0 := 0) rfl rfl), (cPre hPc hK hN)⟩ rfl rfl hl.1 rfl (lv_room (Nat.le_of_ble_eq_true rfl)) dX5_ofLump_49 ⟨(Nat.le_of_ble_eq_true rfl), (Nat.le_of_ble_eq_true rfl)⟩) hS (fun q _ h => hFc q h) hFc (fun r_6 u t H1 locs ht hvm hw_r_6 hB hz1 hk1 hS => ?_)
    refine W.widen (k := 0) (n := 0) (Nat.le_refl _) (Nat.le_refl _) ?_
    have hP := keepP hP hk1
    have hR := keepP hR hk1
    generalize H1 = H at hP hR hS ⊢
    have hP : va_P (dC, dI) vwCl ([]) H := hP
    try dsimp only at hw_r_6
    subst hw_r_6
    refine W.widen (k := 0) (n := 0) (by omega) (by omega) ?_
    exact W.iret (v := atF 6 pc i) hx hb hr (fun t ht hW => ⟨⟨atF 6 pc i, (), rfl, (by first | (simp [olF, c_5]; done) | contradiction), trivial⟩, hS.F ht⟩) hS.2.2 dX5_ofLump_52
  by_cases c_7 : k = 1
  · refine lv_tableIn (off := 34) (tgt := 53) hx hb dX5_ofLump_19 (by rw [c_7]; decide) (by rw [c_7]; decide) (by rw [c_7]; rfl) (by decide) ?_
    refine lv_aload_n hx hb dX5_ofLump_53 rfl (lv_at hl 0 rfl) ?_
    refine va_get (D := (dC, dI)) (ci := iX5) (v := .ref lu) (C := RX5) (T := TX5) (N := 8) hx hb hts hin_X5 hown hK hR 0 rfl rfl 2 (by decide) hfl_23 (fun _ h9 => h9) rfl dX5_ofLump_54 ?_
    refine lv_iload_n hx hb dX5_ofLump_57 rfl (lv_at hl 1 rfl) ?_
    have hPc : va_P (dC, dI) vwCl ([(lu, .inr (iX3, [.ref yp, .ref yt, .ref yd, .ref yq, .ref yg, .ref yl, .ref yh])), (yg, .inl (cI, 6, .inl (ag)))]) _ := hR.sub [1, 3] rfl
    have hFc := frZ hS hA
    refine va_calli (va_runV (As := [.int i]) (rest := []) ⟨hx, hb, hml, hown, hts⟩ (c_X3_agreeingOf l dC dI cI cF tr (H).size lu yp yt yd yq yg yl yh ag i) (cwV 1 hts gX5_ofLump_X3_agreeingOf rfl rfl rfl (by decide +kernel) ⟨Nat.le_of_ble_eq_true rfl, Nat.le_of_ble_eq_true rfl⟩) ⟨cBl, (va_recv hK hPc (ci := iX3) (q0 := 0) rfl rfl), (cPre hPc hK hN)⟩ rfl rfl hl.1 rfl (lv_room (Nat.le_of_ble_eq_true rfl)) dX5_ofLump_58 ⟨(Nat.le_of_ble_eq_true rfl), (Nat.le_of_ble_eq_true rfl)⟩) hS (fun q _ h => hFc q h) hFc (fun r_8 u t H1 locs ht hvm hw_r_8 hB hz1 hk1 hS => ?_)
    refine W.widen (k := 0) (n := 0) (Nat.le_refl _) (Nat.le_refl _) ?_
    have hP := keepP hP hk1
    have hR := keepP hR hk1
    generalize H1 = H at hP hR hS ⊢
    have hP : va_P (dC, dI) vwCl ([]) H := hP
    try dsimp only at hw_r_8
    subst hw_r_8
    refine W.widen (k := 0) (n := 0) (by omega) (by omega) ?_
    exact W.iret (v := atF 6 ag i) hx hb hr (fun t ht hW => ⟨⟨atF 6 ag i, (), rfl, (by first | (simp [olF, c_5, c_7]; done) | contradiction), trivial⟩, hS.F ht⟩) hS.2.2 dX5_ofLump_61
  by_cases c_9 : k = 2
  · refine lv_tableIn (off := 43) (tgt := 62) hx hb dX5_ofLump_19 (by rw [c_9]; decide) (by rw [c_9]; decide) (by rw [c_9]; rfl) (by decide) ?_
    refine lv_aload_n hx hb dX5_ofLump_62 rfl (lv_at hl 0 rfl) ?_
    refine va_get (D := (dC, dI)) (ci := iX5) (v := .ref lu) (C := RX5) (T := TX5) (N := 8) hx hb hts hin_X5 hown hK hR 0 rfl rfl 2 (by decide) hfl_23 (fun _ h9 => h9) rfl dX5_ofLump_63 ?_
    refine lv_iload_n hx hb dX5_ofLump_66 rfl (lv_at hl 1 rfl) ?_
    have hPc : va_P (dC, dI) vwCl ([(lu, .inr (iX3, [.ref yp, .ref yt, .ref yd, .ref yq, .ref yg, .ref yl, .ref yh])), (yl, .inl (cI, 6, .inl (le)))]) _ := hR.sub [1, 4] rfl
    have hFc := frZ hS hA
    refine va_calli (va_runV (As := [.int i]) (rest := []) ⟨hx, hb, hml, hown, hts⟩ (c_X3_leastOf l dC dI cI cF tr (H).size lu yp yt yd yq yg yl yh le i) (cwV 1 hts gX5_ofLump_X3_leastOf rfl rfl rfl (by decide +kernel) ⟨Nat.le_of_ble_eq_true rfl, Nat.le_of_ble_eq_true rfl⟩) ⟨cBl, (va_recv hK hPc (ci := iX3) (q0 := 0) rfl rfl), (cPre hPc hK hN)⟩ rfl rfl hl.1 rfl (lv_room (Nat.le_of_ble_eq_true rfl)) dX5_ofLump_67 ⟨(Nat.le_of_ble_eq_true rfl), (Nat.le_of_ble_eq_true rfl)⟩) hS (fun q _ h => hFc q h) hFc (fun r_10 u t H1 locs ht hvm hw_r_10 hB hz1 hk1 hS => ?_)
    refine W.widen (k := 0) (n := 0) (Nat.le_refl _) (Nat.le_refl _) ?_
    have hP := keepP hP hk1
    have hR := keepP hR hk1
    generalize H1 = H at hP hR hS ⊢
    have hP : va_P (dC, dI) vwCl ([]) H := hP
    try dsimp only at hw_r_10
    subst hw_r_10
    refine W.widen (k := 0) (n := 0) (by omega) (by omega) ?_
    exact W.iret (v := atF 6 le i) hx hb hr (fun t ht hW => ⟨⟨atF 6 le i, (), rfl, (by first | (simp [olF, c_5, c_7, c_9]; done) | contradiction), trivial⟩, hS.F ht⟩) hS.2.2 dX5_ofLump_70
  refine lv_tableOut (tgt := 71) hx hb dX5_ofLump_19 (by have a0 := lv_neT (a := 0) c_5 rfl; have a1 := lv_neT (a := 1) c_7 rfl; have a2 := lv_neT (a := 2) c_9 rfl; omega) (by decide) ?_
  refine lv_aload_n hx hb dX5_ofLump_71 rfl (lv_at hl 0 rfl) ?_
  refine va_get (D := (dC, dI)) (ci := iX5) (v := .ref lu) (C := RX5) (T := TX5) (N := 8) hx hb hts hin_X5 hown hK hR 0 rfl rfl 2 (by decide) hfl_23 (fun _ h9 => h9) rfl dX5_ofLump_72 ?_
  refine lv_iload_n hx hb dX5_ofLump_75 rfl (lv_at hl 1 rfl) ?_
  have hPc : va_P (dC, dI) vwCl ([(lu, .inr (iX3, [.ref yp, .ref yt, .ref yd, .ref yq, .ref yg, .ref yl, .ref yh])), (yh, .inl (cI, 6, .inl (gr)))]) _ := hR.sub [1, 5] rfl
  have hFc := frZ hS hA
  refine va_calli (va_runV (As := [.int i]) (rest := []) ⟨hx, hb, hml, hown, hts⟩ (c_X3_greatestOf l dC dI cI cF tr (H).size lu yp yt yd yq yg yl yh gr i) (cwV 1 hts gX5_ofLump_X3_greatestOf rfl rfl rfl (by decide +kernel) ⟨Nat.le_of_ble_eq_true rfl, Nat.le_of_ble_eq_true rfl⟩) ⟨cBl, (va_recv hK hPc (ci := iX3) (q0 := 0) rfl rfl), (cPre hPc hK hN)⟩ rfl rfl hl.1 rfl (lv_room (Nat.le_of_ble_eq_true rfl)) dX5_ofLump_76 ⟨(Nat.le_of_ble_eq_true rfl), (Nat.le_of_ble_eq_true rfl)⟩) hS (fun q _ h => hFc q h) hFc (fun r_11 u t H1 locs ht hvm hw_r_11 hB hz1 hk1 hS => ?_)
  refine W.widen (k := 0) (n := 0) (Nat.le_refl _) (Nat.le_refl _) ?_
  have hP := keepP hP hk1
  have hR := keepP hR hk1
  generalize H1 = H at hP hR hS ⊢
  have hP : va_P (dC, dI) vwCl ([]) H := hP
  try dsimp only at hw_r_11
  subst hw_r_11
  refine W.widen (k := 0) (n := 0) (by omega) (by omega) ?_
  exact W.iret (v := atF 6 gr i) hx hb hr (fun t ht hW => ⟨⟨atF 6 gr i, (), rfl, (by first | (simp [olF, c_5, c_7, c_9]; done) | contradiction), trivial⟩, hS.F ht⟩) hS.2.2 dX5_ofLump_79

set_option maxHeartbeats 4000000 in
set_option maxRecDepth 100000 in
theorem c_p_X5_ofClaim (l : Launch) (dC : Nat → ClassId) (dI : Nat → Nat → Nat) (cI cF : ClassId) (tr : List (ClassId × FieldType)) (sz : Nat) (o : Nat) (ce : Nat) (lu : Nat) (cl : Nat) (se : Nat) (tu : Int32) (ja : Int32) (re : Int32) (g : Nat) (cn : Nat) (wd : Int32) (xn : Nat) (xf : Nat) (nr : Nat → Int32) (i : Int32) (k : Int32) (hi : ¬ withinF i 0 (nI cn - 1) = 0) (hk : ¬ withinF k 0 3 = 0) (hcn : cn ≤ 12) : Met l yX5_ofClaim wsX5_ofClaim ({ frames := 4, cells := 0, slots := 0, locals := 85 } : Room) (cPc dC dI ((cI, .int) :: (cF, .object RX1) :: tr) sz ([(o, .inr (iX5, [.ref g, .ref ce, .ref lu, .ref cl, .ref se, .int tu, .int ja, .int re])), (cl, .inr (iX0, [.int (nI cn), .int wd, .ref xn, .ref xf])), (xn, .inl (cI, 12, .inl (nr)))]) [.ref o, .int i, .int k]) (va_Qi (fun (r : Int32) (_ : Unit) => r = ocF cn wd nr i k) (fun _ _ => True) (va_A ([]) sz)) 0 0 (va_A ([]) sz) := by
  refine Met.ofW (cc := cX5_ofClaim) (maxL := 3) (ret := (some .int)) (by decide) rfl ?_
  intro p e s m args below meth c s₁ B hml hv
  obtain ⟨rfl, hsz, hP, hK, hN⟩ := hv
  have hx := B.exec
  have hb := B.bytes
  have hr := B.returns
  have hts := atoms_spec (ws := wsX5_ofClaim) B.pre
  have hown : s.vm.findClass RX5 = some m.cls := findClass_of_methodNamed B.named
  have hlocks := B.notSynchronized
  subst hsz
  generalize hAe : va_A [] s.heap.size = A
  have hA : ∀ q : Nat, s.heap.size ≤ q → A q := fun q h => by rw [← hAe]; exact Or.inr h
  have hS : va_S A s.heap s.heap [] := va_S.rf
  have hAn : ∀ q : Nat, q < s.heap.size → ¬ A q := fun q h => by rw [← hAe]; exact notZ h
  have hAg : ∀ q : Nat, A q → s.heap.size ≤ q := fun q h => geZ (hAe ▸ h)
  have hR0 : va_P (dC, dI) vwCl ([(o, .inr (iX5, [.ref g, .ref ce, .ref lu, .ref cl, .ref se, .int tu, .int ja, .int re])), (cl, .inr (iX0, [.int (nI cn), .int wd, .ref xn, .ref xf])), (xn, .inl (cI, 12, .inl (nr)))]) s.heap := hP
  have hR : va_P (dC, dI) vwCl ([(o, .inr (iX5, [.ref g, .ref ce, .ref lu, .ref cl, .ref se, .int tu, .int ja, .int re])), (cl, .inr (iX0, [.int (nI cn), .int wd, .ref xn, .ref xf])), (xn, .inl (cI, 12, .inl (nr)))]) s.heap := hP
  have hP : va_P (dC, dI) vwCl [] s.heap := fun k q h => by simp at h
  have hD : va_D A [] := ⟨fun i j p q h => by simp at h, fun k q h => by simp at h⟩
  have hl := lv_entry ([.ref o, .int i, .int k]) (n := 3) (Nat.le_of_ble_eq_true rfl)
  rw [lg_entry_eq]
  generalize (lg_sl ([.ref o, .int i, .int k]) ++ List.replicate (3 - (lg_sl ([.ref o, .int i, .int k])).length) Slot.unset).toArray = ls at hl ⊢
  have hl : lv_has ls 3 [(0, .ref o), (1, .int i), (2, .int k)] := hl
  have hfl_30 := hts (.fieldLink RX5 30 "Greenwheels" "claims" "LGreenwheels$Claims;") (by decide +kernel)
  have hin_X5 : ∀ w ∈ u_ws RX5 TX5 8, w ∈ wsX5_ofClaim := by decide +kernel
  refine lv_aload_n hx hb dX5_ofClaim_0 rfl (lv_at hl 0 rfl) ?_
  refine lv_iload_n hx hb dX5_ofClaim_1 rfl (lv_at hl 1 rfl) ?_
  have hPc : va_P (dC, dI) vwCl ([(o, .inr (iX5, [.ref g, .ref ce, .ref lu, .ref cl, .ref se, .int tu, .int ja, .int re])), (cl, .inr (iX0, [.int (nI cn), .int wd, .ref xn, .ref xf]))]) _ := hR.sub [0, 1] rfl
  have hFc := frZ hS hA
  refine va_callv (va_runV (As := [.int i]) (rest := []) ⟨hx, hb, hml, hown, hts⟩ (c_p_X5_demandClaim l dC dI cI cF tr (s.heap).size o ce lu cl se tu ja re g cn wd xn xf i (by assumption)) (cwV 1 hts gX5_ofClaim_X5_demandClaim rfl rfl rfl (by decide +kernel) ⟨Nat.le_of_ble_eq_true rfl, Nat.le_of_ble_eq_true rfl⟩) ⟨cBl, (va_recv hK hPc (ci := iX5) (q0 := 0) rfl rfl), (cPre hPc hK hN)⟩ rfl rfl hl.1 rfl (lv_room (Nat.le_of_ble_eq_true rfl)) dX5_ofClaim_2 ⟨(Nat.le_of_ble_eq_true rfl), (Nat.le_of_ble_eq_true rfl)⟩) hS (fun q _ h => hFc q h) hFc (fun u t H1 locs ht hvm hw_r_1 hB hz1 hk1 hS => ?_)
  refine W.widen (k := 0) (n := 0) (Nat.le_refl _) (Nat.le_refl _) ?_
  have hP := keepP hP hk1
  have hR := keepP hR hk1
  generalize H1 = H at hP hR hS ⊢
  have hP : va_P (dC, dI) vwCl ([]) H := hP
  try dsimp only at hw_r_1
  refine lv_iload_n hx hb dX5_ofClaim_5 rfl (lv_at hl 2 rfl) ?_
  refine lv_iconst (v := 0) hx hb dX5_ofClaim_6 (by decide) ?_
  refine lv_iconst (v := 3) hx hb dX5_ofClaim_7 (by decide) ?_
  have hPc : va_P (dC, dI) vwCl [] H := nilP
  have hFc := frZ hS hA
  refine va_calli (va_runS (As := [.int k, .int 0, .int 3]) (rest := []) ⟨hx, hb, hml, hown, hts⟩ (c_X5_isWithin l dC dI cI cF tr (H).size k 0 3) (va_cwS 3 hts gX5_ofClaim_X5_isWithin rfl rfl rfl (by decide +kernel) ⟨Nat.le_of_ble_eq_true rfl, Nat.le_of_ble_eq_true rfl⟩) ⟨cBl, (cPre hPc hK hN)⟩ rfl rfl hl.1 rfl (lv_room (Nat.le_of_ble_eq_true rfl)) dX5_ofClaim_8 ⟨(Nat.le_of_ble_eq_true rfl), (Nat.le_of_ble_eq_true rfl)⟩) hS (fun q _ h => hFc q h) hFc (fun r_2 u t H1 locs ht hvm hw_r_2 hB hz1 hk1 hS => ?_)
  refine W.widen (k := 0) (n := 0) (Nat.le_refl _) (Nat.le_refl _) ?_
  have hP := keepP hP hk1
  have hR := keepP hR hk1
  generalize H1 = H at hP hR hS ⊢
  have hP : va_P (dC, dI) vwCl ([]) H := hP
  try dsimp only at hw_r_2
  subst hw_r_2
  have hPc : va_P (dC, dI) vwCl [] H := nilP
  have hFc := frZ hS hA
  refine va_callv (va_runS (As := [.int (withinF k 0 3)]) (rest := []) ⟨hx, hb, hml, hown, hts⟩ (c_p_X5_demandArgument l dC dI cI cF tr (H).size (withinF k 0 3) (by assumption)) (va_cwS 1 hts gX5_ofClaim_X5_demandArgument rfl rfl rfl (by decide +kernel) ⟨Nat.le_of_ble_eq_true rfl, Nat.le_of_ble_eq_true rfl⟩) ⟨cBl, (cPre hPc hK hN)⟩ rfl rfl hl.1 rfl (lv_room (Nat.le_of_ble_eq_true rfl)) dX5_ofClaim_11 ⟨(Nat.le_of_ble_eq_true rfl), (Nat.le_of_ble_eq_true rfl)⟩) hS (fun q _ h => hFc q h) hFc (fun u t H1 locs ht hvm hw_r_3 hB hz1 hk1 hS => ?_)
  refine W.widen (k := 0) (n := 0) (Nat.le_refl _) (Nat.le_refl _) ?_
  have hP := keepP hP hk1
  have hR := keepP hR hk1
  generalize H1 = H at hP hR hS ⊢
  have hP : va_P (dC, dI) vwCl ([]) H := hP
  try dsimp only at hw_r_3
  refine lv_iload_n hx hb dX5_ofClaim_14 rfl (lv_at hl 2 rfl) ?_
  by_cases c_4 : k = 0
  · refine lv_tableIn (off := 25) (tgt := 40) hx hb dX5_ofClaim_15 (by rw [c_4]; decide) (by rw [c_4]; decide) (by rw [c_4]; rfl) (by decide) ?_
    refine lv_aload_n hx hb dX5_ofClaim_40 rfl (lv_at hl 0 rfl) ?_
    refine va_get (D := (dC, dI)) (ci := iX5) (v := .ref cl) (C := RX5) (T := TX5) (N := 8) hx hb hts hin_X5 hown hK hR 0 rfl rfl 3 (by decide) hfl_30 (fun _ h9 => h9) rfl dX5_ofClaim_41 ?_
    refine lv_iload_n hx hb dX5_ofClaim_44 rfl (lv_at hl 1 rfl) ?_
    have hPc : va_P (dC, dI) vwCl ([(cl, .inr (iX0, [.int (nI cn), .int wd, .ref xn, .ref xf])), (xn, .inl (cI, 12, .inl (nr)))]) _ := hR.sub [1, 2] rfl
    have hFc := frZ hS hA
    refine va_calli (va_runV (As := [.int i]) (rest := []) ⟨hx, hb, hml, hown, hts⟩ (c_X0_hangsOn l dC dI cI cF tr (H).size cl cn wd xn xf nr i) (cwV 1 hts gX5_ofClaim_X0_hangsOn rfl rfl rfl (by decide +kernel) ⟨Nat.le_of_ble_eq_true rfl, Nat.le_of_ble_eq_true rfl⟩) ⟨cBl, (va_recv hK hPc (ci := iX0) (q0 := 0) rfl rfl), (cPre hPc hK hN)⟩ rfl rfl hl.1 rfl (lv_room (Nat.le_of_ble_eq_true rfl)) dX5_ofClaim_45 ⟨(Nat.le_of_ble_eq_true rfl), (Nat.le_of_ble_eq_true rfl)⟩) hS (fun q _ h => hFc q h) hFc (fun r_5 u t H1 locs ht hvm hw_r_5 hB hz1 hk1 hS => ?_)
    refine W.widen (k := 0) (n := 0) (Nat.le_refl _) (Nat.le_refl _) ?_
    have hP := keepP hP hk1
    have hR := keepP hR hk1
    generalize H1 = H at hP hR hS ⊢
    have hP : va_P (dC, dI) vwCl ([]) H := hP
    try dsimp only at hw_r_5
    subst hw_r_5
    refine W.widen (k := 0) (n := 0) (by omega) (by omega) ?_
    exact W.iret (v := atF 12 nr i) hx hb hr (fun t ht hW => ⟨⟨atF 12 nr i, (), rfl, (by first | (simp [ocF, c_4]; done) | contradiction), trivial⟩, hS.F ht⟩) hS.2.2 dX5_ofClaim_48
  by_cases c_6 : k = 1
  · refine lv_tableIn (off := 34) (tgt := 49) hx hb dX5_ofClaim_15 (by rw [c_6]; decide) (by rw [c_6]; decide) (by rw [c_6]; rfl) (by decide) ?_
    refine lv_aload_n hx hb dX5_ofClaim_49 rfl (lv_at hl 0 rfl) ?_
    refine va_get (D := (dC, dI)) (ci := iX5) (v := .ref cl) (C := RX5) (T := TX5) (N := 8) hx hb hts hin_X5 hown hK hR 0 rfl rfl 3 (by decide) hfl_30 (fun _ h9 => h9) rfl dX5_ofClaim_50 ?_
    refine lv_iload_n hx hb dX5_ofClaim_53 rfl (lv_at hl 1 rfl) ?_
    have hPc : va_P (dC, dI) vwCl ([(cl, .inr (iX0, [.int (nI cn), .int wd, .ref xn, .ref xf]))]) _ := hR.sub [1] rfl
    have hFc := frZ hS hA
    refine va_calli (va_runV (As := [.int i]) (rest := []) ⟨hx, hb, hml, hown, hts⟩ (c_X0_isWithdrawn l dC dI cI cF tr (H).size cl cn wd xn xf i) (cwV 1 hts gX5_ofClaim_X0_isWithdrawn rfl rfl rfl (by decide +kernel) ⟨Nat.le_of_ble_eq_true rfl, Nat.le_of_ble_eq_true rfl⟩) ⟨cBl, (va_recv hK hPc (ci := iX0) (q0 := 0) rfl rfl), (cPre hPc hK hN)⟩ rfl rfl hl.1 rfl (lv_room (Nat.le_of_ble_eq_true rfl)) dX5_ofClaim_54 ⟨(Nat.le_of_ble_eq_true rfl), (Nat.le_of_ble_eq_true rfl)⟩) hS (fun q _ h => hFc q h) hFc (fun r_7 u t H1 locs ht hvm hw_r_7 hB hz1 hk1 hS => ?_)
    refine W.widen (k := 0) (n := 0) (Nat.le_refl _) (Nat.le_refl _) ?_
    have hP := keepP hP hk1
    have hR := keepP hR hk1
    generalize H1 = H at hP hR hS ⊢
    have hP : va_P (dC, dI) vwCl ([]) H := hP
    try dsimp only at hw_r_7
    subst hw_r_7
    refine lv_if_eq (tgt := 64) hx hb dX5_ofClaim_57 (by decide) (fun c_8 => ?_) (fun c_8 => ?_)
    · refine lv_iconst (v := 0) hx hb dX5_ofClaim_64 (by decide) ?_
      refine W.widen (k := 0) (n := 0) (by omega) (by omega) ?_
      exact W.iret (v := 0) hx hb hr (fun t ht hW => ⟨⟨0, (), rfl, (by first | (simp [ocF, c_4, c_6, c_8]; done) | contradiction), trivial⟩, hS.F ht⟩) hS.2.2 dX5_ofClaim_65
    · refine lv_iconst (v := 1) hx hb dX5_ofClaim_60 (by decide) ?_
      refine lv_goto (tgt := 65) hx hb dX5_ofClaim_61 (by decide) ?_
      refine W.widen (k := 0) (n := 0) (by omega) (by omega) ?_
      exact W.iret (v := 1) hx hb hr (fun t ht hW => ⟨⟨1, (), rfl, (by first | (simp [ocF, c_4, c_6, c_8]; done) | contradiction), trivial⟩, hS.F ht⟩) hS.2.2 dX5_ofClaim_65
  by_cases c_9 : k = 2
  · refine lv_tableIn (off := 51) (tgt := 66) hx hb dX5_ofClaim_15 (by rw [c_9]; decide) (by rw [c_9]; decide) (by rw [c_9]; rfl) (by decide) ?_
    refine lv_aload_n hx hb dX5_ofClaim_66 rfl (lv_at hl 0 rfl) ?_
    refine va_get (D := (dC, dI)) (ci := iX5) (v := .ref cl) (C := RX5) (T := TX5) (N := 8) hx hb hts hin_X5 hown hK hR 0 rfl rfl 3 (by decide) hfl_30 (fun _ h9 => h9) rfl dX5_ofClaim_67 ?_
    refine lv_iload_n hx hb dX5_ofClaim_70 rfl (lv_at hl 1 rfl) ?_
    have hPc : va_P (dC, dI) vwCl ([(cl, .inr (iX0, [.int (nI cn), .int wd, .ref xn, .ref xf])), (xn, .inl (cI, 12, .inl (nr)))]) _ := hR.sub [1, 2] rfl
    have hFc := frZ hS hA
    refine va_calli (va_runV (As := [.int i]) (rest := []) ⟨hx, hb, hml, hown, hts⟩ (c_X0_isStanding l dC dI cI cF tr (H).size cl cn wd xn xf nr i (by assumption)) (cwV 1 hts gX5_ofClaim_X0_isStanding rfl rfl rfl (by decide +kernel) ⟨Nat.le_of_ble_eq_true rfl, Nat.le_of_ble_eq_true rfl⟩) ⟨cBl, (va_recv hK hPc (ci := iX0) (q0 := 0) rfl rfl), (cPre hPc hK hN)⟩ rfl rfl hl.1 rfl (lv_room (Nat.le_of_ble_eq_true rfl)) dX5_ofClaim_71 ⟨(Nat.le_of_ble_eq_true rfl), (Nat.le_of_ble_eq_true rfl)⟩) hS (fun q _ h => hFc q h) hFc (fun r_10 u t H1 locs ht hvm hw_r_10 hB hz1 hk1 hS => ?_)
    refine W.widen (k := 0) (n := 0) (Nat.le_refl _) (Nat.le_refl _) ?_
    have hP := keepP hP hk1
    have hR := keepP hR hk1
    generalize H1 = H at hP hR hS ⊢
    have hP : va_P (dC, dI) vwCl ([]) H := hP
    try dsimp only at hw_r_10
    subst hw_r_10
    refine lv_if_eq (tgt := 81) hx hb dX5_ofClaim_74 (by decide) (fun c_11 => ?_) (fun c_11 => ?_)
    · refine lv_iconst (v := 0) hx hb dX5_ofClaim_81 (by decide) ?_
      refine W.widen (k := 0) (n := 0) (by omega) (by omega) ?_
      exact W.iret (v := 0) hx hb hr (fun t ht hW => ⟨⟨0, (), rfl, (by first | (simp [ocF, c_4, c_6, c_9, c_11]; done) | contradiction), trivial⟩, hS.F ht⟩) hS.2.2 dX5_ofClaim_82
    · refine lv_iconst (v := 1) hx hb dX5_ofClaim_77 (by decide) ?_
      refine lv_goto (tgt := 82) hx hb dX5_ofClaim_78 (by decide) ?_
      refine W.widen (k := 0) (n := 0) (by omega) (by omega) ?_
      exact W.iret (v := 1) hx hb hr (fun t ht hW => ⟨⟨1, (), rfl, (by first | (simp [ocF, c_4, c_6, c_9, c_11]; done) | contradiction), trivial⟩, hS.F ht⟩) hS.2.2 dX5_ofClaim_82
  refine lv_tableOut (tgt := 83) hx hb dX5_ofClaim_15 (by have a0 := lv_neT (a := 0) c_4 rfl; have a1 := lv_neT (a := 1) c_6 rfl; have a2 := lv_neT (a := 2) c_9 rfl; omega) (by decide) ?_
  refine lv_aload_n hx hb dX5_ofClaim_83 rfl (lv_at hl 0 rfl) ?_
  refine va_get (D := (dC, dI)) (ci := iX5) (v := .ref cl) (C := RX5) (T := TX5) (N := 8) hx hb hts hin_X5 hown hK hR 0 rfl rfl 3 (by decide) hfl_30 (fun _ h9 => h9) rfl dX5_ofClaim_84 ?_
  refine lv_iload_n hx hb dX5_ofClaim_87 rfl (lv_at hl 1 rfl) ?_
  have hPc : va_P (dC, dI) vwCl ([(cl, .inr (iX0, [.int (nI cn), .int wd, .ref xn, .ref xf])), (xn, .inl (cI, 12, .inl (nr)))]) _ := hR.sub [1, 2] rfl
  have hFc := frZ hS hA
  refine va_calli (va_runV (As := [.int i]) (rest := []) ⟨hx, hb, hml, hown, hts⟩ (c_X0_fallingWith l dC dI cI cF tr (H).size cl cn wd xn xf nr i (by assumption)) (cwV 1 hts gX5_ofClaim_X0_fallingWith rfl rfl rfl (by decide +kernel) ⟨Nat.le_of_ble_eq_true rfl, Nat.le_of_ble_eq_true rfl⟩) ⟨cBl, (va_recv hK hPc (ci := iX0) (q0 := 0) rfl rfl), (cPre hPc hK hN)⟩ rfl rfl hl.1 rfl (lv_room (Nat.le_of_ble_eq_true rfl)) dX5_ofClaim_88 ⟨(Nat.le_of_ble_eq_true rfl), (Nat.le_of_ble_eq_true rfl)⟩) hS (fun q _ h => hFc q h) hFc (fun r_12 u t H1 locs ht hvm hw_r_12 hB hz1 hk1 hS => ?_)
  refine W.widen (k := 0) (n := 0) (Nat.le_refl _) (Nat.le_refl _) ?_
  have hP := keepP hP hk1
  have hR := keepP hR hk1
  generalize H1 = H at hP hR hS ⊢
  have hP : va_P (dC, dI) vwCl ([]) H := hP
  try dsimp only at hw_r_12
  subst hw_r_12
  refine W.widen (k := 0) (n := 0) (by omega) (by omega) ?_
  exact W.iret (v := bcF (stL nr wd cn) - bcF (stL nr (wd ||| 1 <<< (i &&& 31)) cn)) hx hb hr (fun t ht hW => ⟨⟨bcF (stL nr wd cn) - bcF (stL nr (wd ||| 1 <<< (i &&& 31)) cn), (), rfl, (by first | (simp [ocF, c_4, c_6, c_9]; done) | contradiction), trivial⟩, hS.F ht⟩) hS.2.2 dX5_ofClaim_91

set_option maxHeartbeats 4000000 in
set_option maxRecDepth 100000 in
theorem c_p_X5_house (l : Launch) (dC : Nat → ClassId) (dI : Nat → Nat → Nat) (cI cF : ClassId) (tr : List (ClassId × FieldType)) (sz : Nat) (o : Nat) (ce : Nat) (lu : Nat) (cl : Nat) (se : Nat) (tu : Int32) (ja : Int32) (re : Int32) (g : Nat) (n : Nat) (xa : Nat) (xt : Nat) (xm : Nat) (wh : Nat) (st : Nat) (xb : Nat) (xc : Nat) (me : Nat → Int32) (bc : Nat → Option Nat) (cn : Nat) (wd : Int32) (xn : Nat) (xf : Nat) (nr : Nat → Int32) (yp : Nat) (yt : Nat) (yd : Nat) (yq : Nat) (yg : Nat) (yl : Nat) (yh : Nat) (pc : Nat → Int32) (i : Int32) (hi : ¬ withinF i 0 8 = 0) (hn : n ≤ 12) (hcn : cn ≤ 12) : Met l yX5_house wsX5_house ({ frames := 3, cells := 0, slots := 0, locals := 64 } : Room) (cPc dC dI ((cI, .int) :: (cF, .object RX1) :: tr) sz ([(o, .inr (iX5, [.ref g, .ref ce, .ref lu, .ref cl, .ref se, .int tu, .int ja, .int re])), (g, .inr (iX2, [.int (nI n), .ref xa, .ref xt, .ref xm, .ref wh, .ref st, .ref xb, .ref xc])), (xm, .inl (cI, 12, .inl (me))), (xb, .inl (cF, 7, .inr (.inr (.inr (.inr (bc)))))), (cl, .inr (iX0, [.int (nI cn), .int wd, .ref xn, .ref xf])), (xn, .inl (cI, 12, .inl (nr))), (lu, .inr (iX3, [.ref yp, .ref yt, .ref yd, .ref yq, .ref yg, .ref yl, .ref yh])), (yp, .inl (cI, 6, .inl (pc)))]) [.ref o, .int i]) (va_Qi (fun (r : Int32) (_ : Unit) => r = hsF n cn me bc tu wd ja re nr pc i) (fun _ _ => True) (va_A ([]) sz)) 0 0 (va_A ([]) sz) := by
  refine Met.ofW (cc := cX5_house) (maxL := 2) (ret := (some .int)) (by decide) rfl ?_
  intro p e s m args below meth c s₁ B hml hv
  obtain ⟨rfl, hsz, hP, hK, hN⟩ := hv
  have hx := B.exec
  have hb := B.bytes
  have hr := B.returns
  have hts := atoms_spec (ws := wsX5_house) B.pre
  have hown : s.vm.findClass RX5 = some m.cls := findClass_of_methodNamed B.named
  have hlocks := B.notSynchronized
  subst hsz
  generalize hAe : va_A [] s.heap.size = A
  have hA : ∀ q : Nat, s.heap.size ≤ q → A q := fun q h => by rw [← hAe]; exact Or.inr h
  have hS : va_S A s.heap s.heap [] := va_S.rf
  have hAn : ∀ q : Nat, q < s.heap.size → ¬ A q := fun q h => by rw [← hAe]; exact notZ h
  have hAg : ∀ q : Nat, A q → s.heap.size ≤ q := fun q h => geZ (hAe ▸ h)
  have hR0 : va_P (dC, dI) vwCl ([(o, .inr (iX5, [.ref g, .ref ce, .ref lu, .ref cl, .ref se, .int tu, .int ja, .int re])), (g, .inr (iX2, [.int (nI n), .ref xa, .ref xt, .ref xm, .ref wh, .ref st, .ref xb, .ref xc])), (xm, .inl (cI, 12, .inl (me))), (xb, .inl (cF, 7, .inr (.inr (.inr (.inr (bc)))))), (cl, .inr (iX0, [.int (nI cn), .int wd, .ref xn, .ref xf])), (xn, .inl (cI, 12, .inl (nr))), (lu, .inr (iX3, [.ref yp, .ref yt, .ref yd, .ref yq, .ref yg, .ref yl, .ref yh])), (yp, .inl (cI, 6, .inl (pc)))]) s.heap := hP
  have hR : va_P (dC, dI) vwCl ([(o, .inr (iX5, [.ref g, .ref ce, .ref lu, .ref cl, .ref se, .int tu, .int ja, .int re])), (g, .inr (iX2, [.int (nI n), .ref xa, .ref xt, .ref xm, .ref wh, .ref st, .ref xb, .ref xc])), (xm, .inl (cI, 12, .inl (me))), (xb, .inl (cF, 7, .inr (.inr (.inr (.inr (bc)))))), (cl, .inr (iX0, [.int (nI cn), .int wd, .ref xn, .ref xf])), (xn, .inl (cI, 12, .inl (nr))), (lu, .inr (iX3, [.ref yp, .ref yt, .ref yd, .ref yq, .ref yg, .ref yl, .ref yh])), (yp, .inl (cI, 6, .inl (pc)))]) s.heap := hP
  have hP : va_P (dC, dI) vwCl [] s.heap := fun k q h => by simp at h
  have hD : va_D A [] := ⟨fun i j p q h => by simp at h, fun k q h => by simp at h⟩
  have hl := lv_entry ([.ref o, .int i]) (n := 2) (Nat.le_of_ble_eq_true rfl)
  rw [lg_entry_eq]
  generalize (lg_sl ([.ref o, .int i]) ++ List.replicate (2 - (lg_sl ([.ref o, .int i])).length) Slot.unset).toArray = ls at hl ⊢
  have hl : lv_has ls 2 [(0, .ref o), (1, .int i)] := hl
  have hfl_10 := hts (.fieldLink RX5 10 "Greenwheels" "gearing" "LGreenwheels$Gearing;") (by decide +kernel)
  have hin_X5 : ∀ w ∈ u_ws RX5 TX5 8, w ∈ wsX5_house := by decide +kernel
  have hfl_53 := hts (.fieldLink RX5 53 "Greenwheels$Gearing" "wheels" "I") (by decide +kernel)
  have hin_X2 : ∀ w ∈ u_ws RX2 TX2 8, w ∈ wsX5_house := by decide +kernel
  have hfl_87 := hts (.fieldLink RX5 87 "Greenwheels" "turns" "I") (by decide +kernel)
  have hfl_30 := hts (.fieldLink RX5 30 "Greenwheels" "claims" "LGreenwheels$Claims;") (by decide +kernel)
  have hfl_113 := hts (.fieldLink RX5 113 "Greenwheels$Claims" "count" "I") (by decide +kernel)
  have hin_X0 : ∀ w ∈ u_ws RX0 TX0 4, w ∈ wsX5_house := by decide +kernel
  have hfl_23 := hts (.fieldLink RX5 23 "Greenwheels" "lumps" "LGreenwheels$Lumps;") (by decide +kernel)
  have hfl_74 := hts (.fieldLink RX5 74 "Greenwheels" "jams" "I") (by decide +kernel)
  have hfl_193 := hts (.fieldLink RX5 193 "Greenwheels" "refused" "I") (by decide +kernel)
  refine lv_iload_n hx hb dX5_house_0 rfl (lv_at hl 1 rfl) ?_
  refine lv_iconst (v := 0) hx hb dX5_house_1 (by decide) ?_
  refine lv_bipush (v := 8) hx hb dX5_house_2 (by decide) ?_
  have hPc : va_P (dC, dI) vwCl [] s.heap := nilP
  have hFc := frZ hS hA
  refine va_calli (va_runS (As := [.int i, .int 0, .int 8]) (rest := []) ⟨hx, hb, hml, hown, hts⟩ (c_X5_isWithin l dC dI cI cF tr (s.heap).size i 0 8) (va_cwS 3 hts gX5_house_X5_isWithin rfl rfl rfl (by decide +kernel) ⟨Nat.le_of_ble_eq_true rfl, Nat.le_of_ble_eq_true rfl⟩) ⟨cBl, (cPre hPc hK hN)⟩ rfl rfl hl.1 rfl (lv_room (Nat.le_of_ble_eq_true rfl)) dX5_house_4 ⟨(Nat.le_of_ble_eq_true rfl), (Nat.le_of_ble_eq_true rfl)⟩) hS (fun q _ h => hFc q h) hFc (fun r_1 u t H1 locs ht hvm hw_r_1 hB hz1 hk1 hS => ?_)
  refine W.widen (k := 0) (n := 0) (Nat.le_refl _) (Nat.le_refl _) ?_
  have hP := keepP hP hk1
  have hR := keepP hR hk1
  generalize H1 = H at hP hR hS ⊢
  have hP : va_P (dC, dI) vwCl ([]) H := hP
  try dsimp only at hw_r_1
  subst hw_r_1
  have hPc : va_P (dC, dI) vwCl [] H := nilP
  have hFc := frZ hS hA
  refine va_callv (va_runS (As := [.int (withinF i 0 8)]) (rest := []) ⟨hx, hb, hml, hown, hts⟩ (c_p_X5_demandArgument l dC dI cI cF tr (H).size (withinF i 0 8) (by assumption)) (va_cwS 1 hts gX5_house_X5_demandArgument rfl rfl rfl (by decide +kernel) ⟨Nat.le_of_ble_eq_true rfl, Nat.le_of_ble_eq_true rfl⟩) ⟨cBl, (cPre hPc hK hN)⟩ rfl rfl hl.1 rfl (lv_room (Nat.le_of_ble_eq_true rfl)) dX5_house_7 ⟨(Nat.le_of_ble_eq_true rfl), (Nat.le_of_ble_eq_true rfl)⟩) hS (fun q _ h => hFc q h) hFc (fun u t H1 locs ht hvm hw_r_2 hB hz1 hk1 hS => ?_)
  refine W.widen (k := 0) (n := 0) (Nat.le_refl _) (Nat.le_refl _) ?_
  have hP := keepP hP hk1
  have hR := keepP hR hk1
  generalize H1 = H at hP hR hS ⊢
  have hP : va_P (dC, dI) vwCl ([]) H := hP
  try dsimp only at hw_r_2
  refine lv_iload_n hx hb dX5_house_10 rfl (lv_at hl 1 rfl) ?_
  by_cases c_3 : i = 0
  · refine lv_tableIn (off := 45) (tgt := 56) hx hb dX5_house_11 (by rw [c_3]; decide) (by rw [c_3]; decide) (by rw [c_3]; rfl) (by decide) ?_
    refine lv_aload_n hx hb dX5_house_56 rfl (lv_at hl 0 rfl) ?_
    refine va_get (D := (dC, dI)) (ci := iX5) (v := .ref g) (C := RX5) (T := TX5) (N := 8) hx hb hts hin_X5 hown hK hR 0 rfl rfl 0 (by decide) hfl_10 (fun _ h9 => h9) rfl dX5_house_57 ?_
    refine va_get (D := (dC, dI)) (ci := iX2) (v := .int (nI n)) (C := RX2) (T := TX2) (N := 8) hx hb hts hin_X2 hown hK hR 1 rfl rfl 0 (by decide) hfl_53 (fun _ h9 => h9) rfl dX5_house_60 ?_
    refine W.widen (k := 0) (n := 0) (by omega) (by omega) ?_
    exact W.iret (v := nI n) hx hb hr (fun t ht hW => ⟨⟨nI n, (), rfl, (by first | (simp [hsF, c_3]; done) | contradiction), trivial⟩, hS.F ht⟩) hS.2.2 dX5_house_63
  by_cases c_4 : i = 1
  · refine lv_tableIn (off := 53) (tgt := 64) hx hb dX5_house_11 (by rw [c_4]; decide) (by rw [c_4]; decide) (by rw [c_4]; rfl) (by decide) ?_
    refine lv_aload_n hx hb dX5_house_64 rfl (lv_at hl 0 rfl) ?_
    refine va_get (D := (dC, dI)) (ci := iX5) (v := .ref g) (C := RX5) (T := TX5) (N := 8) hx hb hts hin_X5 hown hK hR 0 rfl rfl 0 (by decide) hfl_10 (fun _ h9 => h9) rfl dX5_house_65 ?_
    have hPc : va_P (dC, dI) vwCl ([(g, .inr (iX2, [.int (nI n), .ref xa, .ref xt, .ref xm, .ref wh, .ref st, .ref xb, .ref xc])), (xm, .inl (cI, 12, .inl (me)))]) _ := hR.sub [1, 2] rfl
    have hFc := frZ hS hA
    refine va_calli (va_runV (As := []) (rest := []) ⟨hx, hb, hml, hown, hts⟩ (c_X2_countMeshes l dC dI cI cF tr (H).size g n xa xt xm wh st xb xc me (by assumption)) (cwV 0 hts gX5_house_X2_countMeshes rfl rfl rfl (by decide +kernel) ⟨Nat.le_of_ble_eq_true rfl, Nat.le_of_ble_eq_true rfl⟩) ⟨cBl, (va_recv hK hPc (ci := iX2) (q0 := 0) rfl rfl), (cPre hPc hK hN)⟩ rfl rfl hl.1 rfl (lv_room (Nat.le_of_ble_eq_true rfl)) dX5_house_68 ⟨(Nat.le_of_ble_eq_true rfl), (Nat.le_of_ble_eq_true rfl)⟩) hS (fun q _ h => hFc q h) hFc (fun r_5 u t H1 locs ht hvm hw_r_5 hB hz1 hk1 hS => ?_)
    refine W.widen (k := 0) (n := 0) (Nat.le_refl _) (Nat.le_refl _) ?_
    have hP := keepP hP hk1
    have hR := keepP hR hk1
    generalize H1 = H at hP hR hS ⊢
    have hP : va_P (dC, dI) vwCl ([]) H := hP
    try dsimp only at hw_r_5
    subst hw_r_5
    refine W.widen (k := 0) (n := 0) (by omega) (by omega) ?_
    exact W.iret (v := cmL me n / 2) hx hb hr (fun t ht hW => ⟨⟨cmL me n / 2, (), rfl, (by first | (simp [hsF, c_3, c_4]; done) | contradiction), trivial⟩, hS.F ht⟩) hS.2.2 dX5_house_71
  by_cases c_6 : i = 2
  · refine lv_tableIn (off := 61) (tgt := 72) hx hb dX5_house_11 (by rw [c_6]; decide) (by rw [c_6]; decide) (by rw [c_6]; rfl) (by decide) ?_
    refine lv_aload_n hx hb dX5_house_72 rfl (lv_at hl 0 rfl) ?_
    refine va_get (D := (dC, dI)) (ci := iX5) (v := .ref g) (C := RX5) (T := TX5) (N := 8) hx hb hts hin_X5 hown hK hR 0 rfl rfl 0 (by decide) hfl_10 (fun _ h9 => h9) rfl dX5_house_73 ?_
    have hPc : va_P (dC, dI) vwCl ([(g, .inr (iX2, [.int (nI n), .ref xa, .ref xt, .ref xm, .ref wh, .ref st, .ref xb, .ref xc])), (xb, .inl (cF, 7, .inr (.inr (.inr (.inr (bc))))))]) _ := hR.sub [1, 3] rfl
    have hFc := frZ hS hA
    refine va_calli (va_runV (As := []) (rest := []) ⟨hx, hb, hml, hown, hts⟩ (c_X2_countMoved l dC dI cI cF tr (H).size g n xa xt xm wh st xb xc bc) (cwV 0 hts gX5_house_X2_countMoved rfl rfl rfl (by decide +kernel) ⟨Nat.le_of_ble_eq_true rfl, Nat.le_of_ble_eq_true rfl⟩) ⟨cBl, (va_recv hK hPc (ci := iX2) (q0 := 0) rfl rfl), (cPre hPc hK hN)⟩ rfl rfl hl.1 rfl (lv_room (Nat.le_of_ble_eq_true rfl)) dX5_house_76 ⟨(Nat.le_of_ble_eq_true rfl), (Nat.le_of_ble_eq_true rfl)⟩) hS (fun q _ h => hFc q h) hFc (fun r_7 u t H1 locs ht hvm hw_r_7 hB hz1 hk1 hS => ?_)
    refine W.widen (k := 0) (n := 0) (Nat.le_refl _) (Nat.le_refl _) ?_
    have hP := keepP hP hk1
    have hR := keepP hR hk1
    generalize H1 = H at hP hR hS ⊢
    have hP : va_P (dC, dI) vwCl ([]) H := hP
    try dsimp only at hw_r_7
    subst hw_r_7
    refine W.widen (k := 0) (n := 0) (by omega) (by omega) ?_
    exact W.iret (v := cvL bc 7) hx hb hr (fun t ht hW => ⟨⟨cvL bc 7, (), rfl, (by first | (simp [hsF, c_3, c_4, c_6]; done) | contradiction), trivial⟩, hS.F ht⟩) hS.2.2 dX5_house_79
  by_cases c_8 : i = 3
  · refine lv_tableIn (off := 69) (tgt := 80) hx hb dX5_house_11 (by rw [c_8]; decide) (by rw [c_8]; decide) (by rw [c_8]; rfl) (by decide) ?_
    refine lv_aload_n hx hb dX5_house_80 rfl (lv_at hl 0 rfl) ?_
    refine va_get (D := (dC, dI)) (ci := iX5) (v := .int tu) (C := RX5) (T := TX5) (N := 8) hx hb hts hin_X5 hown hK hR 0 rfl rfl 5 (by decide) hfl_87 (fun _ h9 => h9) rfl dX5_house_81 ?_
    refine W.widen (k := 0) (n := 0) (by omega) (by omega) ?_
    exact W.iret (v := tu) hx hb hr (fun t ht hW => ⟨⟨tu, (), rfl, (by first | (simp [hsF, c_3, c_4, c_6, c_8]; done) | contradiction), trivial⟩, hS.F ht⟩) hS.2.2 dX5_house_84
  by_cases c_9 : i = 4
  · refine lv_tableIn (off := 74) (tgt := 85) hx hb dX5_house_11 (by rw [c_9]; decide) (by rw [c_9]; decide) (by rw [c_9]; rfl) (by decide) ?_
    refine lv_aload_n hx hb dX5_house_85 rfl (lv_at hl 0 rfl) ?_
    refine va_get (D := (dC, dI)) (ci := iX5) (v := .ref cl) (C := RX5) (T := TX5) (N := 8) hx hb hts hin_X5 hown hK hR 0 rfl rfl 3 (by decide) hfl_30 (fun _ h9 => h9) rfl dX5_house_86 ?_
    refine va_get (D := (dC, dI)) (ci := iX0) (v := .int (nI cn)) (C := RX0) (T := TX0) (N := 4) hx hb hts hin_X0 hown hK hR 4 rfl rfl 0 (by decide) hfl_113 (fun _ h9 => h9) rfl dX5_house_89 ?_
    refine W.widen (k := 0) (n := 0) (by omega) (by omega) ?_
    exact W.iret (v := nI cn) hx hb hr (fun t ht hW => ⟨⟨nI cn, (), rfl, (by first | (simp [hsF, c_3, c_4, c_6, c_8, c_9]; done) | contradiction), trivial⟩, hS.F ht⟩) hS.2.2 dX5_house_92
  by_cases c_10 : i = 5
  · refine lv_tableIn (off := 82) (tgt := 93) hx hb dX5_house_11 (by rw [c_10]; decide) (by rw [c_10]; decide) (by rw [c_10]; rfl) (by decide) ?_
    refine lv_aload_n hx hb dX5_house_93 rfl (lv_at hl 0 rfl) ?_
    refine va_get (D := (dC, dI)) (ci := iX5) (v := .ref cl) (C := RX5) (T := TX5) (N := 8) hx hb hts hin_X5 hown hK hR 0 rfl rfl 3 (by decide) hfl_30 (fun _ h9 => h9) rfl dX5_house_94 ?_
    have hPc : va_P (dC, dI) vwCl ([(cl, .inr (iX0, [.int (nI cn), .int wd, .ref xn, .ref xf])), (xn, .inl (cI, 12, .inl (nr)))]) _ := hR.sub [4, 5] rfl
    have hFc := frZ hS hA
    refine va_calli (va_runV (As := []) (rest := []) ⟨hx, hb, hml, hown, hts⟩ (c_X0_countStanding l dC dI cI cF tr (H).size cl cn wd xn xf nr (by assumption)) (cwV 0 hts gX5_house_X0_countStanding rfl rfl rfl (by decide +kernel) ⟨Nat.le_of_ble_eq_true rfl, Nat.le_of_ble_eq_true rfl⟩) ⟨cBl, (va_recv hK hPc (ci := iX0) (q0 := 0) rfl rfl), (cPre hPc hK hN)⟩ rfl rfl hl.1 rfl (lv_room (Nat.le_of_ble_eq_true rfl)) dX5_house_97 ⟨(Nat.le_of_ble_eq_true rfl), (Nat.le_of_ble_eq_true rfl)⟩) hS (fun q _ h => hFc q h) hFc (fun r_11 u t H1 locs ht hvm hw_r_11 hB hz1 hk1 hS => ?_)
    refine W.widen (k := 0) (n := 0) (Nat.le_refl _) (Nat.le_refl _) ?_
    have hP := keepP hP hk1
    have hR := keepP hR hk1
    generalize H1 = H at hP hR hS ⊢
    have hP : va_P (dC, dI) vwCl ([]) H := hP
    try dsimp only at hw_r_11
    subst hw_r_11
    refine W.widen (k := 0) (n := 0) (by omega) (by omega) ?_
    exact W.iret (v := bcF (stL nr wd cn)) hx hb hr (fun t ht hW => ⟨⟨bcF (stL nr wd cn), (), rfl, (by first | (simp [hsF, c_3, c_4, c_6, c_8, c_9, c_10]; done) | contradiction), trivial⟩, hS.F ht⟩) hS.2.2 dX5_house_100
  by_cases c_12 : i = 6
  · refine lv_tableIn (off := 90) (tgt := 101) hx hb dX5_house_11 (by rw [c_12]; decide) (by rw [c_12]; decide) (by rw [c_12]; rfl) (by decide) ?_
    refine lv_aload_n hx hb dX5_house_101 rfl (lv_at hl 0 rfl) ?_
    refine va_get (D := (dC, dI)) (ci := iX5) (v := .ref lu) (C := RX5) (T := TX5) (N := 8) hx hb hts hin_X5 hown hK hR 0 rfl rfl 2 (by decide) hfl_23 (fun _ h9 => h9) rfl dX5_house_102 ?_
    have hPc : va_P (dC, dI) vwCl ([(lu, .inr (iX3, [.ref yp, .ref yt, .ref yd, .ref yq, .ref yg, .ref yl, .ref yh])), (yp, .inl (cI, 6, .inl (pc)))]) _ := hR.sub [6, 7] rfl
    have hFc := frZ hS hA
    refine va_calli (va_runV (As := []) (rest := []) ⟨hx, hb, hml, hown, hts⟩ (c_X3_countPieces l dC dI cI cF tr (H).size lu yp yt yd yq yg yl yh pc) (cwV 0 hts gX5_house_X3_countPieces rfl rfl rfl (by decide +kernel) ⟨Nat.le_of_ble_eq_true rfl, Nat.le_of_ble_eq_true rfl⟩) ⟨cBl, (va_recv hK hPc (ci := iX3) (q0 := 0) rfl rfl), (cPre hPc hK hN)⟩ rfl rfl hl.1 rfl (lv_room (Nat.le_of_ble_eq_true rfl)) dX5_house_105 ⟨(Nat.le_of_ble_eq_true rfl), (Nat.le_of_ble_eq_true rfl)⟩) hS (fun q _ h => hFc q h) hFc (fun r_13 u t H1 locs ht hvm hw_r_13 hB hz1 hk1 hS => ?_)
    refine W.widen (k := 0) (n := 0) (Nat.le_refl _) (Nat.le_refl _) ?_
    have hP := keepP hP hk1
    have hR := keepP hR hk1
    generalize H1 = H at hP hR hS ⊢
    have hP : va_P (dC, dI) vwCl ([]) H := hP
    try dsimp only at hw_r_13
    subst hw_r_13
    refine W.widen (k := 0) (n := 0) (by omega) (by omega) ?_
    exact W.iret (v := cpL pc 6) hx hb hr (fun t ht hW => ⟨⟨cpL pc 6, (), rfl, (by first | (simp [hsF, c_3, c_4, c_6, c_8, c_9, c_10, c_12]; done) | contradiction), trivial⟩, hS.F ht⟩) hS.2.2 dX5_house_108
  by_cases c_14 : i = 7
  · refine lv_tableIn (off := 98) (tgt := 109) hx hb dX5_house_11 (by rw [c_14]; decide) (by rw [c_14]; decide) (by rw [c_14]; rfl) (by decide) ?_
    refine lv_aload_n hx hb dX5_house_109 rfl (lv_at hl 0 rfl) ?_
    refine va_get (D := (dC, dI)) (ci := iX5) (v := .int ja) (C := RX5) (T := TX5) (N := 8) hx hb hts hin_X5 hown hK hR 0 rfl rfl 6 (by decide) hfl_74 (fun _ h9 => h9) rfl dX5_house_110 ?_
    refine W.widen (k := 0) (n := 0) (by omega) (by omega) ?_
    exact W.iret (v := ja) hx hb hr (fun t ht hW => ⟨⟨ja, (), rfl, (by first | (simp [hsF, c_3, c_4, c_6, c_8, c_9, c_10, c_12, c_14]; done) | contradiction), trivial⟩, hS.F ht⟩) hS.2.2 dX5_house_113
  refine lv_tableOut (tgt := 114) hx hb dX5_house_11 (by have a0 := lv_neT (a := 0) c_3 rfl; have a1 := lv_neT (a := 1) c_4 rfl; have a2 := lv_neT (a := 2) c_6 rfl; have a3 := lv_neT (a := 3) c_8 rfl; have a4 := lv_neT (a := 4) c_9 rfl; have a5 := lv_neT (a := 5) c_10 rfl; have a6 := lv_neT (a := 6) c_12 rfl; have a7 := lv_neT (a := 7) c_14 rfl; omega) (by decide) ?_
  refine lv_aload_n hx hb dX5_house_114 rfl (lv_at hl 0 rfl) ?_
  refine va_get (D := (dC, dI)) (ci := iX5) (v := .int re) (C := RX5) (T := TX5) (N := 8) hx hb hts hin_X5 hown hK hR 0 rfl rfl 7 (by decide) hfl_193 (fun _ h9 => h9) rfl dX5_house_115 ?_
  refine W.widen (k := 0) (n := 0) (by omega) (by omega) ?_
  exact W.iret (v := re) hx hb hr (fun t ht hW => ⟨⟨re, (), rfl, (by first | (simp [hsF, c_3, c_4, c_6, c_8, c_9, c_10, c_12, c_14]; done) | contradiction), trivial⟩, hS.F ht⟩) hS.2.2 dX5_house_118
