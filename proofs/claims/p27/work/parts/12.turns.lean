/-! the hall: what changes it -/
set_option maxHeartbeats 4000000 in
set_option maxRecDepth 100000 in
theorem c_X5_demandWheel (l : Launch) (dC : Nat → ClassId) (dI : Nat → Nat → Nat) (cI cF : ClassId) (tr : List (ClassId × FieldType)) (sz : Nat) (hfl : l.stackTraces = false) (o : Nat) (ce : Nat) (lu : Nat) (cl : Nat) (se : Nat) (tu : Int32) (ja : Int32) (re : Int32) (g : Nat) (n : Nat) (xa : Nat) (xt : Nat) (xm : Nat) (wh : Nat) (st : Nat) (xb : Nat) (xc : Nat) (i : Int32) : vx_Met l yX5_demandWheel wsX5_demandWheel ({ frames := 7, cells := 1, slots := 6, locals := 102 } : Room) (cXc dC dI ((cI, .int) :: (cF, .object RX1) :: tr) sz ([(o, .inr (iX5, [.ref g, .ref ce, .ref lu, .ref cl, .ref se, .int tu, .int ja, .int re])), (g, .inr (iX2, [.int (nI n), .ref xa, .ref xt, .ref xm, .ref wh, .ref st, .ref xb, .ref xc]))]) (va_A ([]) sz) [.ref o, .int i]) (va_Qv (fun _ : Unit => (if withinF i 0 (nI n - 1) = 0 then some xI else none) = none) (fun _ _ => True) (va_A ([]) sz)) (vx_X (fun _ : Unit => True) (fun E _ t => (if withinF i 0 (nI n - 1) = 0 then some xI else none) = some E) (va_A ([]) sz)) 1 6 (va_A ([]) sz) := by
  refine vx_ofW (cc := cX5_demandWheel) (maxL := 2) (ret := none) (by decide) rfl ?_
  intro p e s m args below meth c s₁ B hml hET hv
  obtain ⟨rfl, hsz, hP, hK, hN, hXE0⟩ := hv
  have hx := B.exec
  have hb := B.bytes
  have hr := B.returns
  have hts := atoms_spec (ws := wsX5_demandWheel) B.pre
  have hown : s.vm.findClass RX5 = some m.cls := findClass_of_methodNamed B.named
  have hlocks := B.notSynchronized
  subst hsz
  generalize hAe : va_A [] s.heap.size = A at hXE0 ⊢
  have hA : ∀ q : Nat, s.heap.size ≤ q → A q := fun q h => by rw [← hAe]; exact Or.inr h
  have hS : va_S A s.heap s.heap [] := va_S.rf
  have hAn : ∀ q : Nat, q < s.heap.size → ¬ A q := fun q h => by rw [← hAe]; exact notZ h
  have hAg : ∀ q : Nat, A q → s.heap.size ≤ q := fun q h => geZ (hAe ▸ h)
  have hR0 : va_P (dC, dI) vwCl ([(o, .inr (iX5, [.ref g, .ref ce, .ref lu, .ref cl, .ref se, .int tu, .int ja, .int re])), (g, .inr (iX2, [.int (nI n), .ref xa, .ref xt, .ref xm, .ref wh, .ref st, .ref xb, .ref xc]))]) s.heap := hP
  have hR : va_P (dC, dI) vwCl ([(o, .inr (iX5, [.ref g, .ref ce, .ref lu, .ref cl, .ref se, .int tu, .int ja, .int re])), (g, .inr (iX2, [.int (nI n), .ref xa, .ref xt, .ref xm, .ref wh, .ref st, .ref xb, .ref xc]))]) s.heap := hP
  have hP : va_P (dC, dI) vwCl [] s.heap := fun k q h => by simp at h
  have hD : va_D A [] := ⟨fun i j p q h => by simp at h, fun k q h => by simp at h⟩
  have hl := lv_entry ([.ref o, .int i]) (n := 2) (Nat.le_of_ble_eq_true rfl)
  rw [lg_entry_eq]
  generalize (lg_sl ([.ref o, .int i]) ++ List.replicate (2 - (lg_sl ([.ref o, .int i])).length) Slot.unset).toArray = ls at hl ⊢
  have hl : lv_has ls 2 [(0, .ref o), (1, .int i)] := hl
  have hfl_10 := hts (.fieldLink RX5 10 "Greenwheels" "gearing" "LGreenwheels$Gearing;") (by decide +kernel)
  have hin_X5 : ∀ w ∈ u_ws RX5 TX5 8, w ∈ wsX5_demandWheel := by decide +kernel
  have hfl_53 := hts (.fieldLink RX5 53 "Greenwheels$Gearing" "wheels" "I") (by decide +kernel)
  have hin_X2 : ∀ w ∈ u_ws RX2 TX2 8, w ∈ wsX5_demandWheel := by decide +kernel
  refine lv_iload_n hx hb dX5_demandWheel_0 rfl (lv_at hl 1 rfl) ?_
  refine lv_iconst (v := 0) hx hb dX5_demandWheel_1 (by decide) ?_
  refine lv_aload_n hx hb dX5_demandWheel_2 rfl (lv_at hl 0 rfl) ?_
  refine va_get (D := (dC, dI)) (ci := iX5) (v := .ref g) (C := RX5) (T := TX5) (N := 8) hx hb hts hin_X5 hown hK hR 0 rfl rfl 0 (by decide) hfl_10 (fun _ h9 => h9) rfl dX5_demandWheel_3 ?_
  refine va_get (D := (dC, dI)) (ci := iX2) (v := .int (nI n)) (C := RX2) (T := TX2) (N := 8) hx hb hts hin_X2 hown hK hR 1 rfl rfl 0 (by decide) hfl_53 (fun _ h9 => h9) rfl dX5_demandWheel_6 ?_
  refine lv_iconst (v := 1) hx hb dX5_demandWheel_9 (by decide) ?_
  refine lv_isub hx hb dX5_demandWheel_10 ?_
  have hPc : va_P (dC, dI) vwCl [] s.heap := nilP
  have hFc := frZ hS hA
  refine va_calli (va_runS (As := [.int i, .int 0, .int ((nI n) - 1)]) (rest := []) ⟨hx, hb, hml, hown, hts⟩ (c_X5_isWithin l dC dI cI cF tr (s.heap).size i 0 ((nI n) - 1)) (va_cwS 3 hts gX5_demandWheel_X5_isWithin rfl rfl rfl (by decide +kernel) ⟨Nat.le_of_ble_eq_true rfl, Nat.le_of_ble_eq_true rfl⟩) ⟨cBl, (cPre hPc hK hN)⟩ rfl rfl hl.1 rfl (lv_room (Nat.le_of_ble_eq_true rfl)) dX5_demandWheel_11 ⟨(Nat.le_of_ble_eq_true rfl), (Nat.le_of_ble_eq_true rfl)⟩) hS (fun q _ h => hFc q h) hFc (fun r_1 u t H1 locs ht hvm hw_r_1 hB hz1 hk1 hS => ?_)
  refine W.widen (k := 0) (n := 0) (Nat.le_refl _) (Nat.le_refl _) ?_
  have hP := keepP hP hk1
  have hR := keepP hR hk1
  generalize H1 = H at hP hR hS ⊢
  have hP : va_P (dC, dI) vwCl ([]) H := hP
  try dsimp only at hw_r_1
  subst hw_r_1
  have hPc : va_P (dC, dI) vwCl [] H := nilP
  have hFc := frZ hS hA
  refine vx_callv (vx_runS (As := [.int (withinF i 0 ((nI n) - 1))]) (rest := []) ⟨hx, hb, hml, hown, hts⟩ (c_X5_demandIndex l dC dI cI cF tr (H).size hfl (withinF i 0 ((nI n) - 1))) (va_cwS 1 hts gX5_demandWheel_X5_demandIndex rfl rfl rfl (by decide +kernel) ⟨Nat.le_of_ble_eq_true rfl, Nat.le_of_ble_eq_true rfl⟩) ⟨cXbl, (cXpre hPc hK hN (hXE0.kept hS) hFc)⟩ rfl rfl hl.1 rfl (lv_room (Nat.le_of_ble_eq_true rfl)) dX5_demandWheel_14 ⟨(Nat.le_of_ble_eq_true rfl), (Nat.le_of_ble_eq_true rfl)⟩) hS (fun q _ h => hFc q h) hFc (fun q _ h => hFc q h) (fun E9 ce9 q9 u9 t9 H9 locs9 ht9 hvm9 hpx9 hBX9 hz9 hk9 hS9 hce9 hcv9 hcl9 => ?_) (fun u t H1 locs ht hvm hw_r_2 hB hz1 hk1 hS => ?_)
  · obtain ⟨hp9, rfl⟩ := exSome hBX9
    exact vx_out (fun x hx9 => (hET x hx9).elim) hlocks hce9 hcv9 hcl9 (fun t ht hvm => ⟨(), trivial, (by first | (simp [hp9]; done) | exact absurd hp9 (by decide)), hS9.F (ht.trans rfl)⟩) hS9.2.2 (by omega) (by omega)
  refine W.widen (k := 1) (n := 6) (by omega) (by omega) ?_
  have hP := keepP hP hk1
  have hR := keepP hR hk1
  generalize H1 = H at hP hR hS ⊢
  have hP : va_P (dC, dI) vwCl ([]) H := hP
  try dsimp only at hw_r_2
  have hn_3 := hw_r_2
  have hn_3 := exNone hn_3
  refine W.widen (k := 1) (n := 6) (by omega) (by omega) ?_
  refine vx_ret ?_
  exact W.vret hx hb hr (fun t ht hW => ⟨⟨(), rfl, (by simp [hn_3]), trivial⟩, hS.F ht⟩) hS.2.2 dX5_demandWheel_17

set_option maxHeartbeats 4000000 in
set_option maxRecDepth 100000 in
theorem c_X5_demandClaim (l : Launch) (dC : Nat → ClassId) (dI : Nat → Nat → Nat) (cI cF : ClassId) (tr : List (ClassId × FieldType)) (sz : Nat) (hfl : l.stackTraces = false) (o : Nat) (ce : Nat) (lu : Nat) (cl : Nat) (se : Nat) (tu : Int32) (ja : Int32) (re : Int32) (g : Nat) (cn : Nat) (wd : Int32) (xn : Nat) (xf : Nat) (i : Int32) : vx_Met l yX5_demandClaim wsX5_demandClaim ({ frames := 7, cells := 1, slots := 6, locals := 102 } : Room) (cXc dC dI ((cI, .int) :: (cF, .object RX1) :: tr) sz ([(o, .inr (iX5, [.ref g, .ref ce, .ref lu, .ref cl, .ref se, .int tu, .int ja, .int re])), (cl, .inr (iX0, [.int (nI cn), .int wd, .ref xn, .ref xf]))]) (va_A ([]) sz) [.ref o, .int i]) (va_Qv (fun _ : Unit => (if withinF i 0 (nI cn - 1) = 0 then some xI else none) = none) (fun _ _ => True) (va_A ([]) sz)) (vx_X (fun _ : Unit => True) (fun E _ t => (if withinF i 0 (nI cn - 1) = 0 then some xI else none) = some E) (va_A ([]) sz)) 1 6 (va_A ([]) sz) := by
  refine vx_ofW (cc := cX5_demandClaim) (maxL := 2) (ret := none) (by decide) rfl ?_
  intro p e s m args below meth c s₁ B hml hET hv
  obtain ⟨rfl, hsz, hP, hK, hN, hXE0⟩ := hv
  have hx := B.exec
  have hb := B.bytes
  have hr := B.returns
  have hts := atoms_spec (ws := wsX5_demandClaim) B.pre
  have hown : s.vm.findClass RX5 = some m.cls := findClass_of_methodNamed B.named
  have hlocks := B.notSynchronized
  subst hsz
  generalize hAe : va_A [] s.heap.size = A at hXE0 ⊢
  have hA : ∀ q : Nat, s.heap.size ≤ q → A q := fun q h => by rw [← hAe]; exact Or.inr h
  have hS : va_S A s.heap s.heap [] := va_S.rf
  have hAn : ∀ q : Nat, q < s.heap.size → ¬ A q := fun q h => by rw [← hAe]; exact notZ h
  have hAg : ∀ q : Nat, A q → s.heap.size ≤ q := fun q h => geZ (hAe ▸ h)
  have hR0 : va_P (dC, dI) vwCl ([(o, .inr (iX5, [.ref g, .ref ce, .ref lu, .ref cl, .ref se, .int tu, .int ja, .int re])), (cl, .inr (iX0, [.int (nI cn), .int wd, .ref xn, .ref xf]))]) s.heap := hP
  have hR : va_P (dC, dI) vwCl ([(o, .inr (iX5, [.ref g, .ref ce, .ref lu, .ref cl, .ref se, .int tu, .int ja, .int re])), (cl, .inr (iX0, [.int (nI cn), .int wd, .ref xn, .ref xf]))]) s.heap := hP
  have hP : va_P (dC, dI) vwCl [] s.heap := fun k q h => by simp at h
  have hD : va_D A [] := ⟨fun i j p q h => by simp at h, fun k q h => by simp at h⟩
  have hl := lv_entry ([.ref o, .int i]) (n := 2) (Nat.le_of_ble_eq_true rfl)
  rw [lg_entry_eq]
  generalize (lg_sl ([.ref o, .int i]) ++ List.replicate (2 - (lg_sl ([.ref o, .int i])).length) Slot.unset).toArray = ls at hl ⊢
  have hl : lv_has ls 2 [(0, .ref o), (1, .int i)] := hl
  have hfl_30 := hts (.fieldLink RX5 30 "Greenwheels" "claims" "LGreenwheels$Claims;") (by decide +kernel)
  have hin_X5 : ∀ w ∈ u_ws RX5 TX5 8, w ∈ wsX5_demandClaim := by decide +kernel
  have hfl_113 := hts (.fieldLink RX5 113 "Greenwheels$Claims" "count" "I") (by decide +kernel)
  have hin_X0 : ∀ w ∈ u_ws RX0 TX0 4, w ∈ wsX5_demandClaim := by decide +kernel
  refine lv_iload_n hx hb dX5_demandClaim_0 rfl (lv_at hl 1 rfl) ?_
  refine lv_iconst (v := 0) hx hb dX5_demandClaim_1 (by decide) ?_
  refine lv_aload_n hx hb dX5_demandClaim_2 rfl (lv_at hl 0 rfl) ?_
  refine va_get (D := (dC, dI)) (ci := iX5) (v := .ref cl) (C := RX5) (T := TX5) (N := 8) hx hb hts hin_X5 hown hK hR 0 rfl rfl 3 (by decide) hfl_30 (fun _ h9 => h9) rfl dX5_demandClaim_3 ?_
  refine va_get (D := (dC, dI)) (ci := iX0) (v := .int (nI cn)) (C := RX0) (T := TX0) (N := 4) hx hb hts hin_X0 hown hK hR 1 rfl rfl 0 (by decide) hfl_113 (fun _ h9 => h9) rfl dX5_demandClaim_6 ?_
  refine lv_iconst (v := 1) hx hb dX5_demandClaim_9 (by decide) ?_
  refine lv_isub hx hb dX5_demandClaim_10 ?_
  have hPc : va_P (dC, dI) vwCl [] s.heap := nilP
  have hFc := frZ hS hA
  refine va_calli (va_runS (As := [.int i, .int 0, .int ((nI cn) - 1)]) (rest := []) ⟨hx, hb, hml, hown, hts⟩ (c_X5_isWithin l dC dI cI cF tr (s.heap).size i 0 ((nI cn) - 1)) (va_cwS 3 hts gX5_demandClaim_X5_isWithin rfl rfl rfl (by decide +kernel) ⟨Nat.le_of_ble_eq_true rfl, Nat.le_of_ble_eq_true rfl⟩) ⟨cBl, (cPre hPc hK hN)⟩ rfl rfl hl.1 rfl (lv_room (Nat.le_of_ble_eq_true rfl)) dX5_demandClaim_11 ⟨(Nat.le_of_ble_eq_true rfl), (Nat.le_of_ble_eq_true rfl)⟩) hS (fun q _ h => hFc q h) hFc (fun r_1 u t H1 locs ht hvm hw_r_1 hB hz1 hk1 hS => ?_)
  refine W.widen (k := 0) (n := 0) (Nat.le_refl _) (Nat.le_refl _) ?_
  have hP := keepP hP hk1
  have hR := keepP hR hk1
  generalize H1 = H at hP hR hS ⊢
  have hP : va_P (dC, dI) vwCl ([]) H := hP
  try dsimp only at hw_r_1
  subst hw_r_1
  have hPc : va_P (dC, dI) vwCl [] H := nilP
  have hFc := frZ hS hA
  refine vx_callv (vx_runS (As := [.int (withinF i 0 ((nI cn) - 1))]) (rest := []) ⟨hx, hb, hml, hown, hts⟩ (c_X5_demandIndex l dC dI cI cF tr (H).size hfl (withinF i 0 ((nI cn) - 1))) (va_cwS 1 hts gX5_demandClaim_X5_demandIndex rfl rfl rfl (by decide +kernel) ⟨Nat.le_of_ble_eq_true rfl, Nat.le_of_ble_eq_true rfl⟩) ⟨cXbl, (cXpre hPc hK hN (hXE0.kept hS) hFc)⟩ rfl rfl hl.1 rfl (lv_room (Nat.le_of_ble_eq_true rfl)) dX5_demandClaim_14 ⟨(Nat.le_of_ble_eq_true rfl), (Nat.le_of_ble_eq_true rfl)⟩) hS (fun q _ h => hFc q h) hFc (fun q _ h => hFc q h) (fun E9 ce9 q9 u9 t9 H9 locs9 ht9 hvm9 hpx9 hBX9 hz9 hk9 hS9 hce9 hcv9 hcl9 => ?_) (fun u t H1 locs ht hvm hw_r_2 hB hz1 hk1 hS => ?_)
  · obtain ⟨hp9, rfl⟩ := exSome hBX9
    exact vx_out (fun x hx9 => (hET x hx9).elim) hlocks hce9 hcv9 hcl9 (fun t ht hvm => ⟨(), trivial, (by first | (simp [hp9]; done) | exact absurd hp9 (by decide)), hS9.F (ht.trans rfl)⟩) hS9.2.2 (by omega) (by omega)
  refine W.widen (k := 1) (n := 6) (by omega) (by omega) ?_
  have hP := keepP hP hk1
  have hR := keepP hR hk1
  generalize H1 = H at hP hR hS ⊢
  have hP : va_P (dC, dI) vwCl ([]) H := hP
  try dsimp only at hw_r_2
  have hn_3 := hw_r_2
  have hn_3 := exNone hn_3
  refine W.widen (k := 1) (n := 6) (by omega) (by omega) ?_
  refine vx_ret ?_
  exact W.vret hx hb hr (fun t ht hW => ⟨⟨(), rfl, (by simp [hn_3]), trivial⟩, hS.F ht⟩) hS.2.2 dX5_demandClaim_17

set_option maxHeartbeats 4000000 in
set_option maxRecDepth 100000 in
theorem c_X5_wheel (l : Launch) (dC : Nat → ClassId) (dI : Nat → Nat → Nat) (cI cF : ClassId) (tr : List (ClassId × FieldType)) (sz : Nat) (hfl : l.stackTraces = false) (o : Nat) (ce : Nat) (lu : Nat) (cl : Nat) (se : Nat) (tu : Int32) (ja : Int32) (re : Int32) (g : Nat) (n : Nat) (xa : Nat) (xt : Nat) (xm : Nat) (wh : Nat) (st : Nat) (xb : Nat) (xc : Nat) (ax : Nat → Int32) (te : Nat → Int32) (i : Int32) (j : Int32) : vx_Met l yX5_wheel wsX5_wheel ({ frames := 8, cells := 3, slots := 18, locals := 122 } : Room) (cXd dC dI ((cI, .int) :: (cF, .object RX1) :: tr) sz ([(o, .inr (iX5, [.ref g, .ref ce, .ref lu, .ref cl, .ref se, .int tu, .int ja, .int re])), (g, .inr (iX2, [.int (nI n), .ref xa, .ref xt, .ref xm, .ref wh, .ref st, .ref xb, .ref xc])), (xa, .inl (cI, 12, .inl (ax))), (xt, .inl (cI, 12, .inl (te)))]) (va_A ([(o, .inr (iX5, [.ref g, .ref ce, .ref lu, .ref cl, .ref se, .int tu, .int ja, .int re])), (g, .inr (iX2, [.int (nI n), .ref xa, .ref xt, .ref xm, .ref wh, .ref st, .ref xb, .ref xc])), (xa, .inl (cI, 12, .inl (ax))), (xt, .inl (cI, 12, .inl (te)))]) sz) [.ref o, .int i, .int j]) (va_Qi (fun (r : Int32) (_ : Unit) => (if withinF i 0 6 = 0 then some xI else if withinF j 4 100 = 0 then some xA else if (12 : Int32) ≤ nI n then some xS else none) = none ∧ r = nI n) (fun _ t => va_P (dC, dI) vwCl ([(o, .inr (iX5, [.ref g, .ref ce, .ref lu, .ref cl, .ref se, .int tu, .int ja, .int re])), (g, .inr (iX2, [.int (nI (n + 1)), .ref xa, .ref xt, .ref xm, .ref wh, .ref st, .ref xb, .ref xc])), (xa, .inl (cI, 12, .inl (putF 12 ax (nI n) i))), (xt, .inl (cI, 12, .inl (putF 12 te (nI n) j)))]) t.heap ∧ va_D (va_A ([(o, .inr (iX5, [.ref g, .ref ce, .ref lu, .ref cl, .ref se, .int tu, .int ja, .int re])), (g, .inr (iX2, [.int (nI n), .ref xa, .ref xt, .ref xm, .ref wh, .ref st, .ref xb, .ref xc])), (xa, .inl (cI, 12, .inl (ax))), (xt, .inl (cI, 12, .inl (te)))]) sz) ([(o, .inr (iX5, [.ref g, .ref ce, .ref lu, .ref cl, .ref se, .int tu, .int ja, .int re])), (g, .inr (iX2, [.int (nI (n + 1)), .ref xa, .ref xt, .ref xm, .ref wh, .ref st, .ref xb, .ref xc])), (xa, .inl (cI, 12, .inl (putF 12 ax (nI n) i))), (xt, .inl (cI, 12, .inl (putF 12 te (nI n) j)))])) (va_A ([(o, .inr (iX5, [.ref g, .ref ce, .ref lu, .ref cl, .ref se, .int tu, .int ja, .int re])), (g, .inr (iX2, [.int (nI n), .ref xa, .ref xt, .ref xm, .ref wh, .ref st, .ref xb, .ref xc])), (xa, .inl (cI, 12, .inl (ax))), (xt, .inl (cI, 12, .inl (te)))]) sz)) (vx_X (fun _ : Unit => True) (fun E _ t => (if withinF i 0 6 = 0 then some xI else if withinF j 4 100 = 0 then some xA else if (12 : Int32) ≤ nI n then some xS else none) = some E ∧ va_P (dC, dI) vwCl ([(o, .inr (iX5, [.ref g, .ref ce, .ref lu, .ref cl, .ref se, .int tu, .int ja, .int re])), (g, .inr (iX2, [.int (nI n), .ref xa, .ref xt, .ref xm, .ref wh, .ref st, .ref xb, .ref xc])), (xa, .inl (cI, 12, .inl (ax))), (xt, .inl (cI, 12, .inl (te)))]) t.heap ∧ va_D (va_A ([(o, .inr (iX5, [.ref g, .ref ce, .ref lu, .ref cl, .ref se, .int tu, .int ja, .int re])), (g, .inr (iX2, [.int (nI n), .ref xa, .ref xt, .ref xm, .ref wh, .ref st, .ref xb, .ref xc])), (xa, .inl (cI, 12, .inl (ax))), (xt, .inl (cI, 12, .inl (te)))]) sz) ([(o, .inr (iX5, [.ref g, .ref ce, .ref lu, .ref cl, .ref se, .int tu, .int ja, .int re])), (g, .inr (iX2, [.int (nI n), .ref xa, .ref xt, .ref xm, .ref wh, .ref st, .ref xb, .ref xc])), (xa, .inl (cI, 12, .inl (ax))), (xt, .inl (cI, 12, .inl (te)))])) (va_A ([(o, .inr (iX5, [.ref g, .ref ce, .ref lu, .ref cl, .ref se, .int tu, .int ja, .int re])), (g, .inr (iX2, [.int (nI n), .ref xa, .ref xt, .ref xm, .ref wh, .ref st, .ref xb, .ref xc])), (xa, .inl (cI, 12, .inl (ax))), (xt, .inl (cI, 12, .inl (te)))]) sz)) 3 18 (va_A ([(o, .inr (iX5, [.ref g, .ref ce, .ref lu, .ref cl, .ref se, .int tu, .int ja, .int re])), (g, .inr (iX2, [.int (nI n), .ref xa, .ref xt, .ref xm, .ref wh, .ref st, .ref xb, .ref xc])), (xa, .inl (cI, 12, .inl (ax))), (xt, .inl (cI, 12, .inl (te)))]) sz) := by
  refine vx_ofW (cc := cX5_wheel) (maxL := 3) (ret := (some .int)) (by decide) rfl ?_
  intro p e s m args below meth c s₁ B hml hET hv
  obtain ⟨rfl, hsz, hP, hK, hN, hXE0, hD0⟩ := hv
  have hx := B.exec
  have hb := B.bytes
  have hr := B.returns
  have hts := atoms_spec (ws := wsX5_wheel) B.pre
  have hown : s.vm.findClass RX5 = some m.cls := findClass_of_methodNamed B.named
  have hlocks := B.notSynchronized
  subst hsz
  have hD := hD0.self (sz := s.heap.size)
  generalize hAe : va_A ([(o, .inr (iX5, [.ref g, .ref ce, .ref lu, .ref cl, .ref se, .int tu, .int ja, .int re])), (g, .inr (iX2, [.int (nI n), .ref xa, .ref xt, .ref xm, .ref wh, .ref st, .ref xb, .ref xc])), (xa, .inl (cI, 12, .inl (ax))), (xt, .inl (cI, 12, .inl (te)))]) s.heap.size = A at hD hXE0 ⊢
  have hA : ∀ q : Nat, s.heap.size ≤ q → A q := fun q h => by rw [← hAe]; exact Or.inr h
  have hS : va_S A s.heap s.heap [] := va_S.rf
  have hP : va_P (dC, dI) vwCl ([(o, .inr (iX5, [.ref g, .ref ce, .ref lu, .ref cl, .ref se, .int tu, .int ja, .int re])), (g, .inr (iX2, [.int (nI n), .ref xa, .ref xt, .ref xm, .ref wh, .ref st, .ref xb, .ref xc])), (xa, .inl (cI, 12, .inl (ax))), (xt, .inl (cI, 12, .inl (te)))]) s.heap := hP
  have hl := lv_entry ([.ref o, .int i, .int j]) (n := 3) (Nat.le_of_ble_eq_true rfl)
  rw [lg_entry_eq]
  generalize (lg_sl ([.ref o, .int i, .int j]) ++ List.replicate (3 - (lg_sl ([.ref o, .int i, .int j])).length) Slot.unset).toArray = ls at hl ⊢
  have hl : lv_has ls 3 [(0, .ref o), (1, .int i), (2, .int j)] := hl
  have hfl_10 := hts (.fieldLink RX5 10 "Greenwheels" "gearing" "LGreenwheels$Gearing;") (by decide +kernel)
  have hin_X5 : ∀ w ∈ u_ws RX5 TX5 8, w ∈ wsX5_wheel := by decide +kernel
  have hfl_53 := hts (.fieldLink RX5 53 "Greenwheels$Gearing" "wheels" "I") (by decide +kernel)
  have hin_X2 : ∀ w ∈ u_ws RX2 TX2 8, w ∈ wsX5_wheel := by decide +kernel
  refine lv_iload_n hx hb dX5_wheel_0 rfl (lv_at hl 1 rfl) ?_
  have hPc : va_P (dC, dI) vwCl [] s.heap := nilP
  have hFc := frZ hS hA
  refine vx_callv (vx_runS (As := [.int i]) (rest := []) ⟨hx, hb, hml, hown, hts⟩ (c_X5_demandAxle l dC dI cI cF tr (s.heap).size hfl i) (va_cwS 1 hts gX5_wheel_X5_demandAxle rfl rfl rfl (by decide +kernel) ⟨Nat.le_of_ble_eq_true rfl, Nat.le_of_ble_eq_true rfl⟩) ⟨cXbl, (cXpre hPc hK hN (hXE0.kept hS) hFc)⟩ rfl rfl hl.1 rfl (lv_room (Nat.le_of_ble_eq_true rfl)) dX5_wheel_1 ⟨(Nat.le_of_ble_eq_true rfl), (Nat.le_of_ble_eq_true rfl)⟩) hS (fun q _ h => hFc q h) hFc (fun q _ h => hFc q h) (fun E9 ce9 q9 u9 t9 H9 locs9 ht9 hvm9 hpx9 hBX9 hz9 hk9 hS9 hce9 hcv9 hcl9 => ?_) (fun u t H1 locs ht hvm hw_r_1 hB hz1 hk1 hS => ?_)
  · obtain ⟨hp9, rfl⟩ := exSome hBX9
    have hP := keepP hP hk9
    exact vx_out (fun x hx9 => (hET x hx9).elim) hlocks hce9 hcv9 hcl9 (fun t ht hvm => ⟨(), trivial, ⟨(by first | (simp [hp9]; done) | exact absurd hp9 (by decide)), by rw [ht]; exact hP, hAe ▸ hD⟩, hS9.F (ht.trans rfl)⟩) hS9.2.2 (by omega) (by omega)
  refine W.widen (k := 1) (n := 6) (by omega) (by omega) ?_
  have hP := keepP hP hk1
  generalize H1 = H at hP hS ⊢
  have hP : va_P (dC, dI) vwCl ([(o, .inr (iX5, [.ref g, .ref ce, .ref lu, .ref cl, .ref se, .int tu, .int ja, .int re])), (g, .inr (iX2, [.int (nI n), .ref xa, .ref xt, .ref xm, .ref wh, .ref st, .ref xb, .ref xc])), (xa, .inl (cI, 12, .inl (ax))), (xt, .inl (cI, 12, .inl (te)))]) H := hP
  try dsimp only at hw_r_1
  have hn_2 := hw_r_1
  have hn_2 := exNone hn_2
  refine lv_iload_n hx hb dX5_wheel_4 rfl (lv_at hl 2 rfl) ?_
  refine lv_iconst (v := 4) hx hb dX5_wheel_5 (by decide) ?_
  refine lv_bipush (v := 100) hx hb dX5_wheel_6 (by decide) ?_
  have hPc : va_P (dC, dI) vwCl [] H := nilP
  have hFc := frZ hS hA
  refine va_calli (va_runS (As := [.int j, .int 4, .int 100]) (rest := []) ⟨hx, hb, hml, hown, hts⟩ (c_X5_isWithin l dC dI cI cF tr (H).size j 4 100) (va_cwS 3 hts gX5_wheel_X5_isWithin rfl rfl rfl (by decide +kernel) ⟨Nat.le_of_ble_eq_true rfl, Nat.le_of_ble_eq_true rfl⟩) ⟨cBl, (cPre hPc hK hN)⟩ rfl rfl hl.1 rfl (lv_room (Nat.le_of_ble_eq_true rfl)) dX5_wheel_8 ⟨(Nat.le_of_ble_eq_true rfl), (Nat.le_of_ble_eq_true rfl)⟩) hS (fun q _ h => hFc q h) hFc (fun r_3 u t H1 locs ht hvm hw_r_3 hB hz1 hk1 hS => ?_)
  refine W.widen (k := 1) (n := 6) (Nat.le_refl _) (Nat.le_refl _) ?_
  have hP := keepP hP hk1
  generalize H1 = H at hP hS ⊢
  have hP : va_P (dC, dI) vwCl ([(o, .inr (iX5, [.ref g, .ref ce, .ref lu, .ref cl, .ref se, .int tu, .int ja, .int re])), (g, .inr (iX2, [.int (nI n), .ref xa, .ref xt, .ref xm, .ref wh, .ref st, .ref xb, .ref xc])), (xa, .inl (cI, 12, .inl (ax))), (xt, .inl (cI, 12, .inl (te)))]) H := hP
  try dsimp only at hw_r_3
  subst hw_r_3
  have hPc : va_P (dC, dI) vwCl [] H := nilP
  have hFc := frZ hS hA
  refine vx_callv (vx_runS (As := [.int (withinF j 4 100)]) (rest := []) ⟨hx, hb, hml, hown, hts⟩ (c_X5_demandArgument l dC dI cI cF tr (H).size hfl (withinF j 4 100)) (va_cwS 1 hts gX5_wheel_X5_demandArgument rfl rfl rfl (by decide +kernel) ⟨Nat.le_of_ble_eq_true rfl, Nat.le_of_ble_eq_true rfl⟩) ⟨cXbl, (cXpre hPc hK hN (hXE0.kept hS) hFc)⟩ rfl rfl hl.1 rfl (lv_room (Nat.le_of_ble_eq_true rfl)) dX5_wheel_11 ⟨(Nat.le_of_ble_eq_true rfl), (Nat.le_of_ble_eq_true rfl)⟩) hS (fun q _ h => hFc q h) hFc (fun q _ h => hFc q h) (fun E9 ce9 q9 u9 t9 H9 locs9 ht9 hvm9 hpx9 hBX9 hz9 hk9 hS9 hce9 hcv9 hcl9 => ?_) (fun u t H1 locs ht hvm hw_r_4 hB hz1 hk1 hS => ?_)
  · obtain ⟨hp9, rfl⟩ := exSome hBX9
    have hP := keepP hP hk9
    exact vx_out (fun x hx9 => (hET x hx9).elim) hlocks hce9 hcv9 hcl9 (fun t ht hvm => ⟨(), trivial, ⟨(by first | (simp [hn_2, hp9]; done) | exact absurd hp9 (by decide)), by rw [ht]; exact hP, hAe ▸ hD⟩, hS9.F (ht.trans rfl)⟩) hS9.2.2 (by omega) (by omega)
  refine W.widen (k := 2) (n := 12) (by omega) (by omega) ?_
  have hP := keepP hP hk1
  generalize H1 = H at hP hS ⊢
  have hP : va_P (dC, dI) vwCl ([(o, .inr (iX5, [.ref g, .ref ce, .ref lu, .ref cl, .ref se, .int tu, .int ja, .int re])), (g, .inr (iX2, [.int (nI n), .ref xa, .ref xt, .ref xm, .ref wh, .ref st, .ref xb, .ref xc])), (xa, .inl (cI, 12, .inl (ax))), (xt, .inl (cI, 12, .inl (te)))]) H := hP
  try dsimp only at hw_r_4
  have hn_5 := hw_r_4
  have hn_5 := exNone hn_5
  refine lv_aload_n hx hb dX5_wheel_14 rfl (lv_at hl 0 rfl) ?_
  refine va_get (D := (dC, dI)) (ci := iX5) (v := .ref g) (C := RX5) (T := TX5) (N := 8) hx hb hts hin_X5 hown hK hP 0 rfl rfl 0 (by decide) hfl_10 (fun _ h9 => h9) rfl dX5_wheel_15 ?_
  refine va_get (D := (dC, dI)) (ci := iX2) (v := .int (nI n)) (C := RX2) (T := TX2) (N := 8) hx hb hts hin_X2 hown hK hP 1 rfl rfl 0 (by decide) hfl_53 (fun _ h9 => h9) rfl dX5_wheel_18 ?_
  refine lv_bipush (v := 12) hx hb dX5_wheel_21 (by decide) ?_
  refine lv_icmp_ge (tgt := 30) hx hb dX5_wheel_23 (by decide) (fun c_6 => ?_) (fun c_6 => ?_)
  · refine lv_iconst (v := 0) hx hb dX5_wheel_30 (by decide) ?_
    have hPc : va_P (dC, dI) vwCl [] H := nilP
    have hFc := frZ hS hA
    refine vx_callv (vx_runS (As := [.int 0]) (rest := []) ⟨hx, hb, hml, hown, hts⟩ (c_X5_demandState l dC dI cI cF tr (H).size hfl 0) (va_cwS 1 hts gX5_wheel_X5_demandState rfl rfl rfl (by decide +kernel) ⟨Nat.le_of_ble_eq_true rfl, Nat.le_of_ble_eq_true rfl⟩) ⟨cXbl, (cXpre hPc hK hN (hXE0.kept hS) hFc)⟩ rfl rfl hl.1 rfl (lv_room (Nat.le_of_ble_eq_true rfl)) dX5_wheel_31 ⟨(Nat.le_of_ble_eq_true rfl), (Nat.le_of_ble_eq_true rfl)⟩) hS (fun q _ h => hFc q h) hFc (fun q _ h => hFc q h) (fun E9 ce9 q9 u9 t9 H9 locs9 ht9 hvm9 hpx9 hBX9 hz9 hk9 hS9 hce9 hcv9 hcl9 => ?_) (fun u t H1 locs ht hvm hw_r_7 hB hz1 hk1 hS => ?_)
    · obtain ⟨hp9, rfl⟩ := exSome hBX9
      have hP := keepP hP hk9
      exact vx_out (fun x hx9 => (hET x hx9).elim) hlocks hce9 hcv9 hcl9 (fun t ht hvm => ⟨(), trivial, ⟨(by first | (simp [hn_2, hn_5, c_6, hp9]; done) | exact absurd hp9 (by decide)), by rw [ht]; exact hP, hAe ▸ hD⟩, hS9.F (ht.trans rfl)⟩) hS9.2.2 (by omega) (by omega)
    refine W.widen (k := 3) (n := 18) (by omega) (by omega) ?_
    have hP := keepP hP hk1
    generalize H1 = H at hP hS ⊢
    have hP : va_P (dC, dI) vwCl ([(o, .inr (iX5, [.ref g, .ref ce, .ref lu, .ref cl, .ref se, .int tu, .int ja, .int re])), (g, .inr (iX2, [.int (nI n), .ref xa, .ref xt, .ref xm, .ref wh, .ref st, .ref xb, .ref xc])), (xa, .inl (cI, 12, .inl (ax))), (xt, .inl (cI, 12, .inl (te)))]) H := hP
    try dsimp only at hw_r_7
    have hn_8 := hw_r_7
    have hn_8 := exNone hn_8
    exact absurd rfl hn_8
  · refine lv_iconst (v := 1) hx hb dX5_wheel_26 (by decide) ?_
    refine lv_goto (tgt := 31) hx hb dX5_wheel_27 (by decide) ?_
    have hPc : va_P (dC, dI) vwCl [] H := nilP
    have hFc := frZ hS hA
    refine vx_callv (vx_runS (As := [.int 1]) (rest := []) ⟨hx, hb, hml, hown, hts⟩ (c_X5_demandState l dC dI cI cF tr (H).size hfl 1) (va_cwS 1 hts gX5_wheel_X5_demandState rfl rfl rfl (by decide +kernel) ⟨Nat.le_of_ble_eq_true rfl, Nat.le_of_ble_eq_true rfl⟩) ⟨cXbl, (cXpre hPc hK hN (hXE0.kept hS) hFc)⟩ rfl rfl hl.1 rfl (lv_room (Nat.le_of_ble_eq_true rfl)) dX5_wheel_31 ⟨(Nat.le_of_ble_eq_true rfl), (Nat.le_of_ble_eq_true rfl)⟩) hS (fun q _ h => hFc q h) hFc (fun q _ h => hFc q h) (fun E9 ce9 q9 u9 t9 H9 locs9 ht9 hvm9 hpx9 hBX9 hz9 hk9 hS9 hce9 hcv9 hcl9 => ?_) (fun u t H1 locs ht hvm hw_r_9 hB hz1 hk1 hS => ?_)
    · obtain ⟨hp9, rfl⟩ := exSome hBX9
      have hP := keepP hP hk9
      exact vx_out (fun x hx9 => (hET x hx9).elim) hlocks hce9 hcv9 hcl9 (fun t ht hvm => ⟨(), trivial, ⟨(by first | (simp [hn_2, hn_5, c_6, hp9]; done) | exact absurd hp9 (by decide)), by rw [ht]; exact hP, hAe ▸ hD⟩, hS9.F (ht.trans rfl)⟩) hS9.2.2 (by omega) (by omega)
    refine W.widen (k := 3) (n := 18) (by omega) (by omega) ?_
    have hP := keepP hP hk1
    generalize H1 = H at hP hS ⊢
    have hP : va_P (dC, dI) vwCl ([(o, .inr (iX5, [.ref g, .ref ce, .ref lu, .ref cl, .ref se, .int tu, .int ja, .int re])), (g, .inr (iX2, [.int (nI n), .ref xa, .ref xt, .ref xm, .ref wh, .ref st, .ref xb, .ref xc])), (xa, .inl (cI, 12, .inl (ax))), (xt, .inl (cI, 12, .inl (te)))]) H := hP
    try dsimp only at hw_r_9
    have hn_10 := hw_r_9
    have hn_10 := exNone hn_10
    refine lv_aload_n hx hb dX5_wheel_34 rfl (lv_at hl 0 rfl) ?_
    refine va_get (D := (dC, dI)) (ci := iX5) (v := .ref g) (C := RX5) (T := TX5) (N := 8) hx hb hts hin_X5 hown hK hP 0 rfl rfl 0 (by decide) hfl_10 (fun _ h9 => h9) rfl dX5_wheel_35 ?_
    refine lv_iload_n hx hb dX5_wheel_38 rfl (lv_at hl 1 rfl) ?_
    refine lv_iload_n hx hb dX5_wheel_39 rfl (lv_at hl 2 rfl) ?_
    have hPc : va_P (dC, dI) vwCl ([(g, .inr (iX2, [.int (nI n), .ref xa, .ref xt, .ref xm, .ref wh, .ref st, .ref xb, .ref xc])), (xa, .inl (cI, 12, .inl (ax))), (xt, .inl (cI, 12, .inl (te)))]) _ := hP.sub [1, 2, 3] rfl
    have hDc : va_D (fun _ => True) ([(g, .inr (iX2, [.int (nI n), .ref xa, .ref xt, .ref xm, .ref wh, .ref st, .ref xb, .ref xc])), (xa, .inl (cI, 12, .inl (ax))), (xt, .inl (cI, 12, .inl (te)))]) := (hD.sub (ws' := [(g, .inr (iX2, [.int (nI n), .ref xa, .ref xt, .ref xm, .ref wh, .ref st, .ref xb, .ref xc])), (xa, .inl (cI, 12, .inl (ax))), (xt, .inl (cI, 12, .inl (te)))]) [1, 2, 3] (by decide) rfl).weaken (fun _ _ _ _ => trivial)
    have hFc := va_free (wc := [(g, .inr (iX2, [.int (nI n), .ref xa, .ref xt, .ref xm, .ref wh, .ref st, .ref xb, .ref xc])), (xa, .inl (cI, 12, .inl (ax))), (xt, .inl (cI, 12, .inl (te)))]) hD hS hA [1, 2, 3] rfl
    refine va_calli (va_runV (As := [.int i, .int j]) (rest := []) ⟨hx, hb, hml, hown, hts⟩ (c_X2_addWheel l dC dI cI cF tr (H).size g n xa xt xm wh st xb xc ax te i j) (cwV 2 hts gX5_wheel_X2_addWheel rfl rfl rfl (by decide +kernel) ⟨Nat.le_of_ble_eq_true rfl, Nat.le_of_ble_eq_true rfl⟩) ⟨cDbl, (va_recv hK hPc (ci := iX2) (q0 := 0) rfl rfl), (cDpre hPc hK hN hDc)⟩ rfl rfl hl.1 rfl (lv_room (Nat.le_of_ble_eq_true rfl)) dX5_wheel_40 ⟨(Nat.le_of_ble_eq_true rfl), (Nat.le_of_ble_eq_true rfl)⟩) hS (fun q _ h => hFc q h) hFc (fun r_11 u t H1 locs ht hvm hw_r_11 hB hz1 hk1 hS => ?_)
    refine W.widen (k := 3) (n := 18) (Nat.le_refl _) (Nat.le_refl _) ?_
    obtain ⟨hP1, hD1⟩ := hB
    rw [ht] at hP1
    obtain ⟨hP, hD⟩ := va_join (wr := [(o, .inr (iX5, [.ref g, .ref ce, .ref lu, .ref cl, .ref se, .int tu, .int ja, .int re]))]) (w1 := [(g, .inr (iX2, [.int (nI (n + 1)), .ref xa, .ref xt, .ref xm, .ref wh, .ref st, .ref xb, .ref xc])), (xa, .inl (cI, 12, .inl (putF 12 ax (nI n) i))), (xt, .inl (cI, 12, .inl (putF 12 te (nI n) j)))]) hP hD [1, 2, 3] [0] rfl rfl (by decide) (by decide) hk1 hFc hP1 hD1
    have hD := hD.sub (ws' := [(o, .inr (iX5, [.ref g, .ref ce, .ref lu, .ref cl, .ref se, .int tu, .int ja, .int re])), (g, .inr (iX2, [.int (nI (n + 1)), .ref xa, .ref xt, .ref xm, .ref wh, .ref st, .ref xb, .ref xc])), (xa, .inl (cI, 12, .inl (putF 12 ax (nI n) i))), (xt, .inl (cI, 12, .inl (putF 12 te (nI n) j)))]) [0, 1, 2, 3] (by decide) rfl
    have hP : va_P (dC, dI) vwCl ([(o, .inr (iX5, [.ref g, .ref ce, .ref lu, .ref cl, .ref se, .int tu, .int ja, .int re])), (g, .inr (iX2, [.int (nI (n + 1)), .ref xa, .ref xt, .ref xm, .ref wh, .ref st, .ref xb, .ref xc])), (xa, .inl (cI, 12, .inl (putF 12 ax (nI n) i))), (xt, .inl (cI, 12, .inl (putF 12 te (nI n) j)))]) H1 := hP.sub [0, 1, 2, 3] rfl
    generalize H1 = H at hP hS ⊢
    have hP : va_P (dC, dI) vwCl ([(o, .inr (iX5, [.ref g, .ref ce, .ref lu, .ref cl, .ref se, .int tu, .int ja, .int re])), (g, .inr (iX2, [.int (nI (n + 1)), .ref xa, .ref xt, .ref xm, .ref wh, .ref st, .ref xb, .ref xc])), (xa, .inl (cI, 12, .inl (putF 12 ax (nI n) i))), (xt, .inl (cI, 12, .inl (putF 12 te (nI n) j)))]) H := hP
    have hD : va_D A ([(o, .inr (iX5, [.ref g, .ref ce, .ref lu, .ref cl, .ref se, .int tu, .int ja, .int re])), (g, .inr (iX2, [.int (nI (n + 1)), .ref xa, .ref xt, .ref xm, .ref wh, .ref st, .ref xb, .ref xc])), (xa, .inl (cI, 12, .inl (putF 12 ax (nI n) i))), (xt, .inl (cI, 12, .inl (putF 12 te (nI n) j)))]) := hD
    try dsimp only at hw_r_11
    subst hw_r_11
    refine W.widen (k := 3) (n := 18) (by omega) (by omega) ?_
    refine vx_ret ?_
    exact W.iret (v := nI n) hx hb hr (fun t ht hW => ⟨⟨nI n, (), rfl, ⟨(by simp [hn_2, hn_5, c_6, hn_10]), (by first | rfl | (simp [hn_2, hn_5, c_6, hn_10]; done) | contradiction)⟩, ⟨by rw [ht]; exact hP, hAe ▸ hD⟩⟩, hS.F ht⟩) hS.2.2 dX5_wheel_43

set_option maxHeartbeats 4000000 in
set_option maxRecDepth 100000 in
theorem c_X5_turn (l : Launch) (dC : Nat → ClassId) (dI : Nat → Nat → Nat) (cI cF : ClassId) (tr : List (ClassId × FieldType)) (sz : Nat) (hfl : l.stackTraces = false) (o : Nat) (ce : Nat) (lu : Nat) (cl : Nat) (se : Nat) (tu : Int32) (ja : Int32) (re : Int32) (g : Nat) (i : Int32) : vx_Met l yX5_turn wsX5_turn ({ frames := 7, cells := 2, slots := 12, locals := 102 } : Room) (cXd dC dI ((cI, .int) :: (cF, .object RX1) :: tr) sz ([(o, .inr (iX5, [.ref g, .ref ce, .ref lu, .ref cl, .ref se, .int tu, .int ja, .int re]))]) (va_A ([(o, .inr (iX5, [.ref g, .ref ce, .ref lu, .ref cl, .ref se, .int tu, .int ja, .int re]))]) sz) [.ref o, .int i]) (va_Qi (fun (r : Int32) (_ : Unit) => (if withinF i (-999) 999 = 0 then some xA else if withinF (tu + i) (-9999) 9999 = 0 then some xS else none) = none ∧ r = tu + i) (fun _ t => va_P (dC, dI) vwCl ([(o, .inr (iX5, [.ref g, .ref ce, .ref lu, .ref cl, .ref se, .int (tu + i), .int ja, .int re]))]) t.heap ∧ va_D (va_A ([(o, .inr (iX5, [.ref g, .ref ce, .ref lu, .ref cl, .ref se, .int tu, .int ja, .int re]))]) sz) ([(o, .inr (iX5, [.ref g, .ref ce, .ref lu, .ref cl, .ref se, .int (tu + i), .int ja, .int re]))])) (va_A ([(o, .inr (iX5, [.ref g, .ref ce, .ref lu, .ref cl, .ref se, .int tu, .int ja, .int re]))]) sz)) (vx_X (fun _ : Unit => True) (fun E _ t => (if withinF i (-999) 999 = 0 then some xA else if withinF (tu + i) (-9999) 9999 = 0 then some xS else none) = some E ∧ va_P (dC, dI) vwCl ([(o, .inr (iX5, [.ref g, .ref ce, .ref lu, .ref cl, .ref se, .int tu, .int ja, .int re]))]) t.heap ∧ va_D (va_A ([(o, .inr (iX5, [.ref g, .ref ce, .ref lu, .ref cl, .ref se, .int tu, .int ja, .int re]))]) sz) ([(o, .inr (iX5, [.ref g, .ref ce, .ref lu, .ref cl, .ref se, .int tu, .int ja, .int re]))])) (va_A ([(o, .inr (iX5, [.ref g, .ref ce, .ref lu, .ref cl, .ref se, .int tu, .int ja, .int re]))]) sz)) 2 12 (va_A ([(o, .inr (iX5, [.ref g, .ref ce, .ref lu, .ref cl, .ref se, .int tu, .int ja, .int re]))]) sz) := by
  refine vx_ofW (cc := cX5_turn) (maxL := 2) (ret := (some .int)) (by decide) rfl ?_
  intro p e s m args below meth c s₁ B hml hET hv
  obtain ⟨rfl, hsz, hP, hK, hN, hXE0, hD0⟩ := hv
  have hx := B.exec
  have hb := B.bytes
  have hr := B.returns
  have hts := atoms_spec (ws := wsX5_turn) B.pre
  have hown : s.vm.findClass RX5 = some m.cls := findClass_of_methodNamed B.named
  have hlocks := B.notSynchronized
  subst hsz
  have hD := hD0.self (sz := s.heap.size)
  generalize hAe : va_A ([(o, .inr (iX5, [.ref g, .ref ce, .ref lu, .ref cl, .ref se, .int tu, .int ja, .int re]))]) s.heap.size = A at hD hXE0 ⊢
  have hA : ∀ q : Nat, s.heap.size ≤ q → A q := fun q h => by rw [← hAe]; exact Or.inr h
  have hS : va_S A s.heap s.heap [] := va_S.rf
  have hP : va_P (dC, dI) vwCl ([(o, .inr (iX5, [.ref g, .ref ce, .ref lu, .ref cl, .ref se, .int tu, .int ja, .int re]))]) s.heap := hP
  have hl := lv_entry ([.ref o, .int i]) (n := 2) (Nat.le_of_ble_eq_true rfl)
  rw [lg_entry_eq]
  generalize (lg_sl ([.ref o, .int i]) ++ List.replicate (2 - (lg_sl ([.ref o, .int i])).length) Slot.unset).toArray = ls at hl ⊢
  have hl : lv_has ls 2 [(0, .ref o), (1, .int i)] := hl
  have hfl_87 := hts (.fieldLink RX5 87 "Greenwheels" "turns" "I") (by decide +kernel)
  have hin_X5 : ∀ w ∈ u_ws RX5 TX5 8, w ∈ wsX5_turn := by decide +kernel
  refine lv_iload_n hx hb dX5_turn_0 rfl (lv_at hl 1 rfl) ?_
  refine lv_sipush (v := (-999)) hx hb dX5_turn_1 (by decide) ?_
  refine lv_sipush (v := 999) hx hb dX5_turn_4 (by decide) ?_
  have hPc : va_P (dC, dI) vwCl [] s.heap := nilP
  have hFc := frZ hS hA
  refine va_calli (va_runS (As := [.int i, .int ((-999)), .int 999]) (rest := []) ⟨hx, hb, hml, hown, hts⟩ (c_X5_isWithin l dC dI cI cF tr (s.heap).size i ((-999)) 999) (va_cwS 3 hts gX5_turn_X5_isWithin rfl rfl rfl (by decide +kernel) ⟨Nat.le_of_ble_eq_true rfl, Nat.le_of_ble_eq_true rfl⟩) ⟨cBl, (cPre hPc hK hN)⟩ rfl rfl hl.1 rfl (lv_room (Nat.le_of_ble_eq_true rfl)) dX5_turn_7 ⟨(Nat.le_of_ble_eq_true rfl), (Nat.le_of_ble_eq_true rfl)⟩) hS (fun q _ h => hFc q h) hFc (fun r_1 u t H1 locs ht hvm hw_r_1 hB hz1 hk1 hS => ?_)
  refine W.widen (k := 0) (n := 0) (Nat.le_refl _) (Nat.le_refl _) ?_
  have hP := keepP hP hk1
  generalize H1 = H at hP hS ⊢
  have hP : va_P (dC, dI) vwCl ([(o, .inr (iX5, [.ref g, .ref ce, .ref lu, .ref cl, .ref se, .int tu, .int ja, .int re]))]) H := hP
  try dsimp only at hw_r_1
  subst hw_r_1
  have hPc : va_P (dC, dI) vwCl [] H := nilP
  have hFc := frZ hS hA
  refine vx_callv (vx_runS (As := [.int (withinF i ((-999)) 999)]) (rest := []) ⟨hx, hb, hml, hown, hts⟩ (c_X5_demandArgument l dC dI cI cF tr (H).size hfl (withinF i ((-999)) 999)) (va_cwS 1 hts gX5_turn_X5_demandArgument rfl rfl rfl (by decide +kernel) ⟨Nat.le_of_ble_eq_true rfl, Nat.le_of_ble_eq_true rfl⟩) ⟨cXbl, (cXpre hPc hK hN (hXE0.kept hS) hFc)⟩ rfl rfl hl.1 rfl (lv_room (Nat.le_of_ble_eq_true rfl)) dX5_turn_10 ⟨(Nat.le_of_ble_eq_true rfl), (Nat.le_of_ble_eq_true rfl)⟩) hS (fun q _ h => hFc q h) hFc (fun q _ h => hFc q h) (fun E9 ce9 q9 u9 t9 H9 locs9 ht9 hvm9 hpx9 hBX9 hz9 hk9 hS9 hce9 hcv9 hcl9 => ?_) (fun u t H1 locs ht hvm hw_r_2 hB hz1 hk1 hS => ?_)
  · obtain ⟨hp9, rfl⟩ := exSome hBX9
    have hP := keepP hP hk9
    exact vx_out (fun x hx9 => (hET x hx9).elim) hlocks hce9 hcv9 hcl9 (fun t ht hvm => ⟨(), trivial, ⟨(by first | (simp [hp9]; done) | exact absurd hp9 (by decide)), by rw [ht]; exact hP, hAe ▸ hD⟩, hS9.F (ht.trans rfl)⟩) hS9.2.2 (by omega) (by omega)
  refine W.widen (k := 1) (n := 6) (by omega) (by omega) ?_
  have hP := keepP hP hk1
  generalize H1 = H at hP hS ⊢
  have hP : va_P (dC, dI) vwCl ([(o, .inr (iX5, [.ref g, .ref ce, .ref lu, .ref cl, .ref se, .int tu, .int ja, .int re]))]) H := hP
  try dsimp only at hw_r_2
  have hn_3 := hw_r_2
  have hn_3 := exNone hn_3
  refine lv_aload_n hx hb dX5_turn_13 rfl (lv_at hl 0 rfl) ?_
  refine va_get (D := (dC, dI)) (ci := iX5) (v := .int tu) (C := RX5) (T := TX5) (N := 8) hx hb hts hin_X5 hown hK hP 0 rfl rfl 5 (by decide) hfl_87 (fun _ h9 => h9) rfl dX5_turn_14 ?_
  refine lv_iload_n hx hb dX5_turn_17 rfl (lv_at hl 1 rfl) ?_
  refine lv_iadd hx hb dX5_turn_18 ?_
  refine lv_sipush (v := (-9999)) hx hb dX5_turn_19 (by decide) ?_
  refine lv_sipush (v := 9999) hx hb dX5_turn_22 (by decide) ?_
  have hPc : va_P (dC, dI) vwCl [] H := nilP
  have hFc := frZ hS hA
  refine va_calli (va_runS (As := [.int (tu + i), .int ((-9999)), .int 9999]) (rest := []) ⟨hx, hb, hml, hown, hts⟩ (c_X5_isWithin l dC dI cI cF tr (H).size (tu + i) ((-9999)) 9999) (va_cwS 3 hts gX5_turn_X5_isWithin rfl rfl rfl (by decide +kernel) ⟨Nat.le_of_ble_eq_true rfl, Nat.le_of_ble_eq_true rfl⟩) ⟨cBl, (cPre hPc hK hN)⟩ rfl rfl hl.1 rfl (lv_room (Nat.le_of_ble_eq_true rfl)) dX5_turn_25 ⟨(Nat.le_of_ble_eq_true rfl), (Nat.le_of_ble_eq_true rfl)⟩) hS (fun q _ h => hFc q h) hFc (fun r_4 u t H1 locs ht hvm hw_r_4 hB hz1 hk1 hS => ?_)
  refine W.widen (k := 1) (n := 6) (Nat.le_refl _) (Nat.le_refl _) ?_
  have hP := keepP hP hk1
  generalize H1 = H at hP hS ⊢
  have hP : va_P (dC, dI) vwCl ([(o, .inr (iX5, [.ref g, .ref ce, .ref lu, .ref cl, .ref se, .int tu, .int ja, .int re]))]) H := hP
  try dsimp only at hw_r_4
  subst hw_r_4
  have hPc : va_P (dC, dI) vwCl [] H := nilP
  have hFc := frZ hS hA
  refine vx_callv (vx_runS (As := [.int (withinF (tu + i) ((-9999)) 9999)]) (rest := []) ⟨hx, hb, hml, hown, hts⟩ (c_X5_demandState l dC dI cI cF tr (H).size hfl (withinF (tu + i) ((-9999)) 9999)) (va_cwS 1 hts gX5_turn_X5_demandState rfl rfl rfl (by decide +kernel) ⟨Nat.le_of_ble_eq_true rfl, Nat.le_of_ble_eq_true rfl⟩) ⟨cXbl, (cXpre hPc hK hN (hXE0.kept hS) hFc)⟩ rfl rfl hl.1 rfl (lv_room (Nat.le_of_ble_eq_true rfl)) dX5_turn_28 ⟨(Nat.le_of_ble_eq_true rfl), (Nat.le_of_ble_eq_true rfl)⟩) hS (fun q _ h => hFc q h) hFc (fun q _ h => hFc q h) (fun E9 ce9 q9 u9 t9 H9 locs9 ht9 hvm9 hpx9 hBX9 hz9 hk9 hS9 hce9 hcv9 hcl9 => ?_) (fun u t H1 locs ht hvm hw_r_5 hB hz1 hk1 hS => ?_)
  · obtain ⟨hp9, rfl⟩ := exSome hBX9
    have hP := keepP hP hk9
    exact vx_out (fun x hx9 => (hET x hx9).elim) hlocks hce9 hcv9 hcl9 (fun t ht hvm => ⟨(), trivial, ⟨(by first | (simp [hn_3, hp9]; done) | exact absurd hp9 (by decide)), by rw [ht]; exact hP, hAe ▸ hD⟩, hS9.F (ht.trans rfl)⟩) hS9.2.2 (by omega) (by omega)
  refine W.widen (k := 2) (n := 12) (by omega) (by omega) ?_
  have hP := keepP hP hk1
  generalize H1 = H at hP hS ⊢
  have hP : va_P (dC, dI) vwCl ([(o, .inr (iX5, [.ref g, .ref ce, .ref lu, .ref cl, .ref se, .int tu, .int ja, .int re]))]) H := hP
  try dsimp only at hw_r_5
  have hn_6 := hw_r_5
  have hn_6 := exNone hn_6
  refine lv_aload_n hx hb dX5_turn_31 rfl (lv_at hl 0 rfl) ?_
  refine lv_dup hx hb dX5_turn_32 rfl ?_
  refine va_get (D := (dC, dI)) (ci := iX5) (v := .int tu) (C := RX5) (T := TX5) (N := 8) hx hb hts hin_X5 hown hK hP 0 rfl rfl 5 (by decide) hfl_87 (fun _ h9 => h9) rfl dX5_turn_33 ?_
  refine lv_iload_n hx hb dX5_turn_36 rfl (lv_at hl 1 rfl) ?_
  refine lv_iadd hx hb dX5_turn_37 ?_
  refine va_put (D := (dC, dI)) (ci := iX5) (v := .int (tu + i)) (ty := .int) (C := RX5) (T := TX5) (N := 8) hx hb hts hin_X5 tyX5 tyX5_ok nmX5 hown hK hP hD hS 0 rfl rfl 5 (by decide) hfl_87 (fun _ h9 => h9) rfl (by decide +kernel) rfl rfl (Nat.le_of_ble_eq_true rfl) dX5_turn_38 (fun H locs hP hD hS => ?_)
  have hP : va_P (dC, dI) vwCl ([(o, .inr (iX5, [.ref g, .ref ce, .ref lu, .ref cl, .ref se, .int (tu + i), .int ja, .int re]))]) H := hP
  have hD : va_D A ([(o, .inr (iX5, [.ref g, .ref ce, .ref lu, .ref cl, .ref se, .int (tu + i), .int ja, .int re]))]) := hD
  refine lv_aload_n hx hb dX5_turn_41 rfl (lv_at hl 0 rfl) ?_
  refine va_get (D := (dC, dI)) (ci := iX5) (v := .int (tu + i)) (C := RX5) (T := TX5) (N := 8) hx hb hts hin_X5 hown hK hP 0 rfl rfl 5 (by decide) hfl_87 (fun _ h9 => h9) rfl dX5_turn_42 ?_
  refine W.widen (k := 2) (n := 12) (by omega) (by omega) ?_
  refine vx_ret ?_
  exact W.iret (v := tu + i) hx hb hr (fun t ht hW => ⟨⟨tu + i, (), rfl, ⟨(by simp [hn_3, hn_6]), (by first | rfl | (simp [hn_3, hn_6]; done) | contradiction)⟩, ⟨by rw [ht]; exact hP, hAe ▸ hD⟩⟩, hS.F ht⟩) hS.2.2 dX5_turn_45

set_option maxHeartbeats 4000000 in
set_option maxRecDepth 100000 in
theorem c_X5_dial (l : Launch) (dC : Nat → ClassId) (dI : Nat → Nat → Nat) (cI cF : ClassId) (tr : List (ClassId × FieldType)) (sz : Nat) (hfl : l.stackTraces = false) (o : Nat) (ce : Nat) (lu : Nat) (cl : Nat) (se : Nat) (tu : Int32) (ja : Int32) (re : Int32) (g : Nat) (cs : Nat → Int32) (i : Int32) (j : Int32) : vx_Met l yX5_dial wsX5_dial ({ frames := 8, cells := 2, slots := 12, locals := 122 } : Room) (cXd dC dI ((cI, .int) :: (cF, .object RX1) :: tr) sz ([(o, .inr (iX5, [.ref g, .ref ce, .ref lu, .ref cl, .ref se, .int tu, .int ja, .int re])), (ce, .inl (cI, 7, .inl (cs)))]) (va_A ([(o, .inr (iX5, [.ref g, .ref ce, .ref lu, .ref cl, .ref se, .int tu, .int ja, .int re])), (ce, .inl (cI, 7, .inl (cs)))]) sz) [.ref o, .int i, .int j]) (va_Qi (fun (r : Int32) (_ : Unit) => (if withinF i 0 6 = 0 then some xI else if withinF j 2 240 = 0 then some xA else none) = none ∧ r = atF 7 cs i) (fun _ t => va_P (dC, dI) vwCl ([(o, .inr (iX5, [.ref g, .ref ce, .ref lu, .ref cl, .ref se, .int tu, .int ja, .int re])), (ce, .inl (cI, 7, .inl (putF 7 cs i j)))]) t.heap ∧ va_D (va_A ([(o, .inr (iX5, [.ref g, .ref ce, .ref lu, .ref cl, .ref se, .int tu, .int ja, .int re])), (ce, .inl (cI, 7, .inl (cs)))]) sz) ([(o, .inr (iX5, [.ref g, .ref ce, .ref lu, .ref cl, .ref se, .int tu, .int ja, .int re])), (ce, .inl (cI, 7, .inl (putF 7 cs i j)))])) (va_A ([(o, .inr (iX5, [.ref g, .ref ce, .ref lu, .ref cl, .ref se, .int tu, .int ja, .int re])), (ce, .inl (cI, 7, .inl (cs)))]) sz)) (vx_X (fun _ : Unit => True) (fun E _ t => (if withinF i 0 6 = 0 then some xI else if withinF j 2 240 = 0 then some xA else none) = some E ∧ va_P (dC, dI) vwCl ([(o, .inr (iX5, [.ref g, .ref ce, .ref lu, .ref cl, .ref se, .int tu, .int ja, .int re])), (ce, .inl (cI, 7, .inl (cs)))]) t.heap ∧ va_D (va_A ([(o, .inr (iX5, [.ref g, .ref ce, .ref lu, .ref cl, .ref se, .int tu, .int ja, .int re])), (ce, .inl (cI, 7, .inl (cs)))]) sz) ([(o, .inr (iX5, [.ref g, .ref ce, .ref lu, .ref cl, .ref se, .int tu, .int ja, .int re])), (ce, .inl (cI, 7, .inl (cs)))])) (va_A ([(o, .inr (iX5, [.ref g, .ref ce, .ref lu, .ref cl, .ref se, .int tu, .int ja, .int re])), (ce, .inl (cI, 7, .inl (cs)))]) sz)) 2 12 (va_A ([(o, .inr (iX5, [.ref g, .ref ce, .ref lu, .ref cl, .ref se, .int tu, .int ja, .int re])), (ce, .inl (cI, 7, .inl (cs)))]) sz) := by
  refine vx_ofW (cc := cX5_dial) (maxL := 4) (ret := (some .int)) (by decide) rfl ?_
  intro p e s m args below meth c s₁ B hml hET hv
  obtain ⟨rfl, hsz, hP, hK, hN, hXE0, hD0⟩ := hv
  have hx := B.exec
  have hb := B.bytes
  have hr := B.returns
  have hts := atoms_spec (ws := wsX5_dial) B.pre
  have hown : s.vm.findClass RX5 = some m.cls := findClass_of_methodNamed B.named
  have hlocks := B.notSynchronized
  subst hsz
  have hD := hD0.self (sz := s.heap.size)
  generalize hAe : va_A ([(o, .inr (iX5, [.ref g, .ref ce, .ref lu, .ref cl, .ref se, .int tu, .int ja, .int re])), (ce, .inl (cI, 7, .inl (cs)))]) s.heap.size = A at hD hXE0 ⊢
  have hA : ∀ q : Nat, s.heap.size ≤ q → A q := fun q h => by rw [← hAe]; exact Or.inr h
  have hS : va_S A s.heap s.heap [] := va_S.rf
  have hP : va_P (dC, dI) vwCl ([(o, .inr (iX5, [.ref g, .ref ce, .ref lu, .ref cl, .ref se, .int tu, .int ja, .int re])), (ce, .inl (cI, 7, .inl (cs)))]) s.heap := hP
  have hl := lv_entry ([.ref o, .int i, .int j]) (n := 4) (Nat.le_of_ble_eq_true rfl)
  rw [lg_entry_eq]
  generalize (lg_sl ([.ref o, .int i, .int j]) ++ List.replicate (4 - (lg_sl ([.ref o, .int i, .int j])).length) Slot.unset).toArray = ls at hl ⊢
  have hl : lv_has ls 4 [(0, .ref o), (1, .int i), (2, .int j)] := hl
  have hfl_16 := hts (.fieldLink RX5 16 "Greenwheels" "cells" "[I") (by decide +kernel)
  have hin_X5 : ∀ w ∈ u_ws RX5 TX5 8, w ∈ wsX5_dial := by decide +kernel
  refine lv_iload_n hx hb dX5_dial_0 rfl (lv_at hl 1 rfl) ?_
  have hPc : va_P (dC, dI) vwCl [] s.heap := nilP
  have hFc := frZ hS hA
  refine vx_callv (vx_runS (As := [.int i]) (rest := []) ⟨hx, hb, hml, hown, hts⟩ (c_X5_demandAxle l dC dI cI cF tr (s.heap).size hfl i) (va_cwS 1 hts gX5_dial_X5_demandAxle rfl rfl rfl (by decide +kernel) ⟨Nat.le_of_ble_eq_true rfl, Nat.le_of_ble_eq_true rfl⟩) ⟨cXbl, (cXpre hPc hK hN (hXE0.kept hS) hFc)⟩ rfl rfl hl.1 rfl (lv_room (Nat.le_of_ble_eq_true rfl)) dX5_dial_1 ⟨(Nat.le_of_ble_eq_true rfl), (Nat.le_of_ble_eq_true rfl)⟩) hS (fun q _ h => hFc q h) hFc (fun q _ h => hFc q h) (fun E9 ce9 q9 u9 t9 H9 locs9 ht9 hvm9 hpx9 hBX9 hz9 hk9 hS9 hce9 hcv9 hcl9 => ?_) (fun u t H1 locs ht hvm hw_r_1 hB hz1 hk1 hS => ?_)
  · obtain ⟨hp9, rfl⟩ := exSome hBX9
    have hP := keepP hP hk9
    exact vx_out (fun x hx9 => (hET x hx9).elim) hlocks hce9 hcv9 hcl9 (fun t ht hvm => ⟨(), trivial, ⟨(by first | (simp [hp9]; done) | exact absurd hp9 (by decide)), by rw [ht]; exact hP, hAe ▸ hD⟩, hS9.F (ht.trans rfl)⟩) hS9.2.2 (by omega) (by omega)
  refine W.widen (k := 1) (n := 6) (by omega) (by omega) ?_
  have hP := keepP hP hk1
  generalize H1 = H at hP hS ⊢
  have hP : va_P (dC, dI) vwCl ([(o, .inr (iX5, [.ref g, .ref ce, .ref lu, .ref cl, .ref se, .int tu, .int ja, .int re])), (ce, .inl (cI, 7, .inl (cs)))]) H := hP
  try dsimp only at hw_r_1
  have hn_2 := hw_r_1
  have hn_2 := exNone hn_2
  refine lv_iload_n hx hb dX5_dial_4 rfl (lv_at hl 2 rfl) ?_
  refine lv_iconst (v := 2) hx hb dX5_dial_5 (by decide) ?_
  refine lv_sipush (v := 240) hx hb dX5_dial_6 (by decide) ?_
  have hPc : va_P (dC, dI) vwCl [] H := nilP
  have hFc := frZ hS hA
  refine va_calli (va_runS (As := [.int j, .int 2, .int 240]) (rest := []) ⟨hx, hb, hml, hown, hts⟩ (c_X5_isWithin l dC dI cI cF tr (H).size j 2 240) (va_cwS 3 hts gX5_dial_X5_isWithin rfl rfl rfl (by decide +kernel) ⟨Nat.le_of_ble_eq_true rfl, Nat.le_of_ble_eq_true rfl⟩) ⟨cBl, (cPre hPc hK hN)⟩ rfl rfl hl.1 rfl (lv_room (Nat.le_of_ble_eq_true rfl)) dX5_dial_9 ⟨(Nat.le_of_ble_eq_true rfl), (Nat.le_of_ble_eq_true rfl)⟩) hS (fun q _ h => hFc q h) hFc (fun r_3 u t H1 locs ht hvm hw_r_3 hB hz1 hk1 hS => ?_)
  refine W.widen (k := 1) (n := 6) (Nat.le_refl _) (Nat.le_refl _) ?_
  have hP := keepP hP hk1
  generalize H1 = H at hP hS ⊢
  have hP : va_P (dC, dI) vwCl ([(o, .inr (iX5, [.ref g, .ref ce, .ref lu, .ref cl, .ref se, .int tu, .int ja, .int re])), (ce, .inl (cI, 7, .inl (cs)))]) H := hP
  try dsimp only at hw_r_3
  subst hw_r_3
  have hPc : va_P (dC, dI) vwCl [] H := nilP
  have hFc := frZ hS hA
  refine vx_callv (vx_runS (As := [.int (withinF j 2 240)]) (rest := []) ⟨hx, hb, hml, hown, hts⟩ (c_X5_demandArgument l dC dI cI cF tr (H).size hfl (withinF j 2 240)) (va_cwS 1 hts gX5_dial_X5_demandArgument rfl rfl rfl (by decide +kernel) ⟨Nat.le_of_ble_eq_true rfl, Nat.le_of_ble_eq_true rfl⟩) ⟨cXbl, (cXpre hPc hK hN (hXE0.kept hS) hFc)⟩ rfl rfl hl.1 rfl (lv_room (Nat.le_of_ble_eq_true rfl)) dX5_dial_12 ⟨(Nat.le_of_ble_eq_true rfl), (Nat.le_of_ble_eq_true rfl)⟩) hS (fun q _ h => hFc q h) hFc (fun q _ h => hFc q h) (fun E9 ce9 q9 u9 t9 H9 locs9 ht9 hvm9 hpx9 hBX9 hz9 hk9 hS9 hce9 hcv9 hcl9 => ?_) (fun u t H1 locs ht hvm hw_r_4 hB hz1 hk1 hS => ?_)
  · obtain ⟨hp9, rfl⟩ := exSome hBX9
    have hP := keepP hP hk9
    exact vx_out (fun x hx9 => (hET x hx9).elim) hlocks hce9 hcv9 hcl9 (fun t ht hvm => ⟨(), trivial, ⟨(by first | (simp [hn_2, hp9]; done) | exact absurd hp9 (by decide)), by rw [ht]; exact hP, hAe ▸ hD⟩, hS9.F (ht.trans rfl)⟩) hS9.2.2 (by omega) (by omega)
  refine W.widen (k := 2) (n := 12) (by omega) (by omega) ?_
  have hP := keepP hP hk1
  generalize H1 = H at hP hS ⊢
  have hP : va_P (dC, dI) vwCl ([(o, .inr (iX5, [.ref g, .ref ce, .ref lu, .ref cl, .ref se, .int tu, .int ja, .int re])), (ce, .inl (cI, 7, .inl (cs)))]) H := hP
  try dsimp only at hw_r_4
  have hn_5 := hw_r_4
  have hn_5 := exNone hn_5
  refine lv_aload_n hx hb dX5_dial_15 rfl (lv_at hl 0 rfl) ?_
  refine va_get (D := (dC, dI)) (ci := iX5) (v := .ref ce) (C := RX5) (T := TX5) (N := 8) hx hb hts hin_X5 hown hK hP 0 rfl rfl 1 (by decide) hfl_16 (fun _ h9 => h9) rfl dX5_dial_16 ?_
  refine lv_iload_n hx hb dX5_dial_19 rfl (lv_at hl 1 rfl) ?_
  have hPc : va_P (dC, dI) vwCl ([(ce, .inl (cI, 7, .inl (cs)))]) _ := hP.sub [1] rfl
  have hFc := frZ hS hA
  refine va_calli (va_runS (As := [.ref ce, .int i]) (rest := []) ⟨hx, hb, hml, hown, hts⟩ (c_X5_at l dC dI cI cF tr (H).size ce 7 cs i (by decide)) (va_cwS 2 hts gX5_dial_X5_at rfl rfl rfl (by decide +kernel) ⟨Nat.le_of_ble_eq_true rfl, Nat.le_of_ble_eq_true rfl⟩) ⟨cBl, (cPre hPc hK hN)⟩ rfl rfl hl.1 rfl (lv_room (Nat.le_of_ble_eq_true rfl)) dX5_dial_20 ⟨(Nat.le_of_ble_eq_true rfl), (Nat.le_of_ble_eq_true rfl)⟩) hS (fun q _ h => hFc q h) hFc (fun r_6 u t H1 locs ht hvm hw_r_6 hB hz1 hk1 hS => ?_)
  refine W.widen (k := 2) (n := 12) (Nat.le_refl _) (Nat.le_refl _) ?_
  have hP := keepP hP hk1
  generalize H1 = H at hP hS ⊢
  have hP : va_P (dC, dI) vwCl ([(o, .inr (iX5, [.ref g, .ref ce, .ref lu, .ref cl, .ref se, .int tu, .int ja, .int re])), (ce, .inl (cI, 7, .inl (cs)))]) H := hP
  try dsimp only at hw_r_6
  subst hw_r_6
  refine lv_istore_n (lv' := [(3, .int (atF 7 cs i)), (0, .ref o), (1, .int i), (2, .int j)]) hx hb dX5_dial_23 rfl hl (by decide) rfl (fun ls hl => ?_)
  refine lv_aload_n hx hb dX5_dial_24 rfl (lv_at hl 1 rfl) ?_
  refine va_get (D := (dC, dI)) (ci := iX5) (v := .ref ce) (C := RX5) (T := TX5) (N := 8) hx hb hts hin_X5 hown hK hP 0 rfl rfl 1 (by decide) hfl_16 (fun _ h9 => h9) rfl dX5_dial_25 ?_
  refine lv_iload_n hx hb dX5_dial_28 rfl (lv_at hl 2 rfl) ?_
  refine lv_iload_n hx hb dX5_dial_29 rfl (lv_at hl 3 rfl) ?_
  have hPc : va_P (dC, dI) vwCl ([(ce, .inl (cI, 7, .inl (cs)))]) _ := hP.sub [1] rfl
  have hDc : va_D (fun _ => True) ([(ce, .inl (cI, 7, .inl (cs)))]) := (hD.sub (ws' := [(ce, .inl (cI, 7, .inl (cs)))]) [1] (by decide) rfl).weaken (fun _ _ _ _ => trivial)
  have hFc := va_free (wc := [(ce, .inl (cI, 7, .inl (cs)))]) hD hS hA [1] rfl
  refine va_callv (va_runS (As := [.ref ce, .int i, .int j]) (rest := []) ⟨hx, hb, hml, hown, hts⟩ (c_X5_put l dC dI cI cF tr (H).size ce 7 cs i j (by decide)) (va_cwS 3 hts gX5_dial_X5_put rfl rfl rfl (by decide +kernel) ⟨Nat.le_of_ble_eq_true rfl, Nat.le_of_ble_eq_true rfl⟩) ⟨cDbl, (cDpre hPc hK hN hDc)⟩ rfl rfl hl.1 rfl (lv_room (Nat.le_of_ble_eq_true rfl)) dX5_dial_30 ⟨(Nat.le_of_ble_eq_true rfl), (Nat.le_of_ble_eq_true rfl)⟩) hS (fun q _ h => hFc q h) hFc (fun u t H1 locs ht hvm hw_r_7 hB hz1 hk1 hS => ?_)
  refine W.widen (k := 2) (n := 12) (Nat.le_refl _) (Nat.le_refl _) ?_
  obtain ⟨hP1, hD1⟩ := hB
  rw [ht] at hP1
  obtain ⟨hP, hD⟩ := va_join (wr := [(o, .inr (iX5, [.ref g, .ref ce, .ref lu, .ref cl, .ref se, .int tu, .int ja, .int re]))]) (w1 := [(ce, .inl (cI, 7, .inl (putF 7 cs i j)))]) hP hD [1] [0] rfl rfl (by decide) (by decide) hk1 hFc hP1 hD1
  have hD := hD.sub (ws' := [(o, .inr (iX5, [.ref g, .ref ce, .ref lu, .ref cl, .ref se, .int tu, .int ja, .int re])), (ce, .inl (cI, 7, .inl (putF 7 cs i j)))]) [0, 1] (by decide) rfl
  have hP : va_P (dC, dI) vwCl ([(o, .inr (iX5, [.ref g, .ref ce, .ref lu, .ref cl, .ref se, .int tu, .int ja, .int re])), (ce, .inl (cI, 7, .inl (putF 7 cs i j)))]) H1 := hP.sub [0, 1] rfl
  generalize H1 = H at hP hS ⊢
  have hP : va_P (dC, dI) vwCl ([(o, .inr (iX5, [.ref g, .ref ce, .ref lu, .ref cl, .ref se, .int tu, .int ja, .int re])), (ce, .inl (cI, 7, .inl (putF 7 cs i j)))]) H := hP
  have hD : va_D A ([(o, .inr (iX5, [.ref g, .ref ce, .ref lu, .ref cl, .ref se, .int tu, .int ja, .int re])), (ce, .inl (cI, 7, .inl (putF 7 cs i j)))]) := hD
  try dsimp only at hw_r_7
  refine lv_iload_n hx hb dX5_dial_33 rfl (lv_at hl 0 rfl) ?_
  refine W.widen (k := 2) (n := 12) (by omega) (by omega) ?_
  refine vx_ret ?_
  exact W.iret (v := atF 7 cs i) hx hb hr (fun t ht hW => ⟨⟨atF 7 cs i, (), rfl, ⟨(by simp [hn_2, hn_5]), (by first | rfl | (simp [hn_2, hn_5]; done) | contradiction)⟩, ⟨by rw [ht]; exact hP, hAe ▸ hD⟩⟩, hS.F ht⟩) hS.2.2 dX5_dial_34

set_option maxHeartbeats 4000000 in
set_option maxRecDepth 100000 in
theorem c_X5_claim (l : Launch) (dC : Nat → ClassId) (dI : Nat → Nat → Nat) (cI cF : ClassId) (tr : List (ClassId × FieldType)) (sz : Nat) (hfl : l.stackTraces = false) (o : Nat) (ce : Nat) (lu : Nat) (cl : Nat) (se : Nat) (tu : Int32) (ja : Int32) (re : Int32) (g : Nat) (cn : Nat) (wd : Int32) (xn : Nat) (xf : Nat) (nr : Nat → Int32) (nf : Nat → Int32) (i : Int32) (hcn : cn ≤ 12) : vx_Met l yX5_claim wsX5_claim ({ frames := 7, cells := 2, slots := 12, locals := 102 } : Room) (cXd dC dI ((cI, .int) :: (cF, .object RX1) :: tr) sz ([(o, .inr (iX5, [.ref g, .ref ce, .ref lu, .ref cl, .ref se, .int tu, .int ja, .int re])), (cl, .inr (iX0, [.int (nI cn), .int wd, .ref xn, .ref xf])), (xn, .inl (cI, 12, .inl (nr))), (xf, .inl (cI, 12, .inl (nf)))]) (va_A ([(o, .inr (iX5, [.ref g, .ref ce, .ref lu, .ref cl, .ref se, .int tu, .int ja, .int re])), (cl, .inr (iX0, [.int (nI cn), .int wd, .ref xn, .ref xf])), (xn, .inl (cI, 12, .inl (nr))), (xf, .inl (cI, 12, .inl (nf)))]) sz) [.ref o, .int i]) (va_Qi (fun (r : Int32) (_ : Unit) => (if (if i < 0 then 0 else if i >>> (nI cn &&& 31) = 0 then 1 else 0) = (0 : Int32) then some xA else if (12 : Int32) ≤ nI cn then some xS else none) = none ∧ r = nI cn) (fun _ t => va_P (dC, dI) vwCl ([(o, .inr (iX5, [.ref g, .ref ce, .ref lu, .ref cl, .ref se, .int tu, .int ja, .int re])), (cl, .inr (iX0, [.int (nI (cn + 1)), .int wd, .ref xn, .ref xf])), (xn, .inl (cI, 12, .inl (putF 12 nr (nI cn) i))), (xf, .inl (cI, 12, .inl (putF 12 nf (nI cn) (acL i nf cn))))]) t.heap ∧ va_D (va_A ([(o, .inr (iX5, [.ref g, .ref ce, .ref lu, .ref cl, .ref se, .int tu, .int ja, .int re])), (cl, .inr (iX0, [.int (nI cn), .int wd, .ref xn, .ref xf])), (xn, .inl (cI, 12, .inl (nr))), (xf, .inl (cI, 12, .inl (nf)))]) sz) ([(o, .inr (iX5, [.ref g, .ref ce, .ref lu, .ref cl, .ref se, .int tu, .int ja, .int re])), (cl, .inr (iX0, [.int (nI (cn + 1)), .int wd, .ref xn, .ref xf])), (xn, .inl (cI, 12, .inl (putF 12 nr (nI cn) i))), (xf, .inl (cI, 12, .inl (putF 12 nf (nI cn) (acL i nf cn))))])) (va_A ([(o, .inr (iX5, [.ref g, .ref ce, .ref lu, .ref cl, .ref se, .int tu, .int ja, .int re])), (cl, .inr (iX0, [.int (nI cn), .int wd, .ref xn, .ref xf])), (xn, .inl (cI, 12, .inl (nr))), (xf, .inl (cI, 12, .inl (nf)))]) sz)) (vx_X (fun _ : Unit => True) (fun E _ t => (if (if i < 0 then 0 else if i >>> (nI cn &&& 31) = 0 then 1 else 0) = (0 : Int32) then some xA else if (12 : Int32) ≤ nI cn then some xS else none) = some E ∧ va_P (dC, dI) vwCl ([(o, .inr (iX5, [.ref g, .ref ce, .ref lu, .ref cl, .ref se, .int tu, .int ja, .int re])), (cl, .inr (iX0, [.int (nI cn), .int wd, .ref xn, .ref xf])), (xn, .inl (cI, 12, .inl (nr))), (xf, .inl (cI, 12, .inl (nf)))]) t.heap ∧ va_D (va_A ([(o, .inr (iX5, [.ref g, .ref ce, .ref lu, .ref cl, .ref se, .int tu, .int ja, .int re])), (cl, .inr (iX0, [.int (nI cn), .int wd, .ref xn, .ref xf])), (xn, .inl (cI, 12, .inl (nr))), (xf, .inl (cI, 12, .inl (nf)))]) sz) ([(o, .inr (iX5, [.ref g, .ref ce, .ref lu, .ref cl, .ref se, .int tu, .int ja, .int re])), (cl, .inr (iX0, [.int (nI cn), .int wd, .ref xn, .ref xf])), (xn, .inl (cI, 12, .inl (nr))), (xf, .inl (cI, 12, .inl (nf)))])) (va_A ([(o, .inr (iX5, [.ref g, .ref ce, .ref lu, .ref cl, .ref se, .int tu, .int ja, .int re])), (cl, .inr (iX0, [.int (nI cn), .int wd, .ref xn, .ref xf])), (xn, .inl (cI, 12, .inl (nr))), (xf, .inl (cI, 12, .inl (nf)))]) sz)) 2 12 (va_A ([(o, .inr (iX5, [.ref g, .ref ce, .ref lu, .ref cl, .ref se, .int tu, .int ja, .int re])), (cl, .inr (iX0, [.int (nI cn), .int wd, .ref xn, .ref xf])), (xn, .inl (cI, 12, .inl (nr))), (xf, .inl (cI, 12, .inl (nf)))]) sz) := by
  refine vx_ofW (cc := cX5_claim) (maxL := 2) (ret := (some .int)) (by decide) rfl ?_
  intro p e s m args below meth c s₁ B hml hET hv
  obtain ⟨rfl, hsz, hP, hK, hN, hXE0, hD0⟩ := hv
  have hx := B.exec
  have hb := B.bytes
  have hr := B.returns
  have hts := atoms_spec (ws := wsX5_claim) B.pre
  have hown : s.vm.findClass RX5 = some m.cls := findClass_of_methodNamed B.named
  have hlocks := B.notSynchronized
  subst hsz
  have hD := hD0.self (sz := s.heap.size)
  generalize hAe : va_A ([(o, .inr (iX5, [.ref g, .ref ce, .ref lu, .ref cl, .ref se, .int tu, .int ja, .int re])), (cl, .inr (iX0, [.int (nI cn), .int wd, .ref xn, .ref xf])), (xn, .inl (cI, 12, .inl (nr))), (xf, .inl (cI, 12, .inl (nf)))]) s.heap.size = A at hD hXE0 ⊢
  have hA : ∀ q : Nat, s.heap.size ≤ q → A q := fun q h => by rw [← hAe]; exact Or.inr h
  have hS : va_S A s.heap s.heap [] := va_S.rf
  have hP : va_P (dC, dI) vwCl ([(o, .inr (iX5, [.ref g, .ref ce, .ref lu, .ref cl, .ref se, .int tu, .int ja, .int re])), (cl, .inr (iX0, [.int (nI cn), .int wd, .ref xn, .ref xf])), (xn, .inl (cI, 12, .inl (nr))), (xf, .inl (cI, 12, .inl (nf)))]) s.heap := hP
  have hl := lv_entry ([.ref o, .int i]) (n := 2) (Nat.le_of_ble_eq_true rfl)
  rw [lg_entry_eq]
  generalize (lg_sl ([.ref o, .int i]) ++ List.replicate (2 - (lg_sl ([.ref o, .int i])).length) Slot.unset).toArray = ls at hl ⊢
  have hl : lv_has ls 2 [(0, .ref o), (1, .int i)] := hl
  have hfl_30 := hts (.fieldLink RX5 30 "Greenwheels" "claims" "LGreenwheels$Claims;") (by decide +kernel)
  have hin_X5 : ∀ w ∈ u_ws RX5 TX5 8, w ∈ wsX5_claim := by decide +kernel
  have hfl_113 := hts (.fieldLink RX5 113 "Greenwheels$Claims" "count" "I") (by decide +kernel)
  have hin_X0 : ∀ w ∈ u_ws RX0 TX0 4, w ∈ wsX5_claim := by decide +kernel
  refine lv_aload_n hx hb dX5_claim_0 rfl (lv_at hl 0 rfl) ?_
  refine va_get (D := (dC, dI)) (ci := iX5) (v := .ref cl) (C := RX5) (T := TX5) (N := 8) hx hb hts hin_X5 hown hK hP 0 rfl rfl 3 (by decide) hfl_30 (fun _ h9 => h9) rfl dX5_claim_1 ?_
  refine lv_iload_n hx hb dX5_claim_4 rfl (lv_at hl 1 rfl) ?_
  have hPc : va_P (dC, dI) vwCl ([(cl, .inr (iX0, [.int (nI cn), .int wd, .ref xn, .ref xf]))]) _ := hP.sub [1] rfl
  have hFc := frZ hS hA
  refine va_calli (va_runV (As := [.int i]) (rest := []) ⟨hx, hb, hml, hown, hts⟩ (c_X0_isSetOfThem l dC dI cI cF tr (s.heap).size cl cn wd xn xf i) (cwV 1 hts gX5_claim_X0_isSetOfThem rfl rfl rfl (by decide +kernel) ⟨Nat.le_of_ble_eq_true rfl, Nat.le_of_ble_eq_true rfl⟩) ⟨cBl, (va_recv hK hPc (ci := iX0) (q0 := 0) rfl rfl), (cPre hPc hK hN)⟩ rfl rfl hl.1 rfl (lv_room (Nat.le_of_ble_eq_true rfl)) dX5_claim_5 ⟨(Nat.le_of_ble_eq_true rfl), (Nat.le_of_ble_eq_true rfl)⟩) hS (fun q _ h => hFc q h) hFc (fun r_1 u t H1 locs ht hvm hw_r_1 hB hz1 hk1 hS => ?_)
  refine W.widen (k := 0) (n := 0) (Nat.le_refl _) (Nat.le_refl _) ?_
  have hP := keepP hP hk1
  generalize H1 = H at hP hS ⊢
  have hP : va_P (dC, dI) vwCl ([(o, .inr (iX5, [.ref g, .ref ce, .ref lu, .ref cl, .ref se, .int tu, .int ja, .int re])), (cl, .inr (iX0, [.int (nI cn), .int wd, .ref xn, .ref xf])), (xn, .inl (cI, 12, .inl (nr))), (xf, .inl (cI, 12, .inl (nf)))]) H := hP
  try dsimp only at hw_r_1
  subst hw_r_1
  have hPc : va_P (dC, dI) vwCl [] H := nilP
  have hFc := frZ hS hA
  refine vx_callv (vx_runS (As := [.int (if i < 0 then 0 else if i >>> (nI cn &&& 31) = 0 then 1 else 0)]) (rest := []) ⟨hx, hb, hml, hown, hts⟩ (c_X5_demandArgument l dC dI cI cF tr (H).size hfl (if i < 0 then 0 else if i >>> (nI cn &&& 31) = 0 then 1 else 0)) (va_cwS 1 hts gX5_claim_X5_demandArgument rfl rfl rfl (by decide +kernel) ⟨Nat.le_of_ble_eq_true rfl, Nat.le_of_ble_eq_true rfl⟩) ⟨cXbl, (cXpre hPc hK hN (hXE0.kept hS) hFc)⟩ rfl rfl hl.1 rfl (lv_room (Nat.le_of_ble_eq_true rfl)) dX5_claim_8 ⟨(Nat.le_of_ble_eq_true rfl), (Nat.le_of_ble_eq_true rfl)⟩) hS (fun q _ h => hFc q h) hFc (fun q _ h => hFc q h) (fun E9 ce9 q9 u9 t9 H9 locs9 ht9 hvm9 hpx9 hBX9 hz9 hk9 hS9 hce9 hcv9 hcl9 => ?_) (fun u t H1 locs ht hvm hw_r_2 hB hz1 hk1 hS => ?_)
  · obtain ⟨hp9, rfl⟩ := exSome hBX9
    have hP := keepP hP hk9
    exact vx_out (fun x hx9 => (hET x hx9).elim) hlocks hce9 hcv9 hcl9 (fun t ht hvm => ⟨(), trivial, ⟨(by first | (simp [hp9]; done) | exact absurd hp9 (by decide)), by rw [ht]; exact hP, hAe ▸ hD⟩, hS9.F (ht.trans rfl)⟩) hS9.2.2 (by omega) (by omega)
  refine W.widen (k := 1) (n := 6) (by omega) (by omega) ?_
  have hP := keepP hP hk1
  generalize H1 = H at hP hS ⊢
  have hP : va_P (dC, dI) vwCl ([(o, .inr (iX5, [.ref g, .ref ce, .ref lu, .ref cl, .ref se, .int tu, .int ja, .int re])), (cl, .inr (iX0, [.int (nI cn), .int wd, .ref xn, .ref xf])), (xn, .inl (cI, 12, .inl (nr))), (xf, .inl (cI, 12, .inl (nf)))]) H := hP
  try dsimp only at hw_r_2
  have hn_3 := hw_r_2
  have hn_3 := exNone hn_3
  refine lv_aload_n hx hb dX5_claim_11 rfl (lv_at hl 0 rfl) ?_
  refine va_get (D := (dC, dI)) (ci := iX5) (v := .ref cl) (C := RX5) (T := TX5) (N := 8) hx hb hts hin_X5 hown hK hP 0 rfl rfl 3 (by decide) hfl_30 (fun _ h9 => h9) rfl dX5_claim_12 ?_
  refine va_get (D := (dC, dI)) (ci := iX0) (v := .int (nI cn)) (C := RX0) (T := TX0) (N := 4) hx hb hts hin_X0 hown hK hP 1 rfl rfl 0 (by decide) hfl_113 (fun _ h9 => h9) rfl dX5_claim_15 ?_
  refine lv_bipush (v := 12) hx hb dX5_claim_18 (by decide) ?_
  refine lv_icmp_ge (tgt := 27) hx hb dX5_claim_20 (by decide) (fun c_4 => ?_) (fun c_4 => ?_)
  · refine lv_iconst (v := 0) hx hb dX5_claim_27 (by decide) ?_
    have hPc : va_P (dC, dI) vwCl [] H := nilP
    have hFc := frZ hS hA
    refine vx_callv (vx_runS (As := [.int 0]) (rest := []) ⟨hx, hb, hml, hown, hts⟩ (c_X5_demandState l dC dI cI cF tr (H).size hfl 0) (va_cwS 1 hts gX5_claim_X5_demandState rfl rfl rfl (by decide +kernel) ⟨Nat.le_of_ble_eq_true rfl, Nat.le_of_ble_eq_true rfl⟩) ⟨cXbl, (cXpre hPc hK hN (hXE0.kept hS) hFc)⟩ rfl rfl hl.1 rfl (lv_room (Nat.le_of_ble_eq_true rfl)) dX5_claim_28 ⟨(Nat.le_of_ble_eq_true rfl), (Nat.le_of_ble_eq_true rfl)⟩) hS (fun q _ h => hFc q h) hFc (fun q _ h => hFc q h) (fun E9 ce9 q9 u9 t9 H9 locs9 ht9 hvm9 hpx9 hBX9 hz9 hk9 hS9 hce9 hcv9 hcl9 => ?_) (fun u t H1 locs ht hvm hw_r_5 hB hz1 hk1 hS => ?_)
    · obtain ⟨hp9, rfl⟩ := exSome hBX9
      have hP := keepP hP hk9
      exact vx_out (fun x hx9 => (hET x hx9).elim) hlocks hce9 hcv9 hcl9 (fun t ht hvm => ⟨(), trivial, ⟨(by first | (simp [hn_3, c_4, hp9]; done) | exact absurd hp9 (by decide)), by rw [ht]; exact hP, hAe ▸ hD⟩, hS9.F (ht.trans rfl)⟩) hS9.2.2 (by omega) (by omega)
    refine W.widen (k := 2) (n := 12) (by omega) (by omega) ?_
    have hP := keepP hP hk1
    generalize H1 = H at hP hS ⊢
    have hP : va_P (dC, dI) vwCl ([(o, .inr (iX5, [.ref g, .ref ce, .ref lu, .ref cl, .ref se, .int tu, .int ja, .int re])), (cl, .inr (iX0, [.int (nI cn), .int wd, .ref xn, .ref xf])), (xn, .inl (cI, 12, .inl (nr))), (xf, .inl (cI, 12, .inl (nf)))]) H := hP
    try dsimp only at hw_r_5
    have hn_6 := hw_r_5
    have hn_6 := exNone hn_6
    exact absurd rfl hn_6
  · refine lv_iconst (v := 1) hx hb dX5_claim_23 (by decide) ?_
    refine lv_goto (tgt := 28) hx hb dX5_claim_24 (by decide) ?_
    have hPc : va_P (dC, dI) vwCl [] H := nilP
    have hFc := frZ hS hA
    refine vx_callv (vx_runS (As := [.int 1]) (rest := []) ⟨hx, hb, hml, hown, hts⟩ (c_X5_demandState l dC dI cI cF tr (H).size hfl 1) (va_cwS 1 hts gX5_claim_X5_demandState rfl rfl rfl (by decide +kernel) ⟨Nat.le_of_ble_eq_true rfl, Nat.le_of_ble_eq_true rfl⟩) ⟨cXbl, (cXpre hPc hK hN (hXE0.kept hS) hFc)⟩ rfl rfl hl.1 rfl (lv_room (Nat.le_of_ble_eq_true rfl)) dX5_claim_28 ⟨(Nat.le_of_ble_eq_true rfl), (Nat.le_of_ble_eq_true rfl)⟩) hS (fun q _ h => hFc q h) hFc (fun q _ h => hFc q h) (fun E9 ce9 q9 u9 t9 H9 locs9 ht9 hvm9 hpx9 hBX9 hz9 hk9 hS9 hce9 hcv9 hcl9 => ?_) (fun u t H1 locs ht hvm hw_r_7 hB hz1 hk1 hS => ?_)
    · obtain ⟨hp9, rfl⟩ := exSome hBX9
      have hP := keepP hP hk9
      exact vx_out (fun x hx9 => (hET x hx9).elim) hlocks hce9 hcv9 hcl9 (fun t ht hvm => ⟨(), trivial, ⟨(by first | (simp [hn_3, c_4, hp9]; done) | exact absurd hp9 (by decide)), by rw [ht]; exact hP, hAe ▸ hD⟩, hS9.F (ht.trans rfl)⟩) hS9.2.2 (by omega) (by omega)
    refine W.widen (k := 2) (n := 12) (by omega) (by omega) ?_
    have hP := keepP hP hk1
    generalize H1 = H at hP hS ⊢
    have hP : va_P (dC, dI) vwCl ([(o, .inr (iX5, [.ref g, .ref ce, .ref lu, .ref cl, .ref se, .int tu, .int ja, .int re])), (cl, .inr (iX0, [.int (nI cn), .int wd, .ref xn, .ref xf])), (xn, .inl (cI, 12, .inl (nr))), (xf, .inl (cI, 12, .inl (nf)))]) H := hP
    try dsimp only at hw_r_7
    have hn_8 := hw_r_7
    have hn_8 := exNone hn_8
    refine lv_aload_n hx hb dX5_claim_31 rfl (lv_at hl 0 rfl) ?_
    refine va_get (D := (dC, dI)) (ci := iX5) (v := .ref cl) (C := RX5) (T := TX5) (N := 8) hx hb hts hin_X5 hown hK hP 0 rfl rfl 3 (by decide) hfl_30 (fun _ h9 => h9) rfl dX5_claim_32 ?_
    refine lv_iload_n hx hb dX5_claim_35 rfl (lv_at hl 1 rfl) ?_
    have hPc : va_P (dC, dI) vwCl ([(cl, .inr (iX0, [.int (nI cn), .int wd, .ref xn, .ref xf])), (xn, .inl (cI, 12, .inl (nr))), (xf, .inl (cI, 12, .inl (nf)))]) _ := hP.sub [1, 2, 3] rfl
    have hDc : va_D (fun _ => True) ([(cl, .inr (iX0, [.int (nI cn), .int wd, .ref xn, .ref xf])), (xn, .inl (cI, 12, .inl (nr))), (xf, .inl (cI, 12, .inl (nf)))]) := (hD.sub (ws' := [(cl, .inr (iX0, [.int (nI cn), .int wd, .ref xn, .ref xf])), (xn, .inl (cI, 12, .inl (nr))), (xf, .inl (cI, 12, .inl (nf)))]) [1, 2, 3] (by decide) rfl).weaken (fun _ _ _ _ => trivial)
    have hFc := va_free (wc := [(cl, .inr (iX0, [.int (nI cn), .int wd, .ref xn, .ref xf])), (xn, .inl (cI, 12, .inl (nr))), (xf, .inl (cI, 12, .inl (nf)))]) hD hS hA [1, 2, 3] rfl
    refine va_calli (va_runV (As := [.int i]) (rest := []) ⟨hx, hb, hml, hown, hts⟩ (c_X0_addClaim l dC dI cI cF tr (H).size cl cn wd xn xf nr nf i (by assumption)) (cwV 1 hts gX5_claim_X0_addClaim rfl rfl rfl (by decide +kernel) ⟨Nat.le_of_ble_eq_true rfl, Nat.le_of_ble_eq_true rfl⟩) ⟨cDbl, (va_recv hK hPc (ci := iX0) (q0 := 0) rfl rfl), (cDpre hPc hK hN hDc)⟩ rfl rfl hl.1 rfl (lv_room (Nat.le_of_ble_eq_true rfl)) dX5_claim_36 ⟨(Nat.le_of_ble_eq_true rfl), (Nat.le_of_ble_eq_true rfl)⟩) hS (fun q _ h => hFc q h) hFc (fun r_9 u t H1 locs ht hvm hw_r_9 hB hz1 hk1 hS => ?_)
    refine W.widen (k := 2) (n := 12) (Nat.le_refl _) (Nat.le_refl _) ?_
    obtain ⟨hP1, hD1⟩ := hB
    rw [ht] at hP1
    obtain ⟨hP, hD⟩ := va_join (wr := [(o, .inr (iX5, [.ref g, .ref ce, .ref lu, .ref cl, .ref se, .int tu, .int ja, .int re]))]) (w1 := [(cl, .inr (iX0, [.int (nI (cn + 1)), .int wd, .ref xn, .ref xf])), (xn, .inl (cI, 12, .inl (putF 12 nr (nI cn) i))), (xf, .inl (cI, 12, .inl (putF 12 nf (nI cn) (acL i nf cn))))]) hP hD [1, 2, 3] [0] rfl rfl (by decide) (by decide) hk1 hFc hP1 hD1
    have hD := hD.sub (ws' := [(o, .inr (iX5, [.ref g, .ref ce, .ref lu, .ref cl, .ref se, .int tu, .int ja, .int re])), (cl, .inr (iX0, [.int (nI (cn + 1)), .int wd, .ref xn, .ref xf])), (xn, .inl (cI, 12, .inl (putF 12 nr (nI cn) i))), (xf, .inl (cI, 12, .inl (putF 12 nf (nI cn) (acL i nf cn))))]) [0, 1, 2, 3] (by decide) rfl
    have hP : va_P (dC, dI) vwCl ([(o, .inr (iX5, [.ref g, .ref ce, .ref lu, .ref cl, .ref se, .int tu, .int ja, .int re])), (cl, .inr (iX0, [.int (nI (cn + 1)), .int wd, .ref xn, .ref xf])), (xn, .inl (cI, 12, .inl (putF 12 nr (nI cn) i))), (xf, .inl (cI, 12, .inl (putF 12 nf (nI cn) (acL i nf cn))))]) H1 := hP.sub [0, 1, 2, 3] rfl
    generalize H1 = H at hP hS ⊢
    have hP : va_P (dC, dI) vwCl ([(o, .inr (iX5, [.ref g, .ref ce, .ref lu, .ref cl, .ref se, .int tu, .int ja, .int re])), (cl, .inr (iX0, [.int (nI (cn + 1)), .int wd, .ref xn, .ref xf])), (xn, .inl (cI, 12, .inl (putF 12 nr (nI cn) i))), (xf, .inl (cI, 12, .inl (putF 12 nf (nI cn) (acL i nf cn))))]) H := hP
    have hD : va_D A ([(o, .inr (iX5, [.ref g, .ref ce, .ref lu, .ref cl, .ref se, .int tu, .int ja, .int re])), (cl, .inr (iX0, [.int (nI (cn + 1)), .int wd, .ref xn, .ref xf])), (xn, .inl (cI, 12, .inl (putF 12 nr (nI cn) i))), (xf, .inl (cI, 12, .inl (putF 12 nf (nI cn) (acL i nf cn))))]) := hD
    try dsimp only at hw_r_9
    subst hw_r_9
    refine W.widen (k := 2) (n := 12) (by omega) (by omega) ?_
    refine vx_ret ?_
    exact W.iret (v := nI cn) hx hb hr (fun t ht hW => ⟨⟨nI cn, (), rfl, ⟨(by simp [hn_3, c_4, hn_8]), (by first | rfl | (simp [hn_3, c_4, hn_8]; done) | contradiction)⟩, ⟨by rw [ht]; exact hP, hAe ▸ hD⟩⟩, hS.F ht⟩) hS.2.2 dX5_claim_39

set_option maxHeartbeats 4000000 in
set_option maxRecDepth 100000 in
theorem c_X5_withdraw (l : Launch) (dC : Nat → ClassId) (dI : Nat → Nat → Nat) (cI cF : ClassId) (tr : List (ClassId × FieldType)) (sz : Nat) (hfl : l.stackTraces = false) (o : Nat) (ce : Nat) (lu : Nat) (cl : Nat) (se : Nat) (tu : Int32) (ja : Int32) (re : Int32) (g : Nat) (cn : Nat) (wd : Int32) (xn : Nat) (xf : Nat) (nr : Nat → Int32) (i : Int32) (b : Int32) (hcn : cn ≤ 12) : vx_Met l yX5_withdraw wsX5_withdraw ({ frames := 8, cells := 1, slots := 6, locals := 123 } : Room) (cXd dC dI ((cI, .int) :: (cF, .object RX1) :: tr) sz ([(o, .inr (iX5, [.ref g, .ref ce, .ref lu, .ref cl, .ref se, .int tu, .int ja, .int re])), (cl, .inr (iX0, [.int (nI cn), .int wd, .ref xn, .ref xf])), (xn, .inl (cI, 12, .inl (nr)))]) (va_A ([(o, .inr (iX5, [.ref g, .ref ce, .ref lu, .ref cl, .ref se, .int tu, .int ja, .int re])), (cl, .inr (iX0, [.int (nI cn), .int wd, .ref xn, .ref xf])), (xn, .inl (cI, 12, .inl (nr)))]) sz) [.ref o, .int i, .int b]) (va_Qi (fun (r : Int32) (_ : Unit) => (if withinF i 0 (nI cn - 1) = 0 then some xI else none) = none ∧ r = bcF (stL nr (swF wd i b) cn)) (fun _ t => va_P (dC, dI) vwCl ([(o, .inr (iX5, [.ref g, .ref ce, .ref lu, .ref cl, .ref se, .int tu, .int ja, .int re])), (cl, .inr (iX0, [.int (nI cn), .int (swF wd i b), .ref xn, .ref xf])), (xn, .inl (cI, 12, .inl (nr)))]) t.heap ∧ va_D (va_A ([(o, .inr (iX5, [.ref g, .ref ce, .ref lu, .ref cl, .ref se, .int tu, .int ja, .int re])), (cl, .inr (iX0, [.int (nI cn), .int wd, .ref xn, .ref xf])), (xn, .inl (cI, 12, .inl (nr)))]) sz) ([(o, .inr (iX5, [.ref g, .ref ce, .ref lu, .ref cl, .ref se, .int tu, .int ja, .int re])), (cl, .inr (iX0, [.int (nI cn), .int (swF wd i b), .ref xn, .ref xf])), (xn, .inl (cI, 12, .inl (nr)))])) (va_A ([(o, .inr (iX5, [.ref g, .ref ce, .ref lu, .ref cl, .ref se, .int tu, .int ja, .int re])), (cl, .inr (iX0, [.int (nI cn), .int wd, .ref xn, .ref xf])), (xn, .inl (cI, 12, .inl (nr)))]) sz)) (vx_X (fun _ : Unit => True) (fun E _ t => (if withinF i 0 (nI cn - 1) = 0 then some xI else none) = some E ∧ va_P (dC, dI) vwCl ([(o, .inr (iX5, [.ref g, .ref ce, .ref lu, .ref cl, .ref se, .int tu, .int ja, .int re])), (cl, .inr (iX0, [.int (nI cn), .int wd, .ref xn, .ref xf])), (xn, .inl (cI, 12, .inl (nr)))]) t.heap ∧ va_D (va_A ([(o, .inr (iX5, [.ref g, .ref ce, .ref lu, .ref cl, .ref se, .int tu, .int ja, .int re])), (cl, .inr (iX0, [.int (nI cn), .int wd, .ref xn, .ref xf])), (xn, .inl (cI, 12, .inl (nr)))]) sz) ([(o, .inr (iX5, [.ref g, .ref ce, .ref lu, .ref cl, .ref se, .int tu, .int ja, .int re])), (cl, .inr (iX0, [.int (nI cn), .int wd, .ref xn, .ref xf])), (xn, .inl (cI, 12, .inl (nr)))])) (va_A ([(o, .inr (iX5, [.ref g, .ref ce, .ref lu, .ref cl, .ref se, .int tu, .int ja, .int re])), (cl, .inr (iX0, [.int (nI cn), .int wd, .ref xn, .ref xf])), (xn, .inl (cI, 12, .inl (nr)))]) sz)) 1 6 (va_A ([(o, .inr (iX5, [.ref g, .ref ce, .ref lu, .ref cl, .ref se, .int tu, .int ja, .int re])), (cl, .inr (iX0, [.int (nI cn), .int wd, .ref xn, .ref xf])), (xn, .inl (cI, 12, .inl (nr)))]) sz) := by
  refine vx_ofW (cc := cX5_withdraw) (maxL := 3) (ret := (some .int)) (by decide) rfl ?_
  intro p e s m args below meth c s₁ B hml hET hv
  obtain ⟨rfl, hsz, hP, hK, hN, hXE0, hD0⟩ := hv
  have hx := B.exec
  have hb := B.bytes
  have hr := B.returns
  have hts := atoms_spec (ws := wsX5_withdraw) B.pre
  have hown : s.vm.findClass RX5 = some m.cls := findClass_of_methodNamed B.named
  have hlocks := B.notSynchronized
  subst hsz
  have hD := hD0.self (sz := s.heap.size)
  generalize hAe : va_A ([(o, .inr (iX5, [.ref g, .ref ce, .ref lu, .ref cl, .ref se, .int tu, .int ja, .int re])), (cl, .inr (iX0, [.int (nI cn), .int wd, .ref xn, .ref xf])), (xn, .inl (cI, 12, .inl (nr)))]) s.heap.size = A at hD hXE0 ⊢
  have hA : ∀ q : Nat, s.heap.size ≤ q → A q := fun q h => by rw [← hAe]; exact Or.inr h
  have hS : va_S A s.heap s.heap [] := va_S.rf
  have hP : va_P (dC, dI) vwCl ([(o, .inr (iX5, [.ref g, .ref ce, .ref lu, .ref cl, .ref se, .int tu, .int ja, .int re])), (cl, .inr (iX0, [.int (nI cn), .int wd, .ref xn, .ref xf])), (xn, .inl (cI, 12, .inl (nr)))]) s.heap := hP
  have hl := lv_entry ([.ref o, .int i, .int b]) (n := 3) (Nat.le_of_ble_eq_true rfl)
  rw [lg_entry_eq]
  generalize (lg_sl ([.ref o, .int i, .int b]) ++ List.replicate (3 - (lg_sl ([.ref o, .int i, .int b])).length) Slot.unset).toArray = ls at hl ⊢
  have hl : lv_has ls 3 [(0, .ref o), (1, .int i), (2, .int b)] := hl
  have hfl_30 := hts (.fieldLink RX5 30 "Greenwheels" "claims" "LGreenwheels$Claims;") (by decide +kernel)
  have hin_X5 : ∀ w ∈ u_ws RX5 TX5 8, w ∈ wsX5_withdraw := by decide +kernel
  refine lv_aload_n hx hb dX5_withdraw_0 rfl (lv_at hl 0 rfl) ?_
  refine lv_iload_n hx hb dX5_withdraw_1 rfl (lv_at hl 1 rfl) ?_
  have hPc : va_P (dC, dI) vwCl ([(o, .inr (iX5, [.ref g, .ref ce, .ref lu, .ref cl, .ref se, .int tu, .int ja, .int re])), (cl, .inr (iX0, [.int (nI cn), .int wd, .ref xn, .ref xf]))]) _ := hP.sub [0, 1] rfl
  have hFc := frZ hS hA
  refine vx_callv (vx_runV (As := [.int i]) (rest := []) ⟨hx, hb, hml, hown, hts⟩ (c_X5_demandClaim l dC dI cI cF tr (s.heap).size hfl o ce lu cl se tu ja re g cn wd xn xf i) (cwV 1 hts gX5_withdraw_X5_demandClaim rfl rfl rfl (by decide +kernel) ⟨Nat.le_of_ble_eq_true rfl, Nat.le_of_ble_eq_true rfl⟩) ⟨cXbl, (va_recv hK hPc (ci := iX5) (q0 := 0) rfl rfl), (cXpre hPc hK hN (hXE0.kept hS) hFc)⟩ rfl rfl hl.1 rfl (lv_room (Nat.le_of_ble_eq_true rfl)) dX5_withdraw_2 ⟨(Nat.le_of_ble_eq_true rfl), (Nat.le_of_ble_eq_true rfl)⟩) hS (fun q _ h => hFc q h) hFc (fun q _ h => hFc q h) (fun E9 ce9 q9 u9 t9 H9 locs9 ht9 hvm9 hpx9 hBX9 hz9 hk9 hS9 hce9 hcv9 hcl9 => ?_) (fun u t H1 locs ht hvm hw_r_1 hB hz1 hk1 hS => ?_)
  · obtain ⟨hp9, rfl⟩ := exSome hBX9
    have hP := keepP hP hk9
    exact vx_out (fun x hx9 => (hET x hx9).elim) hlocks hce9 hcv9 hcl9 (fun t ht hvm => ⟨(), trivial, ⟨(by first | (simp [hp9]; done) | exact absurd hp9 (by decide)), by rw [ht]; exact hP, hAe ▸ hD⟩, hS9.F (ht.trans rfl)⟩) hS9.2.2 (by omega) (by omega)
  refine W.widen (k := 1) (n := 6) (by omega) (by omega) ?_
  have hP := keepP hP hk1
  generalize H1 = H at hP hS ⊢
  have hP : va_P (dC, dI) vwCl ([(o, .inr (iX5, [.ref g, .ref ce, .ref lu, .ref cl, .ref se, .int tu, .int ja, .int re])), (cl, .inr (iX0, [.int (nI cn), .int wd, .ref xn, .ref xf])), (xn, .inl (cI, 12, .inl (nr)))]) H := hP
  try dsimp only at hw_r_1
  have hn_2 := hw_r_1
  have hn_2 := exNone hn_2
  refine lv_aload_n hx hb dX5_withdraw_5 rfl (lv_at hl 0 rfl) ?_
  refine va_get (D := (dC, dI)) (ci := iX5) (v := .ref cl) (C := RX5) (T := TX5) (N := 8) hx hb hts hin_X5 hown hK hP 0 rfl rfl 3 (by decide) hfl_30 (fun _ h9 => h9) rfl dX5_withdraw_6 ?_
  refine lv_iload_n hx hb dX5_withdraw_9 rfl (lv_at hl 1 rfl) ?_
  refine lv_iload_n hx hb dX5_withdraw_10 rfl (lv_at hl 2 rfl) ?_
  have hPc : va_P (dC, dI) vwCl ([(cl, .inr (iX0, [.int (nI cn), .int wd, .ref xn, .ref xf]))]) _ := hP.sub [1] rfl
  have hDc : va_D (fun _ => True) ([(cl, .inr (iX0, [.int (nI cn), .int wd, .ref xn, .ref xf]))]) := (hD.sub (ws' := [(cl, .inr (iX0, [.int (nI cn), .int wd, .ref xn, .ref xf]))]) [1] (by decide) rfl).weaken (fun _ _ _ _ => trivial)
  have hFc := va_free (wc := [(cl, .inr (iX0, [.int (nI cn), .int wd, .ref xn, .ref xf]))]) hD hS hA [1] rfl
  refine va_callv (va_runV (As := [.int i, .int b]) (rest := []) ⟨hx, hb, hml, hown, hts⟩ (c_X0_setWithdrawn l dC dI cI cF tr (H).size cl cn wd xn xf i b) (cwV 2 hts gX5_withdraw_X0_setWithdrawn rfl rfl rfl (by decide +kernel) ⟨Nat.le_of_ble_eq_true rfl, Nat.le_of_ble_eq_true rfl⟩) ⟨cDbl, (va_recv hK hPc (ci := iX0) (q0 := 0) rfl rfl), (cDpre hPc hK hN hDc)⟩ rfl rfl hl.1 rfl (lv_room (Nat.le_of_ble_eq_true rfl)) dX5_withdraw_11 ⟨(Nat.le_of_ble_eq_true rfl), (Nat.le_of_ble_eq_true rfl)⟩) hS (fun q _ h => hFc q h) hFc (fun u t H1 locs ht hvm hw_r_3 hB hz1 hk1 hS => ?_)
  refine W.widen (k := 1) (n := 6) (Nat.le_refl _) (Nat.le_refl _) ?_
  obtain ⟨hP1, hD1⟩ := hB
  rw [ht] at hP1
  obtain ⟨hP, hD⟩ := va_join (wr := [(o, .inr (iX5, [.ref g, .ref ce, .ref lu, .ref cl, .ref se, .int tu, .int ja, .int re])), (xn, .inl (cI, 12, .inl (nr)))]) (w1 := [(cl, .inr (iX0, [.int (nI cn), .int (swF wd i b), .ref xn, .ref xf]))]) hP hD [1] [0, 2] rfl rfl (by decide) (by decide) hk1 hFc hP1 hD1
  have hD := hD.sub (ws' := [(o, .inr (iX5, [.ref g, .ref ce, .ref lu, .ref cl, .ref se, .int tu, .int ja, .int re])), (cl, .inr (iX0, [.int (nI cn), .int (swF wd i b), .ref xn, .ref xf])), (xn, .inl (cI, 12, .inl (nr)))]) [0, 2, 1] (by decide) rfl
  have hP : va_P (dC, dI) vwCl ([(o, .inr (iX5, [.ref g, .ref ce, .ref lu, .ref cl, .ref se, .int tu, .int ja, .int re])), (cl, .inr (iX0, [.int (nI cn), .int (swF wd i b), .ref xn, .ref xf])), (xn, .inl (cI, 12, .inl (nr)))]) H1 := hP.sub [0, 2, 1] rfl
  generalize H1 = H at hP hS ⊢
  have hP : va_P (dC, dI) vwCl ([(o, .inr (iX5, [.ref g, .ref ce, .ref lu, .ref cl, .ref se, .int tu, .int ja, .int re])), (cl, .inr (iX0, [.int (nI cn), .int (swF wd i b), .ref xn, .ref xf])), (xn, .inl (cI, 12, .inl (nr)))]) H := hP
  have hD : va_D A ([(o, .inr (iX5, [.ref g, .ref ce, .ref lu, .ref cl, .ref se, .int tu, .int ja, .int re])), (cl, .inr (iX0, [.int (nI cn), .int (swF wd i b), .ref xn, .ref xf])), (xn, .inl (cI, 12, .inl (nr)))]) := hD
  try dsimp only at hw_r_3
  refine lv_aload_n hx hb dX5_withdraw_14 rfl (lv_at hl 0 rfl) ?_
  refine va_get (D := (dC, dI)) (ci := iX5) (v := .ref cl) (C := RX5) (T := TX5) (N := 8) hx hb hts hin_X5 hown hK hP 0 rfl rfl 3 (by decide) hfl_30 (fun _ h9 => h9) rfl dX5_withdraw_15 ?_
  have hPc : va_P (dC, dI) vwCl ([(cl, .inr (iX0, [.int (nI cn), .int (swF wd i b), .ref xn, .ref xf])), (xn, .inl (cI, 12, .inl (nr)))]) _ := hP.sub [1, 2] rfl
  have hFc := frZ hS hA
  refine va_calli (va_runV (As := []) (rest := []) ⟨hx, hb, hml, hown, hts⟩ (c_X0_countStanding l dC dI cI cF tr (H).size cl cn (swF wd i b) xn xf nr (by assumption)) (cwV 0 hts gX5_withdraw_X0_countStanding rfl rfl rfl (by decide +kernel) ⟨Nat.le_of_ble_eq_true rfl, Nat.le_of_ble_eq_true rfl⟩) ⟨cBl, (va_recv hK hPc (ci := iX0) (q0 := 0) rfl rfl), (cPre hPc hK hN)⟩ rfl rfl hl.1 rfl (lv_room (Nat.le_of_ble_eq_true rfl)) dX5_withdraw_18 ⟨(Nat.le_of_ble_eq_true rfl), (Nat.le_of_ble_eq_true rfl)⟩) hS (fun q _ h => hFc q h) hFc (fun r_4 u t H1 locs ht hvm hw_r_4 hB hz1 hk1 hS => ?_)
  refine W.widen (k := 1) (n := 6) (Nat.le_refl _) (Nat.le_refl _) ?_
  have hP := keepP hP hk1
  generalize H1 = H at hP hS ⊢
  have hP : va_P (dC, dI) vwCl ([(o, .inr (iX5, [.ref g, .ref ce, .ref lu, .ref cl, .ref se, .int tu, .int ja, .int re])), (cl, .inr (iX0, [.int (nI cn), .int (swF wd i b), .ref xn, .ref xf])), (xn, .inl (cI, 12, .inl (nr)))]) H := hP
  try dsimp only at hw_r_4
  subst hw_r_4
  refine W.widen (k := 1) (n := 6) (by omega) (by omega) ?_
  refine vx_ret ?_
  exact W.iret (v := bcF (stL nr (swF wd i b) cn)) hx hb hr (fun t ht hW => ⟨⟨bcF (stL nr (swF wd i b) cn), (), rfl, ⟨(by simp [hn_2]), (by first | rfl | (simp [hn_2]; done) | contradiction)⟩, ⟨by rw [ht]; exact hP, hAe ▸ hD⟩⟩, hS.F ht⟩) hS.2.2 dX5_withdraw_21

set_option maxHeartbeats 4000000 in
set_option maxRecDepth 100000 in
theorem c_X5_part (l : Launch) (dC : Nat → ClassId) (dI : Nat → Nat → Nat) (cI cF : ClassId) (tr : List (ClassId × FieldType)) (sz : Nat) (hfl : l.stackTraces = false) (o : Nat) (ce : Nat) (lu : Nat) (cl : Nat) (se : Nat) (tu : Int32) (ja : Int32) (re : Int32) (g : Nat) (n : Nat) (xa : Nat) (xt : Nat) (xm : Nat) (wh : Nat) (st : Nat) (xb : Nat) (xc : Nat) (ax : Nat → Int32) (te : Nat → Int32) (me : Nat → Int32) (bc : Nat → Option Nat) (LP : List Nat) (v : Nat → Int64 × Int64) (i : Int32) (j : Int32) (hbk : bOK LP bc) (hn : n ≤ 12) (hwh : wh ∈ LP) : vx_Met l yX5_part wsX5_part ({ frames := 8, cells := 1010, slots := 2028, locals := 153 } : Room) (cXd dC dI ((cI, .int) :: (cF, .object RX1) :: tr) sz ([(o, .inr (iX5, [.ref g, .ref ce, .ref lu, .ref cl, .ref se, .int tu, .int ja, .int re])), (g, .inr (iX2, [.int (nI n), .ref xa, .ref xt, .ref xm, .ref wh, .ref st, .ref xb, .ref xc])), (xa, .inl (cI, 12, .inl (ax))), (xt, .inl (cI, 12, .inl (te))), (xm, .inl (cI, 12, .inl (me))), (xb, .inl (cF, 7, .inr (.inr (.inr (.inr (bc))))))] ++ va_pl LP (fe v)) (va_A ([(o, .inr (iX5, [.ref g, .ref ce, .ref lu, .ref cl, .ref se, .int tu, .int ja, .int re])), (g, .inr (iX2, [.int (nI n), .ref xa, .ref xt, .ref xm, .ref wh, .ref st, .ref xb, .ref xc])), (xa, .inl (cI, 12, .inl (ax))), (xt, .inl (cI, 12, .inl (te))), (xm, .inl (cI, 12, .inl (me))), (xb, .inl (cF, 7, .inr (.inr (.inr (.inr (bc))))))] ++ va_pl LP (fe v)) sz) [.ref o, .int i, .int j]) (va_Qi (fun (r : Int32) (u : (Nat → Int32) × (Nat → Option Nat) × List Nat × (Nat → Int64 × Int64)) => (if withinF i 0 (nI n - 1) = 0 then some xI else if withinF j 0 (nI n - 1) = 0 then some xI else none) = none ∧ r = isInF (atF 12 me i) j ∧ u.1 = (if isInF (atF 12 me i) j = 0 then me else seF me i j) ∧ bOK u.2.2.1 u.2.1 ∧ keepL LP u.2.2.1 v u.2.2.2 ∧ abR u.2.1 u.2.2.2 = (if isInF (atF 12 me i) j = 0 then abR bc v else sprF ax te (seF me i j) n 0 (v wh))) (fun ⟨me1, b1, LP1, v1⟩ t => va_P (dC, dI) vwCl ([(o, .inr (iX5, [.ref g, .ref ce, .ref lu, .ref cl, .ref se, .int tu, .int ja, .int re])), (g, .inr (iX2, [.int (nI n), .ref xa, .ref xt, .ref xm, .ref wh, .ref st, .ref xb, .ref xc])), (xa, .inl (cI, 12, .inl (ax))), (xt, .inl (cI, 12, .inl (te))), (xm, .inl (cI, 12, .inl (me1))), (xb, .inl (cF, 7, .inr (.inr (.inr (.inr (b1))))))] ++ va_pl LP1 (fe v1)) t.heap ∧ va_D (va_A ([(o, .inr (iX5, [.ref g, .ref ce, .ref lu, .ref cl, .ref se, .int tu, .int ja, .int re])), (g, .inr (iX2, [.int (nI n), .ref xa, .ref xt, .ref xm, .ref wh, .ref st, .ref xb, .ref xc])), (xa, .inl (cI, 12, .inl (ax))), (xt, .inl (cI, 12, .inl (te))), (xm, .inl (cI, 12, .inl (me))), (xb, .inl (cF, 7, .inr (.inr (.inr (.inr (bc))))))] ++ va_pl LP (fe v)) sz) ([(o, .inr (iX5, [.ref g, .ref ce, .ref lu, .ref cl, .ref se, .int tu, .int ja, .int re])), (g, .inr (iX2, [.int (nI n), .ref xa, .ref xt, .ref xm, .ref wh, .ref st, .ref xb, .ref xc])), (xa, .inl (cI, 12, .inl (ax))), (xt, .inl (cI, 12, .inl (te))), (xm, .inl (cI, 12, .inl (me1))), (xb, .inl (cF, 7, .inr (.inr (.inr (.inr (b1))))))] ++ va_pl LP1 (fe v1))) (va_A ([(o, .inr (iX5, [.ref g, .ref ce, .ref lu, .ref cl, .ref se, .int tu, .int ja, .int re])), (g, .inr (iX2, [.int (nI n), .ref xa, .ref xt, .ref xm, .ref wh, .ref st, .ref xb, .ref xc])), (xa, .inl (cI, 12, .inl (ax))), (xt, .inl (cI, 12, .inl (te))), (xm, .inl (cI, 12, .inl (me))), (xb, .inl (cF, 7, .inr (.inr (.inr (.inr (bc))))))] ++ va_pl LP (fe v)) sz)) (vx_X (fun _ : Unit => True) (fun E _ t => (if withinF i 0 (nI n - 1) = 0 then some xI else if withinF j 0 (nI n - 1) = 0 then some xI else none) = some E ∧ va_P (dC, dI) vwCl ([(o, .inr (iX5, [.ref g, .ref ce, .ref lu, .ref cl, .ref se, .int tu, .int ja, .int re])), (g, .inr (iX2, [.int (nI n), .ref xa, .ref xt, .ref xm, .ref wh, .ref st, .ref xb, .ref xc])), (xa, .inl (cI, 12, .inl (ax))), (xt, .inl (cI, 12, .inl (te))), (xm, .inl (cI, 12, .inl (me))), (xb, .inl (cF, 7, .inr (.inr (.inr (.inr (bc))))))] ++ va_pl LP (fe v)) t.heap ∧ va_D (va_A ([(o, .inr (iX5, [.ref g, .ref ce, .ref lu, .ref cl, .ref se, .int tu, .int ja, .int re])), (g, .inr (iX2, [.int (nI n), .ref xa, .ref xt, .ref xm, .ref wh, .ref st, .ref xb, .ref xc])), (xa, .inl (cI, 12, .inl (ax))), (xt, .inl (cI, 12, .inl (te))), (xm, .inl (cI, 12, .inl (me))), (xb, .inl (cF, 7, .inr (.inr (.inr (.inr (bc))))))] ++ va_pl LP (fe v)) sz) ([(o, .inr (iX5, [.ref g, .ref ce, .ref lu, .ref cl, .ref se, .int tu, .int ja, .int re])), (g, .inr (iX2, [.int (nI n), .ref xa, .ref xt, .ref xm, .ref wh, .ref st, .ref xb, .ref xc])), (xa, .inl (cI, 12, .inl (ax))), (xt, .inl (cI, 12, .inl (te))), (xm, .inl (cI, 12, .inl (me))), (xb, .inl (cF, 7, .inr (.inr (.inr (.inr (bc))))))] ++ va_pl LP (fe v))) (va_A ([(o, .inr (iX5, [.ref g, .ref ce, .ref lu, .ref cl, .ref se, .int tu, .int ja, .int re])), (g, .inr (iX2, [.int (nI n), .ref xa, .ref xt, .ref xm, .ref wh, .ref st, .ref xb, .ref xc])), (xa, .inl (cI, 12, .inl (ax))), (xt, .inl (cI, 12, .inl (te))), (xm, .inl (cI, 12, .inl (me))), (xb, .inl (cF, 7, .inr (.inr (.inr (.inr (bc))))))] ++ va_pl LP (fe v)) sz)) 1010 2028 (va_A ([(o, .inr (iX5, [.ref g, .ref ce, .ref lu, .ref cl, .ref se, .int tu, .int ja, .int re])), (g, .inr (iX2, [.int (nI n), .ref xa, .ref xt, .ref xm, .ref wh, .ref st, .ref xb, .ref xc])), (xa, .inl (cI, 12, .inl (ax))), (xt, .inl (cI, 12, .inl (te))), (xm, .inl (cI, 12, .inl (me))), (xb, .inl (cF, 7, .inr (.inr (.inr (.inr (bc))))))] ++ va_pl LP (fe v)) sz) := by
  refine vx_ofW (cc := cX5_part) (maxL := 4) (ret := (some .boolean)) (by decide) rfl ?_
  intro p e s m args below meth c s₁ B hml hET hv
  obtain ⟨rfl, hsz, hP, hK, hN, hXE0, hD0⟩ := hv
  have hx := B.exec
  have hb := B.bytes
  have hr := B.returns
  have hts := atoms_spec (ws := wsX5_part) B.pre
  have hown : s.vm.findClass RX5 = some m.cls := findClass_of_methodNamed B.named
  have hlocks := B.notSynchronized
  subst hsz
  have hD := hD0.self (sz := s.heap.size)
  generalize hAe : va_A ([(o, .inr (iX5, [.ref g, .ref ce, .ref lu, .ref cl, .ref se, .int tu, .int ja, .int re])), (g, .inr (iX2, [.int (nI n), .ref xa, .ref xt, .ref xm, .ref wh, .ref st, .ref xb, .ref xc])), (xa, .inl (cI, 12, .inl (ax))), (xt, .inl (cI, 12, .inl (te))), (xm, .inl (cI, 12, .inl (me))), (xb, .inl (cF, 7, .inr (.inr (.inr (.inr (bc))))))] ++ va_pl LP (fe v)) s.heap.size = A at hD hXE0 ⊢
  have hA : ∀ q : Nat, s.heap.size ≤ q → A q := fun q h => by rw [← hAe]; exact Or.inr h
  have hS : va_S A s.heap s.heap [] := va_S.rf
  have hP : va_P (dC, dI) vwCl ([(o, .inr (iX5, [.ref g, .ref ce, .ref lu, .ref cl, .ref se, .int tu, .int ja, .int re])), (g, .inr (iX2, [.int (nI n), .ref xa, .ref xt, .ref xm, .ref wh, .ref st, .ref xb, .ref xc])), (xa, .inl (cI, 12, .inl (ax))), (xt, .inl (cI, 12, .inl (te))), (xm, .inl (cI, 12, .inl (me))), (xb, .inl (cF, 7, .inr (.inr (.inr (.inr (bc))))))] ++ va_pl LP (fe v)) s.heap := hP
  have hl := lv_entry ([.ref o, .int i, .int j]) (n := 4) (Nat.le_of_ble_eq_true rfl)
  rw [lg_entry_eq]
  generalize (lg_sl ([.ref o, .int i, .int j]) ++ List.replicate (4 - (lg_sl ([.ref o, .int i, .int j])).length) Slot.unset).toArray = ls at hl ⊢
  have hl : lv_has ls 4 [(0, .ref o), (1, .int i), (2, .int j)] := hl
  have hfl_10 := hts (.fieldLink RX5 10 "Greenwheels" "gearing" "LGreenwheels$Gearing;") (by decide +kernel)
  have hin_X5 : ∀ w ∈ u_ws RX5 TX5 8, w ∈ wsX5_part := by decide +kernel
  refine lv_aload_n hx hb dX5_part_0 rfl (lv_at hl 0 rfl) ?_
  refine lv_iload_n hx hb dX5_part_1 rfl (lv_at hl 1 rfl) ?_
  have hPc : va_P (dC, dI) vwCl ([(o, .inr (iX5, [.ref g, .ref ce, .ref lu, .ref cl, .ref se, .int tu, .int ja, .int re])), (g, .inr (iX2, [.int (nI n), .ref xa, .ref xt, .ref xm, .ref wh, .ref st, .ref xb, .ref xc]))]) _ := hP.sub [0, 1] rfl
  have hFc := frZ hS hA
  refine vx_callv (vx_runV (As := [.int i]) (rest := []) ⟨hx, hb, hml, hown, hts⟩ (c_X5_demandWheel l dC dI cI cF tr (s.heap).size hfl o ce lu cl se tu ja re g n xa xt xm wh st xb xc i) (cwV 1 hts gX5_part_X5_demandWheel rfl rfl rfl (by decide +kernel) ⟨Nat.le_of_ble_eq_true rfl, Nat.le_of_ble_eq_true rfl⟩) ⟨cXbl, (va_recv hK hPc (ci := iX5) (q0 := 0) rfl rfl), (cXpre hPc hK hN (hXE0.kept hS) hFc)⟩ rfl rfl hl.1 rfl (lv_room (Nat.le_of_ble_eq_true rfl)) dX5_part_2 ⟨(Nat.le_of_ble_eq_true rfl), (Nat.le_of_ble_eq_true rfl)⟩) hS (fun q _ h => hFc q h) hFc (fun q _ h => hFc q h) (fun E9 ce9 q9 u9 t9 H9 locs9 ht9 hvm9 hpx9 hBX9 hz9 hk9 hS9 hce9 hcv9 hcl9 => ?_) (fun u t H1 locs ht hvm hw_r_1 hB hz1 hk1 hS => ?_)
  · obtain ⟨hp9, rfl⟩ := exSome hBX9
    have hP := keepP hP hk9
    exact vx_out (fun x hx9 => (hET x hx9).elim) hlocks hce9 hcv9 hcl9 (fun t ht hvm => ⟨(), trivial, ⟨(by first | (simp [hp9]; done) | exact absurd hp9 (by decide)), by rw [ht]; exact hP, hAe ▸ hD⟩, hS9.F (ht.trans rfl)⟩) hS9.2.2 (by omega) (by omega)
  refine W.widen (k := 1) (n := 6) (by omega) (by omega) ?_
  have hP := keepP hP hk1
  generalize H1 = H at hP hS ⊢
  have hP : va_P (dC, dI) vwCl ([(o, .inr (iX5, [.ref g, .ref ce, .ref lu, .ref cl, .ref se, .int tu, .int ja, .int re])), (g, .inr (iX2, [.int (nI n), .ref xa, .ref xt, .ref xm, .ref wh, .ref st, .ref xb, .ref xc])), (xa, .inl (cI, 12, .inl (ax))), (xt, .inl (cI, 12, .inl (te))), (xm, .inl (cI, 12, .inl (me))), (xb, .inl (cF, 7, .inr (.inr (.inr (.inr (bc))))))] ++ va_pl LP (fe v)) H := hP
  try dsimp only at hw_r_1
  have hn_2 := hw_r_1
  have hn_2 := exNone hn_2
  refine lv_aload_n hx hb dX5_part_5 rfl (lv_at hl 0 rfl) ?_
  refine lv_iload_n hx hb dX5_part_6 rfl (lv_at hl 2 rfl) ?_
  have hPc : va_P (dC, dI) vwCl ([(o, .inr (iX5, [.ref g, .ref ce, .ref lu, .ref cl, .ref se, .int tu, .int ja, .int re])), (g, .inr (iX2, [.int (nI n), .ref xa, .ref xt, .ref xm, .ref wh, .ref st, .ref xb, .ref xc]))]) _ := hP.sub [0, 1] rfl
  have hFc := frZ hS hA
  refine vx_callv (vx_runV (As := [.int j]) (rest := []) ⟨hx, hb, hml, hown, hts⟩ (c_X5_demandWheel l dC dI cI cF tr (H).size hfl o ce lu cl se tu ja re g n xa xt xm wh st xb xc j) (cwV 1 hts gX5_part_X5_demandWheel rfl rfl rfl (by decide +kernel) ⟨Nat.le_of_ble_eq_true rfl, Nat.le_of_ble_eq_true rfl⟩) ⟨cXbl, (va_recv hK hPc (ci := iX5) (q0 := 0) rfl rfl), (cXpre hPc hK hN (hXE0.kept hS) hFc)⟩ rfl rfl hl.1 rfl (lv_room (Nat.le_of_ble_eq_true rfl)) dX5_part_7 ⟨(Nat.le_of_ble_eq_true rfl), (Nat.le_of_ble_eq_true rfl)⟩) hS (fun q _ h => hFc q h) hFc (fun q _ h => hFc q h) (fun E9 ce9 q9 u9 t9 H9 locs9 ht9 hvm9 hpx9 hBX9 hz9 hk9 hS9 hce9 hcv9 hcl9 => ?_) (fun u t H1 locs ht hvm hw_r_3 hB hz1 hk1 hS => ?_)
  · obtain ⟨hp9, rfl⟩ := exSome hBX9
    have hP := keepP hP hk9
    exact vx_out (fun x hx9 => (hET x hx9).elim) hlocks hce9 hcv9 hcl9 (fun t ht hvm => ⟨(), trivial, ⟨(by first | (simp [hn_2, hp9]; done) | exact absurd hp9 (by decide)), by rw [ht]; exact hP, hAe ▸ hD⟩, hS9.F (ht.trans rfl)⟩) hS9.2.2 (by omega) (by omega)
  refine W.widen (k := 2) (n := 12) (by omega) (by omega) ?_
  have hP := keepP hP hk1
  generalize H1 = H at hP hS ⊢
  have hP : va_P (dC, dI) vwCl ([(o, .inr (iX5, [.ref g, .ref ce, .ref lu, .ref cl, .ref se, .int tu, .int ja, .int re])), (g, .inr (iX2, [.int (nI n), .ref xa, .ref xt, .ref xm, .ref wh, .ref st, .ref xb, .ref xc])), (xa, .inl (cI, 12, .inl (ax))), (xt, .inl (cI, 12, .inl (te))), (xm, .inl (cI, 12, .inl (me))), (xb, .inl (cF, 7, .inr (.inr (.inr (.inr (bc))))))] ++ va_pl LP (fe v)) H := hP
  try dsimp only at hw_r_3
  have hn_4 := hw_r_3
  have hn_4 := exNone hn_4
  refine lv_aload_n hx hb dX5_part_10 rfl (lv_at hl 0 rfl) ?_
  refine va_get (D := (dC, dI)) (ci := iX5) (v := .ref g) (C := RX5) (T := TX5) (N := 8) hx hb hts hin_X5 hown hK hP 0 rfl rfl 0 (by decide) hfl_10 (fun _ h9 => h9) rfl dX5_part_11 ?_
  refine lv_iload_n hx hb dX5_part_14 rfl (lv_at hl 1 rfl) ?_
  refine lv_iload_n hx hb dX5_part_15 rfl (lv_at hl 2 rfl) ?_
  have hPc : va_P (dC, dI) vwCl ([(g, .inr (iX2, [.int (nI n), .ref xa, .ref xt, .ref xm, .ref wh, .ref st, .ref xb, .ref xc])), (xm, .inl (cI, 12, .inl (me)))]) _ := hP.sub [1, 4] rfl
  have hFc := frZ hS hA
  refine va_calli (va_runV (As := [.int i, .int j]) (rest := []) ⟨hx, hb, hml, hown, hts⟩ (c_X2_areMeshed l dC dI cI cF tr (H).size g n xa xt xm wh st xb xc me i j) (cwV 2 hts gX5_part_X2_areMeshed rfl rfl rfl (by decide +kernel) ⟨Nat.le_of_ble_eq_true rfl, Nat.le_of_ble_eq_true rfl⟩) ⟨cBl, (va_recv hK hPc (ci := iX2) (q0 := 0) rfl rfl), (cPre hPc hK hN)⟩ rfl rfl hl.1 rfl (lv_room (Nat.le_of_ble_eq_true rfl)) dX5_part_16 ⟨(Nat.le_of_ble_eq_true rfl), (Nat.le_of_ble_eq_true rfl)⟩) hS (fun q _ h => hFc q h) hFc (fun r_5 u t H1 locs ht hvm hw_r_5 hB hz1 hk1 hS => ?_)
  refine W.widen (k := 2) (n := 12) (Nat.le_refl _) (Nat.le_refl _) ?_
  have hP := keepP hP hk1
  generalize H1 = H at hP hS ⊢
  have hP : va_P (dC, dI) vwCl ([(o, .inr (iX5, [.ref g, .ref ce, .ref lu, .ref cl, .ref se, .int tu, .int ja, .int re])), (g, .inr (iX2, [.int (nI n), .ref xa, .ref xt, .ref xm, .ref wh, .ref st, .ref xb, .ref xc])), (xa, .inl (cI, 12, .inl (ax))), (xt, .inl (cI, 12, .inl (te))), (xm, .inl (cI, 12, .inl (me))), (xb, .inl (cF, 7, .inr (.inr (.inr (.inr (bc))))))] ++ va_pl LP (fe v)) H := hP
  try dsimp only at hw_r_5
  subst hw_r_5
  refine lv_istore_n (lv' := [(3, .int (isInF (atF 12 me i) j)), (0, .ref o), (1, .int i), (2, .int j)]) hx hb dX5_part_19 rfl hl (by decide) rfl (fun ls hl => ?_)
  refine lv_iload_n hx hb dX5_part_20 rfl (lv_at hl 0 rfl) ?_
  refine lv_if_eq (tgt := 33) hx hb dX5_part_21 (by decide) (fun c_6 => ?_) (fun c_6 => ?_)
  · refine lv_iload_n hx hb dX5_part_33 rfl (lv_at hl 0 rfl) ?_
    refine W.widen (k := 1010) (n := 2028) (by omega) (by omega) ?_
    refine vx_ret ?_
    exact W.zret (v := isInF (atF 12 me i) j) hx hb hr (isInF_01 _ _) (fun t ht hW => ⟨⟨isInF (atF 12 me i) j, (me, bc, LP, v), rfl, ⟨by simp [hn_2, hn_4, c_6], rfl, by simp [c_6], hbk, keepL.rf, by simp [c_6]⟩, by rw [ht]; exact hP, hAe ▸ hD⟩, hS.F ht⟩) hS.2.2 dX5_part_34
  · refine lv_aload_n hx hb dX5_part_24 rfl (lv_at hl 1 rfl) ?_
    refine va_get (D := (dC, dI)) (ci := iX5) (v := .ref g) (C := RX5) (T := TX5) (N := 8) hx hb hts hin_X5 hown hK hP 0 rfl rfl 0 (by decide) hfl_10 (fun _ h9 => h9) rfl dX5_part_25 ?_
    refine lv_iload_n hx hb dX5_part_28 rfl (lv_at hl 2 rfl) ?_
    refine lv_iload_n hx hb dX5_part_29 rfl (lv_at hl 3 rfl) ?_
    have hPc : va_P (dC, dI) vwCl ([(g, .inr (iX2, [.int (nI n), .ref xa, .ref xt, .ref xm, .ref wh, .ref st, .ref xb, .ref xc])), (xa, .inl (cI, 12, .inl (ax))), (xt, .inl (cI, 12, .inl (te))), (xm, .inl (cI, 12, .inl (me))), (xb, .inl (cF, 7, .inr (.inr (.inr (.inr (bc))))))] ++ va_pl LP (fe v)) _ := hP.part [1, 2, 3, 4, 5] rfl
    have hDc : va_D (fun _ => True) ([(g, .inr (iX2, [.int (nI n), .ref xa, .ref xt, .ref xm, .ref wh, .ref st, .ref xb, .ref xc])), (xa, .inl (cI, 12, .inl (ax))), (xt, .inl (cI, 12, .inl (te))), (xm, .inl (cI, 12, .inl (me))), (xb, .inl (cF, 7, .inr (.inr (.inr (.inr (bc))))))] ++ va_pl LP (fe v)) := (hD.part (cx := [(g, .inr (iX2, [.int (nI n), .ref xa, .ref xt, .ref xm, .ref wh, .ref st, .ref xb, .ref xc])), (xa, .inl (cI, 12, .inl (ax))), (xt, .inl (cI, 12, .inl (te))), (xm, .inl (cI, 12, .inl (me))), (xb, .inl (cF, 7, .inr (.inr (.inr (.inr (bc))))))]) [1, 2, 3, 4, 5] (by decide) rfl).weaken (fun _ _ _ _ => trivial)
    have hFc := va_freeP (cx := [(g, .inr (iX2, [.int (nI n), .ref xa, .ref xt, .ref xm, .ref wh, .ref st, .ref xb, .ref xc])), (xa, .inl (cI, 12, .inl (ax))), (xt, .inl (cI, 12, .inl (te))), (xm, .inl (cI, 12, .inl (me))), (xb, .inl (cF, 7, .inr (.inr (.inr (.inr (bc))))))]) hD hS hA [1, 2, 3, 4, 5] rfl
    refine va_callv (va_runV (As := [.int i, .int j]) (rest := []) ⟨hx, hb, hml, hown, hts⟩ (c_X2_separate l dC dI cI cF tr (H).size g n xa xt xm wh st xb xc ax te me bc LP v i j (by assumption) (by assumption) (by assumption)) (cwV 2 hts gX5_part_X2_separate rfl rfl rfl (by decide +kernel) ⟨Nat.le_of_ble_eq_true rfl, Nat.le_of_ble_eq_true rfl⟩) ⟨cDbl, (va_recv hK hPc (ci := iX2) (q0 := 0) rfl rfl), (cDpre hPc hK hN hDc)⟩ rfl rfl hl.1 rfl (lv_room (Nat.le_of_ble_eq_true rfl)) dX5_part_30 ⟨(Nat.le_of_ble_eq_true rfl), (Nat.le_of_ble_eq_true rfl)⟩) hS (fun q _ h => hFc q h) hFc (fun u t H1 locs ht hvm hw_r_7 hB hz1 hk1 hS => ?_)
    refine W.widen (k := 1010) (n := 2028) (by omega) (by omega) ?_
    obtain ⟨hP1, hD1⟩ := hB
    rw [ht] at hP1
    obtain ⟨b1_8, LP1_9, v1_10⟩ := u
    obtain ⟨hP, hD⟩ := va_joinP (wr := [(o, .inr (iX5, [.ref g, .ref ce, .ref lu, .ref cl, .ref se, .int tu, .int ja, .int re]))]) (rx := [(g, .inr (iX2, [.int (nI n), .ref xa, .ref xt, .ref xm, .ref wh, .ref st, .ref xb, .ref xc])), (xa, .inl (cI, 12, .inl (ax))), (xt, .inl (cI, 12, .inl (te))), (xm, .inl (cI, 12, .inl (seF me i j))), (xb, .inl (cF, 7, .inr (.inr (.inr (.inr (b1_8))))))]) (pl1 := va_pl LP1_9 (fe v1_10)) hP hD [1, 2, 3, 4, 5] [0] rfl rfl (by decide) (by decide) hk1 hFc hP1 hD1
    have hD := hD.part (cx := [(o, .inr (iX5, [.ref g, .ref ce, .ref lu, .ref cl, .ref se, .int tu, .int ja, .int re])), (g, .inr (iX2, [.int (nI n), .ref xa, .ref xt, .ref xm, .ref wh, .ref st, .ref xb, .ref xc])), (xa, .inl (cI, 12, .inl (ax))), (xt, .inl (cI, 12, .inl (te))), (xm, .inl (cI, 12, .inl (seF me i j))), (xb, .inl (cF, 7, .inr (.inr (.inr (.inr (b1_8))))))]) [0, 1, 2, 3, 4, 5] (by decide) rfl
    have hP : va_P (dC, dI) vwCl ([(o, .inr (iX5, [.ref g, .ref ce, .ref lu, .ref cl, .ref se, .int tu, .int ja, .int re])), (g, .inr (iX2, [.int (nI n), .ref xa, .ref xt, .ref xm, .ref wh, .ref st, .ref xb, .ref xc])), (xa, .inl (cI, 12, .inl (ax))), (xt, .inl (cI, 12, .inl (te))), (xm, .inl (cI, 12, .inl (seF me i j))), (xb, .inl (cF, 7, .inr (.inr (.inr (.inr (b1_8))))))] ++ va_pl LP1_9 (fe v1_10)) H1 := hP.part [0, 1, 2, 3, 4, 5] rfl
    generalize H1 = H at hP hS ⊢
    have hP : va_P (dC, dI) vwCl ([(o, .inr (iX5, [.ref g, .ref ce, .ref lu, .ref cl, .ref se, .int tu, .int ja, .int re])), (g, .inr (iX2, [.int (nI n), .ref xa, .ref xt, .ref xm, .ref wh, .ref st, .ref xb, .ref xc])), (xa, .inl (cI, 12, .inl (ax))), (xt, .inl (cI, 12, .inl (te))), (xm, .inl (cI, 12, .inl (seF me i j))), (xb, .inl (cF, 7, .inr (.inr (.inr (.inr (b1_8))))))] ++ va_pl LP1_9 (fe v1_10)) H := hP
    have hD : va_D A ([(o, .inr (iX5, [.ref g, .ref ce, .ref lu, .ref cl, .ref se, .int tu, .int ja, .int re])), (g, .inr (iX2, [.int (nI n), .ref xa, .ref xt, .ref xm, .ref wh, .ref st, .ref xb, .ref xc])), (xa, .inl (cI, 12, .inl (ax))), (xt, .inl (cI, 12, .inl (te))), (xm, .inl (cI, 12, .inl (seF me i j))), (xb, .inl (cF, 7, .inr (.inr (.inr (.inr (b1_8))))))] ++ va_pl LP1_9 (fe v1_10)) := hD
    try dsimp only at hw_r_7
    obtain ⟨hq1, hq2, hq3⟩ := hw_r_7
    refine lv_iload_n hx hb dX5_part_33 rfl (lv_at hl 0 rfl) ?_
    refine W.widen (k := 1010) (n := 2028) (by omega) (by omega) ?_
    refine vx_ret ?_
    exact W.zret (v := isInF (atF 12 me i) j) hx hb hr (isInF_01 _ _) (fun t ht hW => ⟨⟨isInF (atF 12 me i) j, (seF me i j, b1_8, LP1_9, v1_10), rfl, ⟨by simp [hn_2, hn_4, c_6], rfl, by simp [c_6], hq1, hq2, by rw [if_neg c_6]; exact hq3⟩, by rw [ht]; exact hP, hAe ▸ hD⟩, hS.F ht⟩) hS.2.2 dX5_part_34

set_option maxHeartbeats 4000000 in
set_option maxRecDepth 100000 in
theorem c_X5_mesh (l : Launch) (dC : Nat → ClassId) (dI : Nat → Nat → Nat) (cI cF : ClassId) (tr : List (ClassId × FieldType)) (sz : Nat) (hfl : l.stackTraces = false) (o : Nat) (ce : Nat) (lu : Nat) (cl : Nat) (se : Nat) (tu : Int32) (ja : Int32) (re : Int32) (g : Nat) (n : Nat) (xa : Nat) (xt : Nat) (xm : Nat) (wh : Nat) (st : Nat) (xb : Nat) (xc : Nat) (ax : Nat → Int32) (te : Nat → Int32) (me : Nat → Int32) (bc : Nat → Option Nat) (ba : Nat → Option Nat) (LP : List Nat) (v : Nat → Int64 × Int64) (i : Int32) (j : Int32) (hbk : bOK LP bc) (hba : bOK LP ba) (hn : n ≤ 12) (hwh : wh ∈ LP) : vx_Met l yX5_mesh wsX5_mesh ({ frames := 8, cells := 2020, slots := 4052, locals := 154 } : Room) (cXd dC dI ((cI, .int) :: (cF, .object RX1) :: tr) sz ([(o, .inr (iX5, [.ref g, .ref ce, .ref lu, .ref cl, .ref se, .int tu, .int ja, .int re])), (g, .inr (iX2, [.int (nI n), .ref xa, .ref xt, .ref xm, .ref wh, .ref st, .ref xb, .ref xc])), (xa, .inl (cI, 12, .inl (ax))), (xt, .inl (cI, 12, .inl (te))), (xm, .inl (cI, 12, .inl (me))), (xb, .inl (cF, 7, .inr (.inr (.inr (.inr (bc)))))), (xc, .inl (cF, 7, .inr (.inr (.inr (.inr (ba))))))] ++ va_pl LP (fe v)) (va_A ([(o, .inr (iX5, [.ref g, .ref ce, .ref lu, .ref cl, .ref se, .int tu, .int ja, .int re])), (g, .inr (iX2, [.int (nI n), .ref xa, .ref xt, .ref xm, .ref wh, .ref st, .ref xb, .ref xc])), (xa, .inl (cI, 12, .inl (ax))), (xt, .inl (cI, 12, .inl (te))), (xm, .inl (cI, 12, .inl (me))), (xb, .inl (cF, 7, .inr (.inr (.inr (.inr (bc)))))), (xc, .inl (cF, 7, .inr (.inr (.inr (.inr (ba))))))] ++ va_pl LP (fe v)) sz) [.ref o, .int i, .int j]) (va_Qi (fun (r : Int32) (u : Int32 × (Nat → Int32) × (Nat → Option Nat) × (Nat → Option Nat) × List Nat × (Nat → Int64 × Int64)) => (if withinF i 0 (nI n - 1) = 0 then some xI else if withinF j 0 (nI n - 1) = 0 then some xI else if atF 12 ax i = atF 12 ax j then some xA else none) = none ∧ r = (if wjF ax te me n (v wh) i j = 0 then 1 else 0) ∧ u.1 = (if wjF ax te me n (v wh) i j = 0 then ja else ja + 1) ∧ u.2.1 = (if wjF ax te me n (v wh) i j = 0 then jnF me i j else me) ∧ bOK u.2.2.2.2.1 u.2.2.1 ∧ bOK u.2.2.2.2.1 u.2.2.2.1 ∧ keepL LP u.2.2.2.2.1 v u.2.2.2.2.2 ∧ abR u.2.2.1 u.2.2.2.2.2 = (if wjF ax te me n (v wh) i j = 0 then sprF ax te (jnF me i j) n 0 (v wh) else abR bc v)) (fun ⟨ja1, me1, b1, b2, LP1, v1⟩ t => va_P (dC, dI) vwCl ([(o, .inr (iX5, [.ref g, .ref ce, .ref lu, .ref cl, .ref se, .int tu, .int ja1, .int re])), (g, .inr (iX2, [.int (nI n), .ref xa, .ref xt, .ref xm, .ref wh, .ref st, .ref xb, .ref xc])), (xa, .inl (cI, 12, .inl (ax))), (xt, .inl (cI, 12, .inl (te))), (xm, .inl (cI, 12, .inl (me1))), (xb, .inl (cF, 7, .inr (.inr (.inr (.inr (b1)))))), (xc, .inl (cF, 7, .inr (.inr (.inr (.inr (b2))))))] ++ va_pl LP1 (fe v1)) t.heap ∧ va_D (va_A ([(o, .inr (iX5, [.ref g, .ref ce, .ref lu, .ref cl, .ref se, .int tu, .int ja, .int re])), (g, .inr (iX2, [.int (nI n), .ref xa, .ref xt, .ref xm, .ref wh, .ref st, .ref xb, .ref xc])), (xa, .inl (cI, 12, .inl (ax))), (xt, .inl (cI, 12, .inl (te))), (xm, .inl (cI, 12, .inl (me))), (xb, .inl (cF, 7, .inr (.inr (.inr (.inr (bc)))))), (xc, .inl (cF, 7, .inr (.inr (.inr (.inr (ba))))))] ++ va_pl LP (fe v)) sz) ([(o, .inr (iX5, [.ref g, .ref ce, .ref lu, .ref cl, .ref se, .int tu, .int ja1, .int re])), (g, .inr (iX2, [.int (nI n), .ref xa, .ref xt, .ref xm, .ref wh, .ref st, .ref xb, .ref xc])), (xa, .inl (cI, 12, .inl (ax))), (xt, .inl (cI, 12, .inl (te))), (xm, .inl (cI, 12, .inl (me1))), (xb, .inl (cF, 7, .inr (.inr (.inr (.inr (b1)))))), (xc, .inl (cF, 7, .inr (.inr (.inr (.inr (b2))))))] ++ va_pl LP1 (fe v1))) (va_A ([(o, .inr (iX5, [.ref g, .ref ce, .ref lu, .ref cl, .ref se, .int tu, .int ja, .int re])), (g, .inr (iX2, [.int (nI n), .ref xa, .ref xt, .ref xm, .ref wh, .ref st, .ref xb, .ref xc])), (xa, .inl (cI, 12, .inl (ax))), (xt, .inl (cI, 12, .inl (te))), (xm, .inl (cI, 12, .inl (me))), (xb, .inl (cF, 7, .inr (.inr (.inr (.inr (bc)))))), (xc, .inl (cF, 7, .inr (.inr (.inr (.inr (ba))))))] ++ va_pl LP (fe v)) sz)) (vx_X (fun _ : Unit => True) (fun E _ t => (if withinF i 0 (nI n - 1) = 0 then some xI else if withinF j 0 (nI n - 1) = 0 then some xI else if atF 12 ax i = atF 12 ax j then some xA else none) = some E ∧ va_P (dC, dI) vwCl ([(o, .inr (iX5, [.ref g, .ref ce, .ref lu, .ref cl, .ref se, .int tu, .int ja, .int re])), (g, .inr (iX2, [.int (nI n), .ref xa, .ref xt, .ref xm, .ref wh, .ref st, .ref xb, .ref xc])), (xa, .inl (cI, 12, .inl (ax))), (xt, .inl (cI, 12, .inl (te))), (xm, .inl (cI, 12, .inl (me))), (xb, .inl (cF, 7, .inr (.inr (.inr (.inr (bc)))))), (xc, .inl (cF, 7, .inr (.inr (.inr (.inr (ba))))))] ++ va_pl LP (fe v)) t.heap ∧ va_D (va_A ([(o, .inr (iX5, [.ref g, .ref ce, .ref lu, .ref cl, .ref se, .int tu, .int ja, .int re])), (g, .inr (iX2, [.int (nI n), .ref xa, .ref xt, .ref xm, .ref wh, .ref st, .ref xb, .ref xc])), (xa, .inl (cI, 12, .inl (ax))), (xt, .inl (cI, 12, .inl (te))), (xm, .inl (cI, 12, .inl (me))), (xb, .inl (cF, 7, .inr (.inr (.inr (.inr (bc)))))), (xc, .inl (cF, 7, .inr (.inr (.inr (.inr (ba))))))] ++ va_pl LP (fe v)) sz) ([(o, .inr (iX5, [.ref g, .ref ce, .ref lu, .ref cl, .ref se, .int tu, .int ja, .int re])), (g, .inr (iX2, [.int (nI n), .ref xa, .ref xt, .ref xm, .ref wh, .ref st, .ref xb, .ref xc])), (xa, .inl (cI, 12, .inl (ax))), (xt, .inl (cI, 12, .inl (te))), (xm, .inl (cI, 12, .inl (me))), (xb, .inl (cF, 7, .inr (.inr (.inr (.inr (bc)))))), (xc, .inl (cF, 7, .inr (.inr (.inr (.inr (ba))))))] ++ va_pl LP (fe v))) (va_A ([(o, .inr (iX5, [.ref g, .ref ce, .ref lu, .ref cl, .ref se, .int tu, .int ja, .int re])), (g, .inr (iX2, [.int (nI n), .ref xa, .ref xt, .ref xm, .ref wh, .ref st, .ref xb, .ref xc])), (xa, .inl (cI, 12, .inl (ax))), (xt, .inl (cI, 12, .inl (te))), (xm, .inl (cI, 12, .inl (me))), (xb, .inl (cF, 7, .inr (.inr (.inr (.inr (bc)))))), (xc, .inl (cF, 7, .inr (.inr (.inr (.inr (ba))))))] ++ va_pl LP (fe v)) sz)) 2020 4052 (va_A ([(o, .inr (iX5, [.ref g, .ref ce, .ref lu, .ref cl, .ref se, .int tu, .int ja, .int re])), (g, .inr (iX2, [.int (nI n), .ref xa, .ref xt, .ref xm, .ref wh, .ref st, .ref xb, .ref xc])), (xa, .inl (cI, 12, .inl (ax))), (xt, .inl (cI, 12, .inl (te))), (xm, .inl (cI, 12, .inl (me))), (xb, .inl (cF, 7, .inr (.inr (.inr (.inr (bc)))))), (xc, .inl (cF, 7, .inr (.inr (.inr (.inr (ba))))))] ++ va_pl LP (fe v)) sz) := by
  refine vx_ofW (cc := cX5_mesh) (maxL := 3) (ret := (some .boolean)) (by decide) rfl ?_
  intro p e s m args below meth c s₁ B hml hET hv
  obtain ⟨rfl, hsz, hP, hK, hN, hXE0, hD0⟩ := hv
  have hx := B.exec
  have hb := B.bytes
  have hr := B.returns
  have hts := atoms_spec (ws := wsX5_mesh) B.pre
  have hown : s.vm.findClass RX5 = some m.cls := findClass_of_methodNamed B.named
  have hlocks := B.notSynchronized
  subst hsz
  have hD := hD0.self (sz := s.heap.size)
  generalize hAe : va_A ([(o, .inr (iX5, [.ref g, .ref ce, .ref lu, .ref cl, .ref se, .int tu, .int ja, .int re])), (g, .inr (iX2, [.int (nI n), .ref xa, .ref xt, .ref xm, .ref wh, .ref st, .ref xb, .ref xc])), (xa, .inl (cI, 12, .inl (ax))), (xt, .inl (cI, 12, .inl (te))), (xm, .inl (cI, 12, .inl (me))), (xb, .inl (cF, 7, .inr (.inr (.inr (.inr (bc)))))), (xc, .inl (cF, 7, .inr (.inr (.inr (.inr (ba))))))] ++ va_pl LP (fe v)) s.heap.size = A at hD hXE0 ⊢
  have hA : ∀ q : Nat, s.heap.size ≤ q → A q := fun q h => by rw [← hAe]; exact Or.inr h
  have hS : va_S A s.heap s.heap [] := va_S.rf
  have hP : va_P (dC, dI) vwCl ([(o, .inr (iX5, [.ref g, .ref ce, .ref lu, .ref cl, .ref se, .int tu, .int ja, .int re])), (g, .inr (iX2, [.int (nI n), .ref xa, .ref xt, .ref xm, .ref wh, .ref st, .ref xb, .ref xc])), (xa, .inl (cI, 12, .inl (ax))), (xt, .inl (cI, 12, .inl (te))), (xm, .inl (cI, 12, .inl (me))), (xb, .inl (cF, 7, .inr (.inr (.inr (.inr (bc)))))), (xc, .inl (cF, 7, .inr (.inr (.inr (.inr (ba))))))] ++ va_pl LP (fe v)) s.heap := hP
  have hl := lv_entry ([.ref o, .int i, .int j]) (n := 3) (Nat.le_of_ble_eq_true rfl)
  rw [lg_entry_eq]
  generalize (lg_sl ([.ref o, .int i, .int j]) ++ List.replicate (3 - (lg_sl ([.ref o, .int i, .int j])).length) Slot.unset).toArray = ls at hl ⊢
  have hl : lv_has ls 3 [(0, .ref o), (1, .int i), (2, .int j)] := hl
  have hfl_10 := hts (.fieldLink RX5 10 "Greenwheels" "gearing" "LGreenwheels$Gearing;") (by decide +kernel)
  have hin_X5 : ∀ w ∈ u_ws RX5 TX5 8, w ∈ wsX5_mesh := by decide +kernel
  have hfl_74 := hts (.fieldLink RX5 74 "Greenwheels" "jams" "I") (by decide +kernel)
  refine lv_aload_n hx hb dX5_mesh_0 rfl (lv_at hl 0 rfl) ?_
  refine lv_iload_n hx hb dX5_mesh_1 rfl (lv_at hl 1 rfl) ?_
  have hPc : va_P (dC, dI) vwCl ([(o, .inr (iX5, [.ref g, .ref ce, .ref lu, .ref cl, .ref se, .int tu, .int ja, .int re])), (g, .inr (iX2, [.int (nI n), .ref xa, .ref xt, .ref xm, .ref wh, .ref st, .ref xb, .ref xc]))]) _ := hP.sub [0, 1] rfl
  have hFc := frZ hS hA
  refine vx_callv (vx_runV (As := [.int i]) (rest := []) ⟨hx, hb, hml, hown, hts⟩ (c_X5_demandWheel l dC dI cI cF tr (s.heap).size hfl o ce lu cl se tu ja re g n xa xt xm wh st xb xc i) (cwV 1 hts gX5_mesh_X5_demandWheel rfl rfl rfl (by decide +kernel) ⟨Nat.le_of_ble_eq_true rfl, Nat.le_of_ble_eq_true rfl⟩) ⟨cXbl, (va_recv hK hPc (ci := iX5) (q0 := 0) rfl rfl), (cXpre hPc hK hN (hXE0.kept hS) hFc)⟩ rfl rfl hl.1 rfl (lv_room (Nat.le_of_ble_eq_true rfl)) dX5_mesh_2 ⟨(Nat.le_of_ble_eq_true rfl), (Nat.le_of_ble_eq_true rfl)⟩) hS (fun q _ h => hFc q h) hFc (fun q _ h => hFc q h) (fun E9 ce9 q9 u9 t9 H9 locs9 ht9 hvm9 hpx9 hBX9 hz9 hk9 hS9 hce9 hcv9 hcl9 => ?_) (fun u t H1 locs ht hvm hw_r_1 hB hz1 hk1 hS => ?_)
  · obtain ⟨hp9, rfl⟩ := exSome hBX9
    have hP := keepP hP hk9
    exact vx_out (fun x hx9 => (hET x hx9).elim) hlocks hce9 hcv9 hcl9 (fun t ht hvm => ⟨(), trivial, ⟨(by first | (simp [hp9]; done) | exact absurd hp9 (by decide)), by rw [ht]; exact hP, hAe ▸ hD⟩, hS9.F (ht.trans rfl)⟩) hS9.2.2 (by omega) (by omega)
  refine W.widen (k := 1) (n := 6) (by omega) (by omega) ?_
  have hP := keepP hP hk1
  generalize H1 = H at hP hS ⊢
  have hP : va_P (dC, dI) vwCl ([(o, .inr (iX5, [.ref g, .ref ce, .ref lu, .ref cl, .ref se, .int tu, .int ja, .int re])), (g, .inr (iX2, [.int (nI n), .ref xa, .ref xt, .ref xm, .ref wh, .ref st, .ref xb, .ref xc])), (xa, .inl (cI, 12, .inl (ax))), (xt, .inl (cI, 12, .inl (te))), (xm, .inl (cI, 12, .inl (me))), (xb, .inl (cF, 7, .inr (.inr (.inr (.inr (bc)))))), (xc, .inl (cF, 7, .inr (.inr (.inr (.inr (ba))))))] ++ va_pl LP (fe v)) H := hP
  try dsimp only at hw_r_1
  have hn_2 := hw_r_1
  have hn_2 := exNone hn_2
  refine lv_aload_n hx hb dX5_mesh_5 rfl (lv_at hl 0 rfl) ?_
  refine lv_iload_n hx hb dX5_mesh_6 rfl (lv_at hl 2 rfl) ?_
  have hPc : va_P (dC, dI) vwCl ([(o, .inr (iX5, [.ref g, .ref ce, .ref lu, .ref cl, .ref se, .int tu, .int ja, .int re])), (g, .inr (iX2, [.int (nI n), .ref xa, .ref xt, .ref xm, .ref wh, .ref st, .ref xb, .ref xc]))]) _ := hP.sub [0, 1] rfl
  have hFc := frZ hS hA
  refine vx_callv (vx_runV (As := [.int j]) (rest := []) ⟨hx, hb, hml, hown, hts⟩ (c_X5_demandWheel l dC dI cI cF tr (H).size hfl o ce lu cl se tu ja re g n xa xt xm wh st xb xc j) (cwV 1 hts gX5_mesh_X5_demandWheel rfl rfl rfl (by decide +kernel) ⟨Nat.le_of_ble_eq_true rfl, Nat.le_of_ble_eq_true rfl⟩) ⟨cXbl, (va_recv hK hPc (ci := iX5) (q0 := 0) rfl rfl), (cXpre hPc hK hN (hXE0.kept hS) hFc)⟩ rfl rfl hl.1 rfl (lv_room (Nat.le_of_ble_eq_true rfl)) dX5_mesh_7 ⟨(Nat.le_of_ble_eq_true rfl), (Nat.le_of_ble_eq_true rfl)⟩) hS (fun q _ h => hFc q h) hFc (fun q _ h => hFc q h) (fun E9 ce9 q9 u9 t9 H9 locs9 ht9 hvm9 hpx9 hBX9 hz9 hk9 hS9 hce9 hcv9 hcl9 => ?_) (fun u t H1 locs ht hvm hw_r_3 hB hz1 hk1 hS => ?_)
  · obtain ⟨hp9, rfl⟩ := exSome hBX9
    have hP := keepP hP hk9
    exact vx_out (fun x hx9 => (hET x hx9).elim) hlocks hce9 hcv9 hcl9 (fun t ht hvm => ⟨(), trivial, ⟨(by first | (simp [hn_2, hp9]; done) | exact absurd hp9 (by decide)), by rw [ht]; exact hP, hAe ▸ hD⟩, hS9.F (ht.trans rfl)⟩) hS9.2.2 (by omega) (by omega)
  refine W.widen (k := 2) (n := 12) (by omega) (by omega) ?_
  have hP := keepP hP hk1
  generalize H1 = H at hP hS ⊢
  have hP : va_P (dC, dI) vwCl ([(o, .inr (iX5, [.ref g, .ref ce, .ref lu, .ref cl, .ref se, .int tu, .int ja, .int re])), (g, .inr (iX2, [.int (nI n), .ref xa, .ref xt, .ref xm, .ref wh, .ref st, .ref xb, .ref xc])), (xa, .inl (cI, 12, .inl (ax))), (xt, .inl (cI, 12, .inl (te))), (xm, .inl (cI, 12, .inl (me))), (xb, .inl (cF, 7, .inr (.inr (.inr (.inr (bc)))))), (xc, .inl (cF, 7, .inr (.inr (.inr (.inr (ba))))))] ++ va_pl LP (fe v)) H := hP
  try dsimp only at hw_r_3
  have hn_4 := hw_r_3
  have hn_4 := exNone hn_4
  refine lv_aload_n hx hb dX5_mesh_10 rfl (lv_at hl 0 rfl) ?_
  refine va_get (D := (dC, dI)) (ci := iX5) (v := .ref g) (C := RX5) (T := TX5) (N := 8) hx hb hts hin_X5 hown hK hP 0 rfl rfl 0 (by decide) hfl_10 (fun _ h9 => h9) rfl dX5_mesh_11 ?_
  refine lv_iload_n hx hb dX5_mesh_14 rfl (lv_at hl 1 rfl) ?_
  refine lv_iload_n hx hb dX5_mesh_15 rfl (lv_at hl 2 rfl) ?_
  have hPc : va_P (dC, dI) vwCl ([(g, .inr (iX2, [.int (nI n), .ref xa, .ref xt, .ref xm, .ref wh, .ref st, .ref xb, .ref xc])), (xa, .inl (cI, 12, .inl (ax)))]) _ := hP.sub [1, 2] rfl
  have hFc := frZ hS hA
  refine va_calli (va_runV (As := [.int i, .int j]) (rest := []) ⟨hx, hb, hml, hown, hts⟩ (c_X2_areOnOneAxle l dC dI cI cF tr (H).size g n xa xt xm wh st xb xc ax i j) (cwV 2 hts gX5_mesh_X2_areOnOneAxle rfl rfl rfl (by decide +kernel) ⟨Nat.le_of_ble_eq_true rfl, Nat.le_of_ble_eq_true rfl⟩) ⟨cBl, (va_recv hK hPc (ci := iX2) (q0 := 0) rfl rfl), (cPre hPc hK hN)⟩ rfl rfl hl.1 rfl (lv_room (Nat.le_of_ble_eq_true rfl)) dX5_mesh_16 ⟨(Nat.le_of_ble_eq_true rfl), (Nat.le_of_ble_eq_true rfl)⟩) hS (fun q _ h => hFc q h) hFc (fun r_5 u t H1 locs ht hvm hw_r_5 hB hz1 hk1 hS => ?_)
  refine W.widen (k := 2) (n := 12) (Nat.le_refl _) (Nat.le_refl _) ?_
  have hP := keepP hP hk1
  generalize H1 = H at hP hS ⊢
  have hP : va_P (dC, dI) vwCl ([(o, .inr (iX5, [.ref g, .ref ce, .ref lu, .ref cl, .ref se, .int tu, .int ja, .int re])), (g, .inr (iX2, [.int (nI n), .ref xa, .ref xt, .ref xm, .ref wh, .ref st, .ref xb, .ref xc])), (xa, .inl (cI, 12, .inl (ax))), (xt, .inl (cI, 12, .inl (te))), (xm, .inl (cI, 12, .inl (me))), (xb, .inl (cF, 7, .inr (.inr (.inr (.inr (bc)))))), (xc, .inl (cF, 7, .inr (.inr (.inr (.inr (ba))))))] ++ va_pl LP (fe v)) H := hP
  try dsimp only at hw_r_5
  subst hw_r_5
  refine lv_if_ne (tgt := 26) hx hb dX5_mesh_19 (by decide) (fun c_6 => ?_) (fun c_6 => ?_)
  · replace c_6 := ifNe c_6
    refine lv_iconst (v := 0) hx hb dX5_mesh_26 (by decide) ?_
    have hPc : va_P (dC, dI) vwCl [] H := nilP
    have hFc := frZ hS hA
    refine vx_callv (vx_runS (As := [.int 0]) (rest := []) ⟨hx, hb, hml, hown, hts⟩ (c_X5_demandArgument l dC dI cI cF tr (H).size hfl 0) (va_cwS 1 hts gX5_mesh_X5_demandArgument rfl rfl rfl (by decide +kernel) ⟨Nat.le_of_ble_eq_true rfl, Nat.le_of_ble_eq_true rfl⟩) ⟨cXbl, (cXpre hPc hK hN (hXE0.kept hS) hFc)⟩ rfl rfl hl.1 rfl (lv_room (Nat.le_of_ble_eq_true rfl)) dX5_mesh_27 ⟨(Nat.le_of_ble_eq_true rfl), (Nat.le_of_ble_eq_true rfl)⟩) hS (fun q _ h => hFc q h) hFc (fun q _ h => hFc q h) (fun E9 ce9 q9 u9 t9 H9 locs9 ht9 hvm9 hpx9 hBX9 hz9 hk9 hS9 hce9 hcv9 hcl9 => ?_) (fun u t H1 locs ht hvm hw_r_7 hB hz1 hk1 hS => ?_)
    · obtain ⟨hp9, rfl⟩ := exSome hBX9
      have hP := keepP hP hk9
      exact vx_out (fun x hx9 => (hET x hx9).elim) hlocks hce9 hcv9 hcl9 (fun t ht hvm => ⟨(), trivial, ⟨(by first | (simp [hn_2, hn_4, c_6, hp9]; done) | exact absurd hp9 (by decide)), by rw [ht]; exact hP, hAe ▸ hD⟩, hS9.F (ht.trans rfl)⟩) hS9.2.2 (by omega) (by omega)
    refine W.widen (k := 3) (n := 18) (by omega) (by omega) ?_
    have hP := keepP hP hk1
    generalize H1 = H at hP hS ⊢
    have hP : va_P (dC, dI) vwCl ([(o, .inr (iX5, [.ref g, .ref ce, .ref lu, .ref cl, .ref se, .int tu, .int ja, .int re])), (g, .inr (iX2, [.int (nI n), .ref xa, .ref xt, .ref xm, .ref wh, .ref st, .ref xb, .ref xc])), (xa, .inl (cI, 12, .inl (ax))), (xt, .inl (cI, 12, .inl (te))), (xm, .inl (cI, 12, .inl (me))), (xb, .inl (cF, 7, .inr (.inr (.inr (.inr (bc)))))), (xc, .inl (cF, 7, .inr (.inr (.inr (.inr (ba))))))] ++ va_pl LP (fe v)) H := hP
    try dsimp only at hw_r_7
    have hn_8 := hw_r_7
    have hn_8 := exNone hn_8
    exact absurd rfl hn_8
  · replace c_6 := ifEq c_6
    refine lv_iconst (v := 1) hx hb dX5_mesh_22 (by decide) ?_
    refine lv_goto (tgt := 27) hx hb dX5_mesh_23 (by decide) ?_
    have hPc : va_P (dC, dI) vwCl [] H := nilP
    have hFc := frZ hS hA
    refine vx_callv (vx_runS (As := [.int 1]) (rest := []) ⟨hx, hb, hml, hown, hts⟩ (c_X5_demandArgument l dC dI cI cF tr (H).size hfl 1) (va_cwS 1 hts gX5_mesh_X5_demandArgument rfl rfl rfl (by decide +kernel) ⟨Nat.le_of_ble_eq_true rfl, Nat.le_of_ble_eq_true rfl⟩) ⟨cXbl, (cXpre hPc hK hN (hXE0.kept hS) hFc)⟩ rfl rfl hl.1 rfl (lv_room (Nat.le_of_ble_eq_true rfl)) dX5_mesh_27 ⟨(Nat.le_of_ble_eq_true rfl), (Nat.le_of_ble_eq_true rfl)⟩) hS (fun q _ h => hFc q h) hFc (fun q _ h => hFc q h) (fun E9 ce9 q9 u9 t9 H9 locs9 ht9 hvm9 hpx9 hBX9 hz9 hk9 hS9 hce9 hcv9 hcl9 => ?_) (fun u t H1 locs ht hvm hw_r_9 hB hz1 hk1 hS => ?_)
    · obtain ⟨hp9, rfl⟩ := exSome hBX9
      have hP := keepP hP hk9
      exact vx_out (fun x hx9 => (hET x hx9).elim) hlocks hce9 hcv9 hcl9 (fun t ht hvm => ⟨(), trivial, ⟨(by first | (simp [hn_2, hn_4, c_6, hp9]; done) | exact absurd hp9 (by decide)), by rw [ht]; exact hP, hAe ▸ hD⟩, hS9.F (ht.trans rfl)⟩) hS9.2.2 (by omega) (by omega)
    refine W.widen (k := 3) (n := 18) (by omega) (by omega) ?_
    have hP := keepP hP hk1
    generalize H1 = H at hP hS ⊢
    have hP : va_P (dC, dI) vwCl ([(o, .inr (iX5, [.ref g, .ref ce, .ref lu, .ref cl, .ref se, .int tu, .int ja, .int re])), (g, .inr (iX2, [.int (nI n), .ref xa, .ref xt, .ref xm, .ref wh, .ref st, .ref xb, .ref xc])), (xa, .inl (cI, 12, .inl (ax))), (xt, .inl (cI, 12, .inl (te))), (xm, .inl (cI, 12, .inl (me))), (xb, .inl (cF, 7, .inr (.inr (.inr (.inr (bc)))))), (xc, .inl (cF, 7, .inr (.inr (.inr (.inr (ba))))))] ++ va_pl LP (fe v)) H := hP
    try dsimp only at hw_r_9
    have hn_10 := hw_r_9
    have hn_10 := exNone hn_10
    refine lv_aload_n hx hb dX5_mesh_30 rfl (lv_at hl 0 rfl) ?_
    refine va_get (D := (dC, dI)) (ci := iX5) (v := .ref g) (C := RX5) (T := TX5) (N := 8) hx hb hts hin_X5 hown hK hP 0 rfl rfl 0 (by decide) hfl_10 (fun _ h9 => h9) rfl dX5_mesh_31 ?_
    refine lv_iload_n hx hb dX5_mesh_34 rfl (lv_at hl 1 rfl) ?_
    refine lv_iload_n hx hb dX5_mesh_35 rfl (lv_at hl 2 rfl) ?_
    have hPc : va_P (dC, dI) vwCl ([(g, .inr (iX2, [.int (nI n), .ref xa, .ref xt, .ref xm, .ref wh, .ref st, .ref xb, .ref xc])), (xa, .inl (cI, 12, .inl (ax))), (xt, .inl (cI, 12, .inl (te))), (xm, .inl (cI, 12, .inl (me))), (xc, .inl (cF, 7, .inr (.inr (.inr (.inr (ba))))))] ++ va_pl LP (fe v)) _ := hP.part [1, 2, 3, 4, 6] rfl
    have hDc : va_D (fun _ => True) ([(g, .inr (iX2, [.int (nI n), .ref xa, .ref xt, .ref xm, .ref wh, .ref st, .ref xb, .ref xc])), (xa, .inl (cI, 12, .inl (ax))), (xt, .inl (cI, 12, .inl (te))), (xm, .inl (cI, 12, .inl (me))), (xc, .inl (cF, 7, .inr (.inr (.inr (.inr (ba))))))] ++ va_pl LP (fe v)) := (hD.part (cx := [(g, .inr (iX2, [.int (nI n), .ref xa, .ref xt, .ref xm, .ref wh, .ref st, .ref xb, .ref xc])), (xa, .inl (cI, 12, .inl (ax))), (xt, .inl (cI, 12, .inl (te))), (xm, .inl (cI, 12, .inl (me))), (xc, .inl (cF, 7, .inr (.inr (.inr (.inr (ba))))))]) [1, 2, 3, 4, 6] (by decide) rfl).weaken (fun _ _ _ _ => trivial)
    have hFc := va_freeP (cx := [(g, .inr (iX2, [.int (nI n), .ref xa, .ref xt, .ref xm, .ref wh, .ref st, .ref xb, .ref xc])), (xa, .inl (cI, 12, .inl (ax))), (xt, .inl (cI, 12, .inl (te))), (xm, .inl (cI, 12, .inl (me))), (xc, .inl (cF, 7, .inr (.inr (.inr (.inr (ba))))))]) hD hS hA [1, 2, 3, 4, 6] rfl
    refine va_calli (va_runV (As := [.int i, .int j]) (rest := []) ⟨hx, hb, hml, hown, hts⟩ (c_X2_wouldJam l dC dI cI cF tr (H).size g n xa xt xm wh st xb xc ax te me ba LP v i j hba hn hwh) (cwV 2 hts gX5_mesh_X2_wouldJam rfl rfl rfl (by decide +kernel) ⟨Nat.le_of_ble_eq_true rfl, Nat.le_of_ble_eq_true rfl⟩) ⟨cDbl, (va_recv hK hPc (ci := iX2) (q0 := 0) rfl rfl), (cDpre hPc hK hN hDc)⟩ rfl rfl hl.1 rfl (lv_room (Nat.le_of_ble_eq_true rfl)) dX5_mesh_36 ⟨(Nat.le_of_ble_eq_true rfl), (Nat.le_of_ble_eq_true rfl)⟩) hS (fun q _ h => hFc q h) hFc (fun r_11 u t H1 locs ht hvm hw_r_11 hB hz1 hk1 hS => ?_)
    refine W.widen (k := 1012) (n := 2036) (by omega) (by omega) ?_
    obtain ⟨hP1, hD1⟩ := hB
    rw [ht] at hP1
    obtain ⟨b1_12, LP1_13, v1_14⟩ := u
    obtain ⟨hP, hD⟩ := va_joinP (wr := [(o, .inr (iX5, [.ref g, .ref ce, .ref lu, .ref cl, .ref se, .int tu, .int ja, .int re])), (xb, .inl (cF, 7, .inr (.inr (.inr (.inr (bc))))))]) (rx := [(g, .inr (iX2, [.int (nI n), .ref xa, .ref xt, .ref xm, .ref wh, .ref st, .ref xb, .ref xc])), (xa, .inl (cI, 12, .inl (ax))), (xt, .inl (cI, 12, .inl (te))), (xm, .inl (cI, 12, .inl (me))), (xc, .inl (cF, 7, .inr (.inr (.inr (.inr (b1_12))))))]) (pl1 := va_pl LP1_13 (fe v1_14)) hP hD [1, 2, 3, 4, 6] [0, 5] rfl rfl (by decide) (by decide) hk1 hFc hP1 hD1
    have hD := hD.part (cx := [(o, .inr (iX5, [.ref g, .ref ce, .ref lu, .ref cl, .ref se, .int tu, .int ja, .int re])), (g, .inr (iX2, [.int (nI n), .ref xa, .ref xt, .ref xm, .ref wh, .ref st, .ref xb, .ref xc])), (xa, .inl (cI, 12, .inl (ax))), (xt, .inl (cI, 12, .inl (te))), (xm, .inl (cI, 12, .inl (me))), (xb, .inl (cF, 7, .inr (.inr (.inr (.inr (bc)))))), (xc, .inl (cF, 7, .inr (.inr (.inr (.inr (b1_12))))))]) [0, 2, 3, 4, 5, 1, 6] (by decide) rfl
    have hP : va_P (dC, dI) vwCl ([(o, .inr (iX5, [.ref g, .ref ce, .ref lu, .ref cl, .ref se, .int tu, .int ja, .int re])), (g, .inr (iX2, [.int (nI n), .ref xa, .ref xt, .ref xm, .ref wh, .ref st, .ref xb, .ref xc])), (xa, .inl (cI, 12, .inl (ax))), (xt, .inl (cI, 12, .inl (te))), (xm, .inl (cI, 12, .inl (me))), (xb, .inl (cF, 7, .inr (.inr (.inr (.inr (bc)))))), (xc, .inl (cF, 7, .inr (.inr (.inr (.inr (b1_12))))))] ++ va_pl LP1_13 (fe v1_14)) H1 := hP.part [0, 2, 3, 4, 5, 1, 6] rfl
    generalize H1 = H at hP hS ⊢
    have hP : va_P (dC, dI) vwCl ([(o, .inr (iX5, [.ref g, .ref ce, .ref lu, .ref cl, .ref se, .int tu, .int ja, .int re])), (g, .inr (iX2, [.int (nI n), .ref xa, .ref xt, .ref xm, .ref wh, .ref st, .ref xb, .ref xc])), (xa, .inl (cI, 12, .inl (ax))), (xt, .inl (cI, 12, .inl (te))), (xm, .inl (cI, 12, .inl (me))), (xb, .inl (cF, 7, .inr (.inr (.inr (.inr (bc)))))), (xc, .inl (cF, 7, .inr (.inr (.inr (.inr (b1_12))))))] ++ va_pl LP1_13 (fe v1_14)) H := hP
    have hD : va_D A ([(o, .inr (iX5, [.ref g, .ref ce, .ref lu, .ref cl, .ref se, .int tu, .int ja, .int re])), (g, .inr (iX2, [.int (nI n), .ref xa, .ref xt, .ref xm, .ref wh, .ref st, .ref xb, .ref xc])), (xa, .inl (cI, 12, .inl (ax))), (xt, .inl (cI, 12, .inl (te))), (xm, .inl (cI, 12, .inl (me))), (xb, .inl (cF, 7, .inr (.inr (.inr (.inr (bc)))))), (xc, .inl (cF, 7, .inr (.inr (.inr (.inr (b1_12))))))] ++ va_pl LP1_13 (fe v1_14)) := hD
    try dsimp only at hw_r_11
    obtain ⟨hj1, hj2, hj3⟩ := hw_r_11
    refine lv_if_eq (tgt := 54) hx hb dX5_mesh_39 (by decide) (fun c_15 => ?_) (fun c_15 => ?_)
    · have hwj : wjF ax te me n (v wh) i j = 0 := by rw [← hj1]; exact c_15
      refine lv_aload_n hx hb dX5_mesh_54 rfl (lv_at hl 0 rfl) ?_
      refine va_get (D := (dC, dI)) (ci := iX5) (v := .ref g) (C := RX5) (T := TX5) (N := 8) hx hb hts hin_X5 hown hK hP 0 rfl rfl 0 (by decide) hfl_10 (fun _ h9 => h9) rfl dX5_mesh_55 ?_
      refine lv_iload_n hx hb dX5_mesh_58 rfl (lv_at hl 1 rfl) ?_
      refine lv_iload_n hx hb dX5_mesh_59 rfl (lv_at hl 2 rfl) ?_
      have hPc : va_P (dC, dI) vwCl ([(g, .inr (iX2, [.int (nI n), .ref xa, .ref xt, .ref xm, .ref wh, .ref st, .ref xb, .ref xc])), (xa, .inl (cI, 12, .inl (ax))), (xt, .inl (cI, 12, .inl (te))), (xm, .inl (cI, 12, .inl (me))), (xb, .inl (cF, 7, .inr (.inr (.inr (.inr (bc))))))] ++ va_pl LP1_13 (fe v1_14)) _ := hP.part [1, 2, 3, 4, 5] rfl
      have hDc : va_D (fun _ => True) ([(g, .inr (iX2, [.int (nI n), .ref xa, .ref xt, .ref xm, .ref wh, .ref st, .ref xb, .ref xc])), (xa, .inl (cI, 12, .inl (ax))), (xt, .inl (cI, 12, .inl (te))), (xm, .inl (cI, 12, .inl (me))), (xb, .inl (cF, 7, .inr (.inr (.inr (.inr (bc))))))] ++ va_pl LP1_13 (fe v1_14)) := (hD.part (cx := [(g, .inr (iX2, [.int (nI n), .ref xa, .ref xt, .ref xm, .ref wh, .ref st, .ref xb, .ref xc])), (xa, .inl (cI, 12, .inl (ax))), (xt, .inl (cI, 12, .inl (te))), (xm, .inl (cI, 12, .inl (me))), (xb, .inl (cF, 7, .inr (.inr (.inr (.inr (bc))))))]) [1, 2, 3, 4, 5] (by decide) rfl).weaken (fun _ _ _ _ => trivial)
      have hFc := va_freeP (cx := [(g, .inr (iX2, [.int (nI n), .ref xa, .ref xt, .ref xm, .ref wh, .ref st, .ref xb, .ref xc])), (xa, .inl (cI, 12, .inl (ax))), (xt, .inl (cI, 12, .inl (te))), (xm, .inl (cI, 12, .inl (me))), (xb, .inl (cF, 7, .inr (.inr (.inr (.inr (bc))))))]) hD hS hA [1, 2, 3, 4, 5] rfl
      refine va_callv (va_runV (As := [.int i, .int j]) (rest := []) ⟨hx, hb, hml, hown, hts⟩ (c_X2_join l dC dI cI cF tr (H).size g n xa xt xm wh st xb xc ax te me bc LP1_13 v1_14 i j (hbk.keep hj3) hn (hj3 _ hwh).1) (cwV 2 hts gX5_mesh_X2_join rfl rfl rfl (by decide +kernel) ⟨Nat.le_of_ble_eq_true rfl, Nat.le_of_ble_eq_true rfl⟩) ⟨cDbl, (va_recv hK hPc (ci := iX2) (q0 := 0) rfl rfl), (cDpre hPc hK hN hDc)⟩ rfl rfl hl.1 rfl (lv_room (Nat.le_of_ble_eq_true rfl)) dX5_mesh_60 ⟨(Nat.le_of_ble_eq_true rfl), (Nat.le_of_ble_eq_true rfl)⟩) hS (fun q _ h => hFc q h) hFc (fun u t H1 locs ht hvm hw_r_16 hB hz1 hk1 hS => ?_)
      refine W.widen (k := 2020) (n := 4052) (by omega) (by omega) ?_
      obtain ⟨hP1, hD1⟩ := hB
      rw [ht] at hP1
      obtain ⟨b1_17, LP1_18, v1_19⟩ := u
      obtain ⟨hP, hD⟩ := va_joinP (wr := [(o, .inr (iX5, [.ref g, .ref ce, .ref lu, .ref cl, .ref se, .int tu, .int ja, .int re])), (xc, .inl (cF, 7, .inr (.inr (.inr (.inr (b1_12))))))]) (rx := [(g, .inr (iX2, [.int (nI n), .ref xa, .ref xt, .ref xm, .ref wh, .ref st, .ref xb, .ref xc])), (xa, .inl (cI, 12, .inl (ax))), (xt, .inl (cI, 12, .inl (te))), (xm, .inl (cI, 12, .inl (jnF me i j))), (xb, .inl (cF, 7, .inr (.inr (.inr (.inr (b1_17))))))]) (pl1 := va_pl LP1_18 (fe v1_19)) hP hD [1, 2, 3, 4, 5] [0, 6] rfl rfl (by decide) (by decide) hk1 hFc hP1 hD1
      have hD := hD.part (cx := [(o, .inr (iX5, [.ref g, .ref ce, .ref lu, .ref cl, .ref se, .int tu, .int ja, .int re])), (g, .inr (iX2, [.int (nI n), .ref xa, .ref xt, .ref xm, .ref wh, .ref st, .ref xb, .ref xc])), (xa, .inl (cI, 12, .inl (ax))), (xt, .inl (cI, 12, .inl (te))), (xm, .inl (cI, 12, .inl (jnF me i j))), (xb, .inl (cF, 7, .inr (.inr (.inr (.inr (b1_17)))))), (xc, .inl (cF, 7, .inr (.inr (.inr (.inr (b1_12))))))]) [0, 2, 3, 4, 5, 6, 1] (by decide) rfl
      have hP : va_P (dC, dI) vwCl ([(o, .inr (iX5, [.ref g, .ref ce, .ref lu, .ref cl, .ref se, .int tu, .int ja, .int re])), (g, .inr (iX2, [.int (nI n), .ref xa, .ref xt, .ref xm, .ref wh, .ref st, .ref xb, .ref xc])), (xa, .inl (cI, 12, .inl (ax))), (xt, .inl (cI, 12, .inl (te))), (xm, .inl (cI, 12, .inl (jnF me i j))), (xb, .inl (cF, 7, .inr (.inr (.inr (.inr (b1_17)))))), (xc, .inl (cF, 7, .inr (.inr (.inr (.inr (b1_12))))))] ++ va_pl LP1_18 (fe v1_19)) H1 := hP.part [0, 2, 3, 4, 5, 6, 1] rfl
      generalize H1 = H at hP hS ⊢
      have hP : va_P (dC, dI) vwCl ([(o, .inr (iX5, [.ref g, .ref ce, .ref lu, .ref cl, .ref se, .int tu, .int ja, .int re])), (g, .inr (iX2, [.int (nI n), .ref xa, .ref xt, .ref xm, .ref wh, .ref st, .ref xb, .ref xc])), (xa, .inl (cI, 12, .inl (ax))), (xt, .inl (cI, 12, .inl (te))), (xm, .inl (cI, 12, .inl (jnF me i j))), (xb, .inl (cF, 7, .inr (.inr (.inr (.inr (b1_17)))))), (xc, .inl (cF, 7, .inr (.inr (.inr (.inr (b1_12))))))] ++ va_pl LP1_18 (fe v1_19)) H := hP
      have hD : va_D A ([(o, .inr (iX5, [.ref g, .ref ce, .ref lu, .ref cl, .ref se, .int tu, .int ja, .int re])), (g, .inr (iX2, [.int (nI n), .ref xa, .ref xt, .ref xm, .ref wh, .ref st, .ref xb, .ref xc])), (xa, .inl (cI, 12, .inl (ax))), (xt, .inl (cI, 12, .inl (te))), (xm, .inl (cI, 12, .inl (jnF me i j))), (xb, .inl (cF, 7, .inr (.inr (.inr (.inr (b1_17)))))), (xc, .inl (cF, 7, .inr (.inr (.inr (.inr (b1_12))))))] ++ va_pl LP1_18 (fe v1_19)) := hD
      try dsimp only at hw_r_16
      obtain ⟨hk1, hk2, hk3⟩ := hw_r_16
      refine lv_iconst (v := 1) hx hb dX5_mesh_63 (by decide) ?_
      refine W.widen (k := 2020) (n := 4052) (by omega) (by omega) ?_
      refine vx_ret ?_
      exact W.zret (v := 1) hx hb hr (by first | rfl | simp [narrow] | assumption) (fun t ht hW => ⟨⟨1, (ja, jnF me i j, b1_17, b1_12, LP1_18, v1_19), rfl, ⟨by simp [hn_2, hn_4, c_6, hn_10], by rw [if_pos hwj], by rw [if_pos hwj], by rw [if_pos hwj], hk1, hj2.keep hk2, hj3.tr hk2, by rw [if_pos hwj]; show abR b1_17 v1_19 = _; rw [hk3, (hj3 _ hwh).2]⟩, by rw [ht]; exact hP, hAe ▸ hD⟩, hS.F ht⟩) hS.2.2 dX5_mesh_64
    · have hwj : ¬ wjF ax te me n (v wh) i j = 0 := by rw [← hj1]; exact c_15
      refine lv_aload_n hx hb dX5_mesh_42 rfl (lv_at hl 0 rfl) ?_
      refine lv_dup hx hb dX5_mesh_43 rfl ?_
      refine va_get (D := (dC, dI)) (ci := iX5) (v := .int ja) (C := RX5) (T := TX5) (N := 8) hx hb hts hin_X5 hown hK hP 0 rfl rfl 6 (by decide) hfl_74 (fun _ h9 => h9) rfl dX5_mesh_44 ?_
      refine lv_iconst (v := 1) hx hb dX5_mesh_47 (by decide) ?_
      refine lv_iadd hx hb dX5_mesh_48 ?_
      refine va_put (D := (dC, dI)) (ci := iX5) (v := .int (ja + 1)) (ty := .int) (C := RX5) (T := TX5) (N := 8) hx hb hts hin_X5 tyX5 tyX5_ok nmX5 hown hK hP hD hS 0 rfl rfl 6 (by decide) hfl_74 (fun _ h9 => h9) rfl (by decide +kernel) rfl rfl (Nat.le_of_ble_eq_true rfl) dX5_mesh_49 (fun H locs hP hD hS => ?_)
      have hP : va_P (dC, dI) vwCl ([(o, .inr (iX5, [.ref g, .ref ce, .ref lu, .ref cl, .ref se, .int tu, .int (ja + 1), .int re])), (g, .inr (iX2, [.int (nI n), .ref xa, .ref xt, .ref xm, .ref wh, .ref st, .ref xb, .ref xc])), (xa, .inl (cI, 12, .inl (ax))), (xt, .inl (cI, 12, .inl (te))), (xm, .inl (cI, 12, .inl (me))), (xb, .inl (cF, 7, .inr (.inr (.inr (.inr (bc)))))), (xc, .inl (cF, 7, .inr (.inr (.inr (.inr (b1_12))))))] ++ va_pl LP1_13 (fe v1_14)) H := hP
      have hD : va_D A ([(o, .inr (iX5, [.ref g, .ref ce, .ref lu, .ref cl, .ref se, .int tu, .int (ja + 1), .int re])), (g, .inr (iX2, [.int (nI n), .ref xa, .ref xt, .ref xm, .ref wh, .ref st, .ref xb, .ref xc])), (xa, .inl (cI, 12, .inl (ax))), (xt, .inl (cI, 12, .inl (te))), (xm, .inl (cI, 12, .inl (me))), (xb, .inl (cF, 7, .inr (.inr (.inr (.inr (bc)))))), (xc, .inl (cF, 7, .inr (.inr (.inr (.inr (b1_12))))))] ++ va_pl LP1_13 (fe v1_14)) := hD
      refine lv_iconst (v := 0) hx hb dX5_mesh_52 (by decide) ?_
      refine W.widen (k := 2020) (n := 4052) (by omega) (by omega) ?_
      refine vx_ret ?_
      exact W.zret (v := 0) hx hb hr (by first | rfl | simp [narrow] | assumption) (fun t ht hW => ⟨⟨0, (ja + 1, me, bc, b1_12, LP1_13, v1_14), rfl, ⟨by simp [hn_2, hn_4, c_6, hn_10], by rw [if_neg hwj], by rw [if_neg hwj], by rw [if_neg hwj], hbk.keep hj3, hj2, hj3, by rw [if_neg hwj]; exact abR.keep hbk hj3⟩, by rw [ht]; exact hP, hAe ▸ hD⟩, hS.F ht⟩) hS.2.2 dX5_mesh_53
