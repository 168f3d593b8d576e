/-! the gearing: what changes it -/
def jn1 (me : Nat → Int32) (i j : Int32) : Nat → Int32 := putF 12 me i (atF 12 me i ||| 1 <<< (j &&& 31))
def jnF (me : Nat → Int32) (i j : Int32) : Nat → Int32 := jn1 (jn1 me i j) j i
def se1 (me : Nat → Int32) (i j : Int32) : Nat → Int32 := putF 12 me i (atF 12 me i &&& (1 <<< (j &&& 31) ^^^ (-1)))
def seF (me : Nat → Int32) (i j : Int32) : Nat → Int32 := se1 (se1 me i j) j i
def wjF (ax te me : Nat → Int32) (n : Nat) (w : Int64 × Int64) (i j : Int32) : Int32 := (rinR (sprF ax te me n (atF 12 ax i) w) (atF 12 ax j)).elim 0 (fun p => if p.1 = frU (-atF 12 te i).toInt64 (atF 12 te j).toInt64 ∧ p.2 = frL (-atF 12 te i).toInt64 (atF 12 te j).toInt64 then 0 else 1)

set_option maxHeartbeats 4000000 in
set_option maxRecDepth 100000 in
theorem c_X2_addWheel (l : Launch) (dC : Nat → ClassId) (dI : Nat → Nat → Nat) (cI cF : ClassId) (tr : List (ClassId × FieldType)) (sz : Nat) (g : Nat) (n : Nat) (xa : Nat) (xt : Nat) (xm : Nat) (wh : Nat) (st : Nat) (xb : Nat) (xc : Nat) (ax : Nat → Int32) (te : Nat → Int32) (i : Int32) (j : Int32) : Met l yX2_addWheel wsX2_addWheel ({ frames := 1, cells := 0, slots := 0, locals := 22 } : Room) (cPd dC dI ((cI, .int) :: (cF, .object RX1) :: tr) sz ([(g, .inr (iX2, [.int (nI n), .ref xa, .ref xt, .ref xm, .ref wh, .ref st, .ref xb, .ref xc])), (xa, .inl (cI, 12, .inl (ax))), (xt, .inl (cI, 12, .inl (te)))]) [.ref g, .int i, .int j]) (va_Qi (fun (r : Int32) (_ : Unit) => r = nI n) (fun _ t => va_P (dC, dI) vwCl ([(g, .inr (iX2, [.int (nI (n + 1)), .ref xa, .ref xt, .ref xm, .ref wh, .ref st, .ref xb, .ref xc])), (xa, .inl (cI, 12, .inl (putF 12 ax (nI n) i))), (xt, .inl (cI, 12, .inl (putF 12 te (nI n) j)))]) t.heap ∧ va_D (va_A ([(g, .inr (iX2, [.int (nI n), .ref xa, .ref xt, .ref xm, .ref wh, .ref st, .ref xb, .ref xc])), (xa, .inl (cI, 12, .inl (ax))), (xt, .inl (cI, 12, .inl (te)))]) sz) ([(g, .inr (iX2, [.int (nI (n + 1)), .ref xa, .ref xt, .ref xm, .ref wh, .ref st, .ref xb, .ref xc])), (xa, .inl (cI, 12, .inl (putF 12 ax (nI n) i))), (xt, .inl (cI, 12, .inl (putF 12 te (nI n) j)))])) (va_A ([(g, .inr (iX2, [.int (nI n), .ref xa, .ref xt, .ref xm, .ref wh, .ref st, .ref xb, .ref xc])), (xa, .inl (cI, 12, .inl (ax))), (xt, .inl (cI, 12, .inl (te)))]) sz)) 0 0 (va_A ([(g, .inr (iX2, [.int (nI n), .ref xa, .ref xt, .ref xm, .ref wh, .ref st, .ref xb, .ref xc])), (xa, .inl (cI, 12, .inl (ax))), (xt, .inl (cI, 12, .inl (te)))]) sz) := by
  refine Met.ofW (cc := cX2_addWheel) (maxL := 4) (ret := (some .int)) (by decide) rfl ?_
  intro p e s m args below meth c s₁ B hml hv
  obtain ⟨rfl, hsz, hP, hK, hN, hD0⟩ := hv
  have hx := B.exec
  have hb := B.bytes
  have hr := B.returns
  have hts := atoms_spec (ws := wsX2_addWheel) B.pre
  have hown : s.vm.findClass RX2 = some m.cls := findClass_of_methodNamed B.named
  have hlocks := B.notSynchronized
  subst hsz
  have hD := hD0.self (sz := s.heap.size)
  generalize hAe : va_A ([(g, .inr (iX2, [.int (nI n), .ref xa, .ref xt, .ref xm, .ref wh, .ref st, .ref xb, .ref xc])), (xa, .inl (cI, 12, .inl (ax))), (xt, .inl (cI, 12, .inl (te)))]) s.heap.size = A at hD ⊢
  have hA : ∀ q : Nat, s.heap.size ≤ q → A q := fun q h => by rw [← hAe]; exact Or.inr h
  have hS : va_S A s.heap s.heap [] := va_S.rf
  have hP : va_P (dC, dI) vwCl ([(g, .inr (iX2, [.int (nI n), .ref xa, .ref xt, .ref xm, .ref wh, .ref st, .ref xb, .ref xc])), (xa, .inl (cI, 12, .inl (ax))), (xt, .inl (cI, 12, .inl (te)))]) s.heap := hP
  have hl := lv_entry ([.ref g, .int i, .int j]) (n := 4) (Nat.le_of_ble_eq_true rfl)
  rw [lg_entry_eq]
  generalize (lg_sl ([.ref g, .int i, .int j]) ++ List.replicate (4 - (lg_sl ([.ref g, .int i, .int j])).length) Slot.unset).toArray = ls at hl ⊢
  have hl : lv_has ls 4 [(0, .ref g), (1, .int i), (2, .int j)] := hl
  have hfl_44 := hts (.fieldLink RX2 44 "Greenwheels$Gearing" "wheels" "I") (by decide +kernel)
  have hin_X2 : ∀ w ∈ u_ws RX2 TX2 8, w ∈ wsX2_addWheel := by decide +kernel
  have hfl_9 := hts (.fieldLink RX2 9 "Greenwheels$Gearing" "axles" "[I") (by decide +kernel)
  have hw_iniX5 := hts (.initialized RX5) (by decide +kernel)
  have hw_staX5_put := hts (.static yX5_put) (by decide +kernel)
  have hfl_15 := hts (.fieldLink RX2 15 "Greenwheels$Gearing" "teeth" "[I") (by decide +kernel)
  refine lv_aload_n hx hb dX2_addWheel_0 rfl (lv_at hl 0 rfl) ?_
  refine va_get (D := (dC, dI)) (ci := iX2) (v := .int (nI n)) (C := RX2) (T := TX2) (N := 8) hx hb hts hin_X2 hown hK hP 0 rfl rfl 0 (by decide) hfl_44 (fun _ h9 => h9) rfl dX2_addWheel_1 ?_
  refine lv_istore_n (lv' := [(3, .int (nI n)), (0, .ref g), (1, .int i), (2, .int j)]) hx hb dX2_addWheel_4 rfl hl (by decide) rfl (fun ls hl => ?_)
  refine lv_aload_n hx hb dX2_addWheel_5 rfl (lv_at hl 1 rfl) ?_
  refine va_get (D := (dC, dI)) (ci := iX2) (v := .ref xa) (C := RX2) (T := TX2) (N := 8) hx hb hts hin_X2 hown hK hP 0 rfl rfl 1 (by decide) hfl_9 (fun _ h9 => h9) rfl dX2_addWheel_6 ?_
  refine lv_iload_n hx hb dX2_addWheel_9 rfl (lv_at hl 0 rfl) ?_
  refine lv_iload_n hx hb dX2_addWheel_10 rfl (lv_at hl 2 rfl) ?_
  have hPc : va_P (dC, dI) vwCl ([(xa, .inl (cI, 12, .inl (ax)))]) _ := hP.sub [1] rfl
  have hDc : va_D (fun _ => True) ([(xa, .inl (cI, 12, .inl (ax)))]) := (hD.sub (ws' := [(xa, .inl (cI, 12, .inl (ax)))]) [1] (by decide) rfl).weaken (fun _ _ _ _ => trivial)
  have hFc := va_free (wc := [(xa, .inl (cI, 12, .inl (ax)))]) hD hS hA [1] rfl
  refine va_callv (va_runSN (host := RX5) (As := [.ref xa, .int (nI n), .int i]) (rest := []) ⟨hx, hb, hml, hown, hts⟩ (c_X5_put l dC dI cI cF tr (s.heap).size xa 12 ax (nI n) i (by decide)) ⟨va_cnB 3 hts gX2_addWheel_X5_put_n48 rfl rfl rfl (nwAt hN (RX2, 48, yX5_put) (by decide +kernel)) hw_iniX5 (by decide +kernel) ⟨Nat.le_of_ble_eq_true rfl, Nat.le_of_ble_eq_true rfl⟩, hw_staX5_put, trivial⟩ ⟨cDbl, (cDpre hPc hK hN hDc)⟩ rfl rfl hl.1 rfl (lv_room (Nat.le_of_ble_eq_true rfl)) dX2_addWheel_11 ⟨(Nat.le_of_ble_eq_true rfl), (Nat.le_of_ble_eq_true rfl)⟩) hS (fun q _ h => hFc q h) hFc (fun u t H1 locs ht hvm hw_r_1 hB hz1 hk1 hS => ?_)
  refine W.widen (k := 0) (n := 0) (Nat.le_refl _) (Nat.le_refl _) ?_
  obtain ⟨hP1, hD1⟩ := hB
  rw [ht] at hP1
  obtain ⟨hP, hD⟩ := va_join (wr := [(g, .inr (iX2, [.int (nI n), .ref xa, .ref xt, .ref xm, .ref wh, .ref st, .ref xb, .ref xc])), (xt, .inl (cI, 12, .inl (te)))]) (w1 := [(xa, .inl (cI, 12, .inl (putF 12 ax (nI n) i)))]) hP hD [1] [0, 2] rfl rfl (by decide) (by decide) hk1 hFc hP1 hD1
  have hD := hD.sub (ws' := [(g, .inr (iX2, [.int (nI n), .ref xa, .ref xt, .ref xm, .ref wh, .ref st, .ref xb, .ref xc])), (xa, .inl (cI, 12, .inl (putF 12 ax (nI n) i))), (xt, .inl (cI, 12, .inl (te)))]) [0, 2, 1] (by decide) rfl
  have hP : va_P (dC, dI) vwCl ([(g, .inr (iX2, [.int (nI n), .ref xa, .ref xt, .ref xm, .ref wh, .ref st, .ref xb, .ref xc])), (xa, .inl (cI, 12, .inl (putF 12 ax (nI n) i))), (xt, .inl (cI, 12, .inl (te)))]) H1 := hP.sub [0, 2, 1] rfl
  generalize H1 = H at hP hS ⊢
  have hP : va_P (dC, dI) vwCl ([(g, .inr (iX2, [.int (nI n), .ref xa, .ref xt, .ref xm, .ref wh, .ref st, .ref xb, .ref xc])), (xa, .inl (cI, 12, .inl (putF 12 ax (nI n) i))), (xt, .inl (cI, 12, .inl (te)))]) H := hP
  have hD : va_D A ([(g, .inr (iX2, [.int (nI n), .ref xa, .ref xt, .ref xm, .ref wh, .ref st, .ref xb, .ref xc])), (xa, .inl (cI, 12, .inl (putF 12 ax (nI n) i))), (xt, .inl (cI, 12, .inl (te)))]) := hD
  try dsimp only at hw_r_1
  refine lv_aload_n hx hb dX2_addWheel_14 rfl (lv_at hl 1 rfl) ?_
  refine va_get (D := (dC, dI)) (ci := iX2) (v := .ref xt) (C := RX2) (T := TX2) (N := 8) hx hb hts hin_X2 hown hK hP 0 rfl rfl 2 (by decide) hfl_15 (fun _ h9 => h9) rfl dX2_addWheel_15 ?_
  refine lv_iload_n hx hb dX2_addWheel_18 rfl (lv_at hl 0 rfl) ?_
  refine lv_iload_n hx hb dX2_addWheel_19 rfl (lv_at hl 3 rfl) ?_
  have hPc : va_P (dC, dI) vwCl ([(xt, .inl (cI, 12, .inl (te)))]) _ := hP.sub [2] rfl
  have hDc : va_D (fun _ => True) ([(xt, .inl (cI, 12, .inl (te)))]) := (hD.sub (ws' := [(xt, .inl (cI, 12, .inl (te)))]) [2] (by decide) rfl).weaken (fun _ _ _ _ => trivial)
  have hFc := va_free (wc := [(xt, .inl (cI, 12, .inl (te)))]) hD hS hA [2] rfl
  refine va_callv (va_runSN (host := RX5) (As := [.ref xt, .int (nI n), .int j]) (rest := []) ⟨hx, hb, hml, hown, hts⟩ (c_X5_put l dC dI cI cF tr (H).size xt 12 te (nI n) j (by decide)) ⟨va_cnB 3 hts gX2_addWheel_X5_put_n48 rfl rfl rfl (nwAt hN (RX2, 48, yX5_put) (by decide +kernel)) hw_iniX5 (by decide +kernel) ⟨Nat.le_of_ble_eq_true rfl, Nat.le_of_ble_eq_true rfl⟩, hw_staX5_put, trivial⟩ ⟨cDbl, (cDpre hPc hK hN hDc)⟩ rfl rfl hl.1 rfl (lv_room (Nat.le_of_ble_eq_true rfl)) dX2_addWheel_20 ⟨(Nat.le_of_ble_eq_true rfl), (Nat.le_of_ble_eq_true rfl)⟩) hS (fun q _ h => hFc q h) hFc (fun u t H1 locs ht hvm hw_r_2 hB hz1 hk1 hS => ?_)
  refine W.widen (k := 0) (n := 0) (Nat.le_refl _) (Nat.le_refl _) ?_
  obtain ⟨hP1, hD1⟩ := hB
  rw [ht] at hP1
  obtain ⟨hP, hD⟩ := va_join (wr := [(g, .inr (iX2, [.int (nI n), .ref xa, .ref xt, .ref xm, .ref wh, .ref st, .ref xb, .ref xc])), (xa, .inl (cI, 12, .inl (putF 12 ax (nI n) i)))]) (w1 := [(xt, .inl (cI, 12, .inl (putF 12 te (nI n) j)))]) hP hD [2] [0, 1] rfl rfl (by decide) (by decide) hk1 hFc hP1 hD1
  have hD := hD.sub (ws' := [(g, .inr (iX2, [.int (nI n), .ref xa, .ref xt, .ref xm, .ref wh, .ref st, .ref xb, .ref xc])), (xa, .inl (cI, 12, .inl (putF 12 ax (nI n) i))), (xt, .inl (cI, 12, .inl (putF 12 te (nI n) j)))]) [0, 1, 2] (by decide) rfl
  have hP : va_P (dC, dI) vwCl ([(g, .inr (iX2, [.int (nI n), .ref xa, .ref xt, .ref xm, .ref wh, .ref st, .ref xb, .ref xc])), (xa, .inl (cI, 12, .inl (putF 12 ax (nI n) i))), (xt, .inl (cI, 12, .inl (putF 12 te (nI n) j)))]) H1 := hP.sub [0, 1, 2] rfl
  generalize H1 = H at hP hS ⊢
  have hP : va_P (dC, dI) vwCl ([(g, .inr (iX2, [.int (nI n), .ref xa, .ref xt, .ref xm, .ref wh, .ref st, .ref xb, .ref xc])), (xa, .inl (cI, 12, .inl (putF 12 ax (nI n) i))), (xt, .inl (cI, 12, .inl (putF 12 te (nI n) j)))]) H := hP
  have hD : va_D A ([(g, .inr (iX2, [.int (nI n), .ref xa, .ref xt, .ref xm, .ref wh, .ref st, .ref xb, .ref xc])), (xa, .inl (cI, 12, .inl (putF 12 ax (nI n) i))), (xt, .inl (cI, 12, .inl (putF 12 te (nI n) j)))]) := hD
  try dsimp only at hw_r_2
  refine lv_aload_n hx hb dX2_addWheel_23 rfl (lv_at hl 1 rfl) ?_
  refine lv_dup hx hb dX2_addWheel_24 rfl ?_
  refine va_get (D := (dC, dI)) (ci := iX2) (v := .int (nI n)) (C := RX2) (T := TX2) (N := 8) hx hb hts hin_X2 hown hK hP 0 rfl rfl 0 (by decide) hfl_44 (fun _ h9 => h9) rfl dX2_addWheel_25 ?_
  refine lv_iconst (v := 1) hx hb dX2_addWheel_28 (by decide) ?_
  refine lv_iadd hx hb dX2_addWheel_29 ?_
  refine va_put (D := (dC, dI)) (ci := iX2) (v := .int ((nI n) + 1)) (ty := .int) (C := RX2) (T := TX2) (N := 8) hx hb hts hin_X2 tyX2 tyX2_ok nmX2 hown hK hP hD hS 0 rfl rfl 0 (by decide) hfl_44 (fun _ h9 => h9) rfl (by decide +kernel) rfl rfl (Nat.le_of_ble_eq_true rfl) dX2_addWheel_30 (fun H locs hP hD hS => ?_)
  have hP : va_P (dC, dI) vwCl ([(g, .inr (iX2, [.int ((nI n) + 1), .ref xa, .ref xt, .ref xm, .ref wh, .ref st, .ref xb, .ref xc])), (xa, .inl (cI, 12, .inl (putF 12 ax (nI n) i))), (xt, .inl (cI, 12, .inl (putF 12 te (nI n) j)))]) H := hP
  have hD : va_D A ([(g, .inr (iX2, [.int ((nI n) + 1), .ref xa, .ref xt, .ref xm, .ref wh, .ref st, .ref xb, .ref xc])), (xa, .inl (cI, 12, .inl (putF 12 ax (nI n) i))), (xt, .inl (cI, 12, .inl (putF 12 te (nI n) j)))]) := hD
  refine lv_iload_n hx hb dX2_addWheel_33 rfl (lv_at hl 0 rfl) ?_
  refine W.widen (k := 0) (n := 0) (by omega) (by omega) ?_
  have eq_3 : ([(g, .inr (iX2, [.int ((nI n) + 1), .ref xa, .ref xt, .ref xm, .ref wh, .ref st, .ref xb, .ref xc])), (xa, .inl (cI, 12, .inl (putF 12 ax (nI n) i))), (xt, .inl (cI, 12, .inl (putF 12 te (nI n) j)))] : va_W) = [(g, .inr (iX2, [.int (nI (n + 1)), .ref xa, .ref xt, .ref xm, .ref wh, .ref st, .ref xb, .ref xc])), (xa, .inl (cI, 12, .inl (putF 12 ax (nI n) i))), (xt, .inl (cI, 12, .inl (putF 12 te (nI n) j)))] := (by rw [nI_1])
  rw [eq_3] at hP hD
  exact W.iret (v := nI n) hx hb hr (fun t ht hW => ⟨⟨nI n, (), rfl, rfl, by rw [ht]; exact hP, hAe ▸ hD⟩, hS.F ht⟩) hS.2.2 dX2_addWheel_34

set_option maxHeartbeats 4000000 in
set_option maxRecDepth 100000 in
theorem c_X2_join (l : Launch) (dC : Nat → ClassId) (dI : Nat → Nat → Nat) (cI cF : ClassId) (tr : List (ClassId × FieldType)) (sz : Nat) (g : Nat) (n : Nat) (xa : Nat) (xt : Nat) (xm : Nat) (wh : Nat) (st : Nat) (xb : Nat) (xc : Nat) (ax : Nat → Int32) (te : Nat → Int32) (me : Nat → Int32) (bc : Nat → Option Nat) (LP : List Nat) (v : Nat → Int64 × Int64) (i : Int32) (j : Int32) (hbk : bOK LP bc) (hn : n ≤ 12) (hwh : wh ∈ LP) : Met l yX2_join wsX2_join ({ frames := 5, cells := 1008, slots := 2016, locals := 131 } : Room) (cPd dC dI ((cI, .int) :: (cF, .object RX1) :: tr) sz ([(g, .inr (iX2, [.int (nI n), .ref xa, .ref xt, .ref xm, .ref wh, .ref st, .ref xb, .ref xc])), (xa, .inl (cI, 12, .inl (ax))), (xt, .inl (cI, 12, .inl (te))), (xm, .inl (cI, 12, .inl (me))), (xb, .inl (cF, 7, .inr (.inr (.inr (.inr (bc))))))] ++ va_pl LP (fe v)) [.ref g, .int i, .int j]) (va_Qv (fun u : (Nat → Option Nat) × List Nat × (Nat → Int64 × Int64) => bOK u.2.1 u.1 ∧ keepL LP u.2.1 v u.2.2 ∧ abR u.1 u.2.2 = sprF ax te (jnF me i j) n 0 (v wh)) (fun ⟨b1, LP1, v1⟩ t => va_P (dC, dI) vwCl ([(g, .inr (iX2, [.int (nI n), .ref xa, .ref xt, .ref xm, .ref wh, .ref st, .ref xb, .ref xc])), (xa, .inl (cI, 12, .inl (ax))), (xt, .inl (cI, 12, .inl (te))), (xm, .inl (cI, 12, .inl (jnF me i j))), (xb, .inl (cF, 7, .inr (.inr (.inr (.inr (b1))))))] ++ va_pl LP1 (fe v1)) t.heap ∧ va_D (va_A ([(g, .inr (iX2, [.int (nI n), .ref xa, .ref xt, .ref xm, .ref wh, .ref st, .ref xb, .ref xc])), (xa, .inl (cI, 12, .inl (ax))), (xt, .inl (cI, 12, .inl (te))), (xm, .inl (cI, 12, .inl (me))), (xb, .inl (cF, 7, .inr (.inr (.inr (.inr (bc))))))] ++ va_pl LP (fe v)) sz) ([(g, .inr (iX2, [.int (nI n), .ref xa, .ref xt, .ref xm, .ref wh, .ref st, .ref xb, .ref xc])), (xa, .inl (cI, 12, .inl (ax))), (xt, .inl (cI, 12, .inl (te))), (xm, .inl (cI, 12, .inl (jnF me i j))), (xb, .inl (cF, 7, .inr (.inr (.inr (.inr (b1))))))] ++ va_pl LP1 (fe v1))) (va_A ([(g, .inr (iX2, [.int (nI n), .ref xa, .ref xt, .ref xm, .ref wh, .ref st, .ref xb, .ref xc])), (xa, .inl (cI, 12, .inl (ax))), (xt, .inl (cI, 12, .inl (te))), (xm, .inl (cI, 12, .inl (me))), (xb, .inl (cF, 7, .inr (.inr (.inr (.inr (bc))))))] ++ va_pl LP (fe v)) sz)) 1008 2016 (va_A ([(g, .inr (iX2, [.int (nI n), .ref xa, .ref xt, .ref xm, .ref wh, .ref st, .ref xb, .ref xc])), (xa, .inl (cI, 12, .inl (ax))), (xt, .inl (cI, 12, .inl (te))), (xm, .inl (cI, 12, .inl (me))), (xb, .inl (cF, 7, .inr (.inr (.inr (.inr (bc))))))] ++ va_pl LP (fe v)) sz) := by
  refine Met.ofW (cc := cX2_join) (maxL := 3) (ret := none) (by decide) rfl ?_
  intro p e s m args below meth c s₁ B hml hv
  obtain ⟨rfl, hsz, hP, hK, hN, hD0⟩ := hv
  have hx := B.exec
  have hb := B.bytes
  have hr := B.returns
  have hts := atoms_spec (ws := wsX2_join) B.pre
  have hown : s.vm.findClass RX2 = some m.cls := findClass_of_methodNamed B.named
  have hlocks := B.notSynchronized
  subst hsz
  have hD := hD0.self (sz := s.heap.size)
  generalize hAe : va_A ([(g, .inr (iX2, [.int (nI n), .ref xa, .ref xt, .ref xm, .ref wh, .ref st, .ref xb, .ref xc])), (xa, .inl (cI, 12, .inl (ax))), (xt, .inl (cI, 12, .inl (te))), (xm, .inl (cI, 12, .inl (me))), (xb, .inl (cF, 7, .inr (.inr (.inr (.inr (bc))))))] ++ va_pl LP (fe v)) s.heap.size = A at hD ⊢
  have hA : ∀ q : Nat, s.heap.size ≤ q → A q := fun q h => by rw [← hAe]; exact Or.inr h
  have hS : va_S A s.heap s.heap [] := va_S.rf
  have hP : va_P (dC, dI) vwCl ([(g, .inr (iX2, [.int (nI n), .ref xa, .ref xt, .ref xm, .ref wh, .ref st, .ref xb, .ref xc])), (xa, .inl (cI, 12, .inl (ax))), (xt, .inl (cI, 12, .inl (te))), (xm, .inl (cI, 12, .inl (me))), (xb, .inl (cF, 7, .inr (.inr (.inr (.inr (bc))))))] ++ va_pl LP (fe v)) s.heap := hP
  have hl := lv_entry ([.ref g, .int i, .int j]) (n := 3) (Nat.le_of_ble_eq_true rfl)
  rw [lg_entry_eq]
  generalize (lg_sl ([.ref g, .int i, .int j]) ++ List.replicate (3 - (lg_sl ([.ref g, .int i, .int j])).length) Slot.unset).toArray = ls at hl ⊢
  have hl : lv_has ls 3 [(0, .ref g), (1, .int i), (2, .int j)] := hl
  have hfl_18 := hts (.fieldLink RX2 18 "Greenwheels$Gearing" "meshSets" "[I") (by decide +kernel)
  have hin_X2 : ∀ w ∈ u_ws RX2 TX2 8, w ∈ wsX2_join := by decide +kernel
  have hw_iniX5 := hts (.initialized RX5) (by decide +kernel)
  have hw_staX5_put := hts (.static yX5_put) (by decide +kernel)
  have hfl_33 := hts (.fieldLink RX2 33 "Greenwheels$Gearing" "byCrank" "[LGreenwheels$Fraction;") (by decide +kernel)
  refine lv_aload_n hx hb dX2_join_0 rfl (lv_at hl 0 rfl) ?_
  refine va_get (D := (dC, dI)) (ci := iX2) (v := .ref xm) (C := RX2) (T := TX2) (N := 8) hx hb hts hin_X2 hown hK hP 0 rfl rfl 3 (by decide) hfl_18 (fun _ h9 => h9) rfl dX2_join_1 ?_
  refine lv_iload_n hx hb dX2_join_4 rfl (lv_at hl 1 rfl) ?_
  refine lv_aload_n hx hb dX2_join_5 rfl (lv_at hl 0 rfl) ?_
  refine lv_iload_n hx hb dX2_join_6 rfl (lv_at hl 1 rfl) ?_
  have hPc : va_P (dC, dI) vwCl ([(g, .inr (iX2, [.int (nI n), .ref xa, .ref xt, .ref xm, .ref wh, .ref st, .ref xb, .ref xc])), (xm, .inl (cI, 12, .inl (me)))]) _ := hP.sub [0, 3] rfl
  have hFc := frZ hS hA
  refine va_calli (va_runV (As := [.int i]) (rest := [.int i, .ref xm]) ⟨hx, hb, hml, hown, hts⟩ (c_X2_meshedWith l dC dI cI cF tr (s.heap).size g n xa xt xm wh st xb xc me i) (cwV 1 hts gX2_join_X2_meshedWith rfl rfl rfl (by decide +kernel) ⟨Nat.le_of_ble_eq_true rfl, Nat.le_of_ble_eq_true rfl⟩) ⟨cBl, (va_recv hK hPc (ci := iX2) (q0 := 0) rfl rfl), (cPre hPc hK hN)⟩ rfl rfl hl.1 rfl (lv_room (Nat.le_of_ble_eq_true rfl)) dX2_join_7 ⟨(Nat.le_of_ble_eq_true rfl), (Nat.le_of_ble_eq_true rfl)⟩) hS (fun q _ h => hFc q h) hFc (fun r_1 u t H1 locs ht hvm hw_r_1 hB hz1 hk1 hS => ?_)
  refine W.widen (k := 0) (n := 0) (Nat.le_refl _) (Nat.le_refl _) ?_
  have hP := keepP hP hk1
  generalize H1 = H at hP hS ⊢
  have hP : va_P (dC, dI) vwCl ([(g, .inr (iX2, [.int (nI n), .ref xa, .ref xt, .ref xm, .ref wh, .ref st, .ref xb, .ref xc])), (xa, .inl (cI, 12, .inl (ax))), (xt, .inl (cI, 12, .inl (te))), (xm, .inl (cI, 12, .inl (me))), (xb, .inl (cF, 7, .inr (.inr (.inr (.inr (bc))))))] ++ va_pl LP (fe v)) H := hP
  try dsimp only at hw_r_1
  subst hw_r_1
  refine lv_iconst (v := 1) hx hb dX2_join_10 (by decide) ?_
  refine lv_iload_n hx hb dX2_join_11 rfl (lv_at hl 2 rfl) ?_
  refine lv_ishl hx hb dX2_join_12 ?_
  refine lv_ior hx hb dX2_join_13 ?_
  have hPc : va_P (dC, dI) vwCl ([(xm, .inl (cI, 12, .inl (me)))]) _ := hP.sub [3] rfl
  have hDc : va_D (fun _ => True) ([(xm, .inl (cI, 12, .inl (me)))]) := (hD.sub (ws' := [(xm, .inl (cI, 12, .inl (me)))]) [3] (by decide) rfl).weaken (fun _ _ _ _ => trivial)
  have hFc := va_free (wc := [(xm, .inl (cI, 12, .inl (me)))]) hD hS hA [3] rfl
  refine va_callv (va_runSN (host := RX5) (As := [.ref xm, .int i, .int ((atF 12 me i) ||| (1 <<< (j &&& 31)))]) (rest := []) ⟨hx, hb, hml, hown, hts⟩ (c_X5_put l dC dI cI cF tr (H).size xm 12 me i ((atF 12 me i) ||| (1 <<< (j &&& 31))) (by decide)) ⟨va_cnB 3 hts gX2_join_X5_put_n48 rfl rfl rfl (nwAt hN (RX2, 48, yX5_put) (by decide +kernel)) hw_iniX5 (by decide +kernel) ⟨Nat.le_of_ble_eq_true rfl, Nat.le_of_ble_eq_true rfl⟩, hw_staX5_put, trivial⟩ ⟨cDbl, (cDpre hPc hK hN hDc)⟩ rfl rfl hl.1 rfl (lv_room (Nat.le_of_ble_eq_true rfl)) dX2_join_14 ⟨(Nat.le_of_ble_eq_true rfl), (Nat.le_of_ble_eq_true rfl)⟩) hS (fun q _ h => hFc q h) hFc (fun u t H1 locs ht hvm hw_r_2 hB hz1 hk1 hS => ?_)
  refine W.widen (k := 0) (n := 0) (Nat.le_refl _) (Nat.le_refl _) ?_
  obtain ⟨hP1, hD1⟩ := hB
  rw [ht] at hP1
  obtain ⟨hP, hD⟩ := va_joinQ (wr := [(g, .inr (iX2, [.int (nI n), .ref xa, .ref xt, .ref xm, .ref wh, .ref st, .ref xb, .ref xc])), (xa, .inl (cI, 12, .inl (ax))), (xt, .inl (cI, 12, .inl (te))), (xb, .inl (cF, 7, .inr (.inr (.inr (.inr (bc))))))]) (w1 := [(xm, .inl (cI, 12, .inl (putF 12 me i ((atF 12 me i) ||| (1 <<< (j &&& 31))))))]) hP hD [3] [0, 1, 2, 4] rfl rfl (by decide) (by decide) hk1 hFc hP1 hD1
  have hD := hD.part (cx := [(g, .inr (iX2, [.int (nI n), .ref xa, .ref xt, .ref xm, .ref wh, .ref st, .ref xb, .ref xc])), (xa, .inl (cI, 12, .inl (ax))), (xt, .inl (cI, 12, .inl (te))), (xm, .inl (cI, 12, .inl (putF 12 me i ((atF 12 me i) ||| (1 <<< (j &&& 31)))))), (xb, .inl (cF, 7, .inr (.inr (.inr (.inr (bc))))))]) [0, 1, 2, 4, 3] (by decide) rfl
  have hP : va_P (dC, dI) vwCl ([(g, .inr (iX2, [.int (nI n), .ref xa, .ref xt, .ref xm, .ref wh, .ref st, .ref xb, .ref xc])), (xa, .inl (cI, 12, .inl (ax))), (xt, .inl (cI, 12, .inl (te))), (xm, .inl (cI, 12, .inl (putF 12 me i ((atF 12 me i) ||| (1 <<< (j &&& 31)))))), (xb, .inl (cF, 7, .inr (.inr (.inr (.inr (bc))))))] ++ va_pl LP (fe v)) H1 := hP.part [0, 1, 2, 4, 3] rfl
  generalize H1 = H at hP hS ⊢
  have hP : va_P (dC, dI) vwCl ([(g, .inr (iX2, [.int (nI n), .ref xa, .ref xt, .ref xm, .ref wh, .ref st, .ref xb, .ref xc])), (xa, .inl (cI, 12, .inl (ax))), (xt, .inl (cI, 12, .inl (te))), (xm, .inl (cI, 12, .inl (putF 12 me i ((atF 12 me i) ||| (1 <<< (j &&& 31)))))), (xb, .inl (cF, 7, .inr (.inr (.inr (.inr (bc))))))] ++ va_pl LP (fe v)) H := hP
  have hD : va_D A ([(g, .inr (iX2, [.int (nI n), .ref xa, .ref xt, .ref xm, .ref wh, .ref st, .ref xb, .ref xc])), (xa, .inl (cI, 12, .inl (ax))), (xt, .inl (cI, 12, .inl (te))), (xm, .inl (cI, 12, .inl (putF 12 me i ((atF 12 me i) ||| (1 <<< (j &&& 31)))))), (xb, .inl (cF, 7, .inr (.inr (.inr (.inr (bc))))))] ++ va_pl LP (fe v)) := hD
  try dsimp only at hw_r_2
  refine lv_aload_n hx hb dX2_join_17 rfl (lv_at hl 0 rfl) ?_
  refine va_get (D := (dC, dI)) (ci := iX2) (v := .ref xm) (C := RX2) (T := TX2) (N := 8) hx hb hts hin_X2 hown hK hP 0 rfl rfl 3 (by decide) hfl_18 (fun _ h9 => h9) rfl dX2_join_18 ?_
  refine lv_iload_n hx hb dX2_join_21 rfl (lv_at hl 2 rfl) ?_
  refine lv_aload_n hx hb dX2_join_22 rfl (lv_at hl 0 rfl) ?_
  refine lv_iload_n hx hb dX2_join_23 rfl (lv_at hl 2 rfl) ?_
  have hPc : va_P (dC, dI) vwCl ([(g, .inr (iX2, [.int (nI n), .ref xa, .ref xt, .ref xm, .ref wh, .ref st, .ref xb, .ref xc])), (xm, .inl (cI, 12, .inl (putF 12 me i ((atF 12 me i) ||| (1 <<< (j &&& 31))))))]) _ := hP.sub [0, 3] rfl
  have hFc := frZ hS hA
  refine va_calli (va_runV (As := [.int j]) (rest := [.int j, .ref xm]) ⟨hx, hb, hml, hown, hts⟩ (c_X2_meshedWith l dC dI cI cF tr (H).size g n xa xt xm wh st xb xc (putF 12 me i ((atF 12 me i) ||| (1 <<< (j &&& 31)))) j) (cwV 1 hts gX2_join_X2_meshedWith rfl rfl rfl (by decide +kernel) ⟨Nat.le_of_ble_eq_true rfl, Nat.le_of_ble_eq_true rfl⟩) ⟨cBl, (va_recv hK hPc (ci := iX2) (q0 := 0) rfl rfl), (cPre hPc hK hN)⟩ rfl rfl hl.1 rfl (lv_room (Nat.le_of_ble_eq_true rfl)) dX2_join_24 ⟨(Nat.le_of_ble_eq_true rfl), (Nat.le_of_ble_eq_true rfl)⟩) hS (fun q _ h => hFc q h) hFc (fun r_3 u t H1 locs ht hvm hw_r_3 hB hz1 hk1 hS => ?_)
  refine W.widen (k := 0) (n := 0) (Nat.le_refl _) (Nat.le_refl _) ?_
  have hP := keepP hP hk1
  generalize H1 = H at hP hS ⊢
  have hP : va_P (dC, dI) vwCl ([(g, .inr (iX2, [.int (nI n), .ref xa, .ref xt, .ref xm, .ref wh, .ref st, .ref xb, .ref xc])), (xa, .inl (cI, 12, .inl (ax))), (xt, .inl (cI, 12, .inl (te))), (xm, .inl (cI, 12, .inl (putF 12 me i ((atF 12 me i) ||| (1 <<< (j &&& 31)))))), (xb, .inl (cF, 7, .inr (.inr (.inr (.inr (bc))))))] ++ va_pl LP (fe v)) H := hP
  try dsimp only at hw_r_3
  subst hw_r_3
  refine lv_iconst (v := 1) hx hb dX2_join_27 (by decide) ?_
  refine lv_iload_n hx hb dX2_join_28 rfl (lv_at hl 1 rfl) ?_
  refine lv_ishl hx hb dX2_join_29 ?_
  refine lv_ior hx hb dX2_join_30 ?_
  have hPc : va_P (dC, dI) vwCl ([(xm, .inl (cI, 12, .inl (putF 12 me i ((atF 12 me i) ||| (1 <<< (j &&& 31))))))]) _ := hP.sub [3] rfl
  have hDc : va_D (fun _ => True) ([(xm, .inl (cI, 12, .inl (putF 12 me i ((atF 12 me i) ||| (1 <<< (j &&& 31))))))]) := (hD.sub (ws' := [(xm, .inl (cI, 12, .inl (putF 12 me i ((atF 12 me i) ||| (1 <<< (j &&& 31))))))]) [3] (by decide) rfl).weaken (fun _ _ _ _ => trivial)
  have hFc := va_free (wc := [(xm, .inl (cI, 12, .inl (putF 12 me i ((atF 12 me i) ||| (1 <<< (j &&& 31))))))]) hD hS hA [3] rfl
  refine va_callv (va_runSN (host := RX5) (As := [.ref xm, .int j, .int ((atF 12 (putF 12 me i ((atF 12 me i) ||| (1 <<< (j &&& 31)))) j) ||| (1 <<< (i &&& 31)))]) (rest := []) ⟨hx, hb, hml, hown, hts⟩ (c_X5_put l dC dI cI cF tr (H).size xm 12 (putF 12 me i ((atF 12 me i) ||| (1 <<< (j &&& 31)))) j ((atF 12 (putF 12 me i ((atF 12 me i) ||| (1 <<< (j &&& 31)))) j) ||| (1 <<< (i &&& 31))) (by decide)) ⟨va_cnB 3 hts gX2_join_X5_put_n48 rfl rfl rfl (nwAt hN (RX2, 48, yX5_put) (by decide +kernel)) hw_iniX5 (by decide +kernel) ⟨Nat.le_of_ble_eq_true rfl, Nat.le_of_ble_eq_true rfl⟩, hw_staX5_put, trivial⟩ ⟨cDbl, (cDpre hPc hK hN hDc)⟩ rfl rfl hl.1 rfl (lv_room (Nat.le_of_ble_eq_true rfl)) dX2_join_31 ⟨(Nat.le_of_ble_eq_true rfl), (Nat.le_of_ble_eq_true rfl)⟩) hS (fun q _ h => hFc q h) hFc (fun u t H1 locs ht hvm hw_r_4 hB hz1 hk1 hS => ?_)
  refine W.widen (k := 0) (n := 0) (Nat.le_refl _) (Nat.le_refl _) ?_
  obtain ⟨hP1, hD1⟩ := hB
  rw [ht] at hP1
  obtain ⟨hP, hD⟩ := va_joinQ (wr := [(g, .inr (iX2, [.int (nI n), .ref xa, .ref xt, .ref xm, .ref wh, .ref st, .ref xb, .ref xc])), (xa, .inl (cI, 12, .inl (ax))), (xt, .inl (cI, 12, .inl (te))), (xb, .inl (cF, 7, .inr (.inr (.inr (.inr (bc))))))]) (w1 := [(xm, .inl (cI, 12, .inl (putF 12 (putF 12 me i ((atF 12 me i) ||| (1 <<< (j &&& 31)))) j ((atF 12 (putF 12 me i ((atF 12 me i) ||| (1 <<< (j &&& 31)))) j) ||| (1 <<< (i &&& 31))))))]) hP hD [3] [0, 1, 2, 4] rfl rfl (by decide) (by decide) hk1 hFc hP1 hD1
  have hD := hD.part (cx := [(g, .inr (iX2, [.int (nI n), .ref xa, .ref xt, .ref xm, .ref wh, .ref st, .ref xb, .ref xc])), (xa, .inl (cI, 12, .inl (ax))), (xt, .inl (cI, 12, .inl (te))), (xm, .inl (cI, 12, .inl (putF 12 (putF 12 me i ((atF 12 me i) ||| (1 <<< (j &&& 31)))) j ((atF 12 (putF 12 me i ((atF 12 me i) ||| (1 <<< (j &&& 31)))) j) ||| (1 <<< (i &&& 31)))))), (xb, .inl (cF, 7, .inr (.inr (.inr (.inr (bc))))))]) [0, 1, 2, 4, 3] (by decide) rfl
  have hP : va_P (dC, dI) vwCl ([(g, .inr (iX2, [.int (nI n), .ref xa, .ref xt, .ref xm, .ref wh, .ref st, .ref xb, .ref xc])), (xa, .inl (cI, 12, .inl (ax))), (xt, .inl (cI, 12, .inl (te))), (xm, .inl (cI, 12, .inl (putF 12 (putF 12 me i ((atF 12 me i) ||| (1 <<< (j &&& 31)))) j ((atF 12 (putF 12 me i ((atF 12 me i) ||| (1 <<< (j &&& 31)))) j) ||| (1 <<< (i &&& 31)))))), (xb, .inl (cF, 7, .inr (.inr (.inr (.inr (bc))))))] ++ va_pl LP (fe v)) H1 := hP.part [0, 1, 2, 4, 3] rfl
  generalize H1 = H at hP hS ⊢
  have hP : va_P (dC, dI) vwCl ([(g, .inr (iX2, [.int (nI n), .ref xa, .ref xt, .ref xm, .ref wh, .ref st, .ref xb, .ref xc])), (xa, .inl (cI, 12, .inl (ax))), (xt, .inl (cI, 12, .inl (te))), (xm, .inl (cI, 12, .inl (putF 12 (putF 12 me i ((atF 12 me i) ||| (1 <<< (j &&& 31)))) j ((atF 12 (putF 12 me i ((atF 12 me i) ||| (1 <<< (j &&& 31)))) j) ||| (1 <<< (i &&& 31)))))), (xb, .inl (cF, 7, .inr (.inr (.inr (.inr (bc))))))] ++ va_pl LP (fe v)) H := hP
  have hD : va_D A ([(g, .inr (iX2, [.int (nI n), .ref xa, .ref xt, .ref xm, .ref wh, .ref st, .ref xb, .ref xc])), (xa, .inl (cI, 12, .inl (ax))), (xt, .inl (cI, 12, .inl (te))), (xm, .inl (cI, 12, .inl (putF 12 (putF 12 me i ((atF 12 me i) ||| (1 <<< (j &&& 31)))) j ((atF 12 (putF 12 me i ((atF 12 me i) ||| (1 <<< (j &&& 31)))) j) ||| (1 <<< (i &&& 31)))))), (xb, .inl (cF, 7, .inr (.inr (.inr (.inr (bc))))))] ++ va_pl LP (fe v)) := hD
  try dsimp only at hw_r_4
  have eq_5 : ([(g, .inr (iX2, [.int (nI n), .ref xa, .ref xt, .ref xm, .ref wh, .ref st, .ref xb, .ref xc])), (xa, .inl (cI, 12, .inl (ax))), (xt, .inl (cI, 12, .inl (te))), (xm, .inl (cI, 12, .inl (putF 12 (putF 12 me i ((atF 12 me i) ||| (1 <<< (j &&& 31)))) j ((atF 12 (putF 12 me i ((atF 12 me i) ||| (1 <<< (j &&& 31)))) j) ||| (1 <<< (i &&& 31)))))), (xb, .inl (cF, 7, .inr (.inr (.inr (.inr (bc))))))] : va_W) = [(g, .inr (iX2, [.int (nI n), .ref xa, .ref xt, .ref xm, .ref wh, .ref st, .ref xb, .ref xc])), (xa, .inl (cI, 12, .inl (ax))), (xt, .inl (cI, 12, .inl (te))), (xm, .inl (cI, 12, .inl (jnF me i j))), (xb, .inl (cF, 7, .inr (.inr (.inr (.inr (bc))))))] := rfl
  rw [eq_5] at hP hD
  refine lv_aload_n hx hb dX2_join_34 rfl (lv_at hl 0 rfl) ?_
  refine lv_iconst (v := 0) hx hb dX2_join_35 (by decide) ?_
  refine lv_aload_n hx hb dX2_join_36 rfl (lv_at hl 0 rfl) ?_
  refine va_get (D := (dC, dI)) (ci := iX2) (v := .ref xb) (C := RX2) (T := TX2) (N := 8) hx hb hts hin_X2 hown hK hP 0 rfl rfl 6 (by decide) hfl_33 (fun _ h9 => h9) rfl dX2_join_37 ?_
  have hPc : va_P (dC, dI) vwCl ([(g, .inr (iX2, [.int (nI n), .ref xa, .ref xt, .ref xm, .ref wh, .ref st, .ref xb, .ref xc])), (xa, .inl (cI, 12, .inl (ax))), (xt, .inl (cI, 12, .inl (te))), (xm, .inl (cI, 12, .inl (jnF me i j))), (xb, .inl (cF, 7, .inr (.inr (.inr (.inr (bc))))))] ++ va_pl LP (fe v)) _ := hP.part [0, 1, 2, 3, 4] rfl
  have hDc : va_D (fun _ => True) ([(g, .inr (iX2, [.int (nI n), .ref xa, .ref xt, .ref xm, .ref wh, .ref st, .ref xb, .ref xc])), (xa, .inl (cI, 12, .inl (ax))), (xt, .inl (cI, 12, .inl (te))), (xm, .inl (cI, 12, .inl (jnF me i j))), (xb, .inl (cF, 7, .inr (.inr (.inr (.inr (bc))))))] ++ va_pl LP (fe v)) := (hD.part (cx := [(g, .inr (iX2, [.int (nI n), .ref xa, .ref xt, .ref xm, .ref wh, .ref st, .ref xb, .ref xc])), (xa, .inl (cI, 12, .inl (ax))), (xt, .inl (cI, 12, .inl (te))), (xm, .inl (cI, 12, .inl (jnF me i j))), (xb, .inl (cF, 7, .inr (.inr (.inr (.inr (bc))))))]) [0, 1, 2, 3, 4] (by decide) rfl).weaken (fun _ _ _ _ => trivial)
  have hFc := va_freeP (cx := [(g, .inr (iX2, [.int (nI n), .ref xa, .ref xt, .ref xm, .ref wh, .ref st, .ref xb, .ref xc])), (xa, .inl (cI, 12, .inl (ax))), (xt, .inl (cI, 12, .inl (te))), (xm, .inl (cI, 12, .inl (jnF me i j))), (xb, .inl (cF, 7, .inr (.inr (.inr (.inr (bc))))))]) hD hS hA [0, 1, 2, 3, 4] rfl
  refine va_callv (va_runV (As := [.int 0, .ref xb]) (rest := []) ⟨hx, hb, hml, hown, hts⟩ (c_X2_spreadRates l dC dI cI cF tr (H).size g n xa xt xm wh st xb xc ax te (jnF me i j) xb bc LP v 0 (by assumption) (by assumption) (by assumption)) (cwV 2 hts gX2_join_X2_spreadRates rfl rfl rfl (by decide +kernel) ⟨Nat.le_of_ble_eq_true rfl, Nat.le_of_ble_eq_true rfl⟩) ⟨cDbl, (va_recv hK hPc (ci := iX2) (q0 := 0) rfl rfl), (cDpre hPc hK hN hDc)⟩ rfl rfl hl.1 rfl (lv_room (Nat.le_of_ble_eq_true rfl)) dX2_join_40 ⟨(Nat.le_of_ble_eq_true rfl), (Nat.le_of_ble_eq_true rfl)⟩) hS (fun q _ h => hFc q h) hFc (fun u t H1 locs ht hvm hw_r_6 hB hz1 hk1 hS => ?_)
  refine W.widen (k := 1008) (n := 2016) (by omega) (by omega) ?_
  obtain ⟨hP1, hD1⟩ := hB
  rw [ht] at hP1
  obtain ⟨b1_7, LP1_8, v1_9⟩ := u
  obtain ⟨hP, hD⟩ := va_joinP (wr := []) (rx := [(g, .inr (iX2, [.int (nI n), .ref xa, .ref xt, .ref xm, .ref wh, .ref st, .ref xb, .ref xc])), (xa, .inl (cI, 12, .inl (ax))), (xt, .inl (cI, 12, .inl (te))), (xm, .inl (cI, 12, .inl (jnF me i j))), (xb, .inl (cF, 7, .inr (.inr (.inr (.inr (b1_7))))))]) (pl1 := va_pl LP1_8 (fe v1_9)) hP hD [0, 1, 2, 3, 4] [] rfl rfl (by decide) (by decide) hk1 hFc hP1 hD1
  have hD := hD.part (cx := [(g, .inr (iX2, [.int (nI n), .ref xa, .ref xt, .ref xm, .ref wh, .ref st, .ref xb, .ref xc])), (xa, .inl (cI, 12, .inl (ax))), (xt, .inl (cI, 12, .inl (te))), (xm, .inl (cI, 12, .inl (jnF me i j))), (xb, .inl (cF, 7, .inr (.inr (.inr (.inr (b1_7))))))]) [0, 1, 2, 3, 4] (by decide) rfl
  have hP : va_P (dC, dI) vwCl ([(g, .inr (iX2, [.int (nI n), .ref xa, .ref xt, .ref xm, .ref wh, .ref st, .ref xb, .ref xc])), (xa, .inl (cI, 12, .inl (ax))), (xt, .inl (cI, 12, .inl (te))), (xm, .inl (cI, 12, .inl (jnF me i j))), (xb, .inl (cF, 7, .inr (.inr (.inr (.inr (b1_7))))))] ++ va_pl LP1_8 (fe v1_9)) H1 := hP.part [0, 1, 2, 3, 4] rfl
  generalize H1 = H at hP hS ⊢
  have hP : va_P (dC, dI) vwCl ([(g, .inr (iX2, [.int (nI n), .ref xa, .ref xt, .ref xm, .ref wh, .ref st, .ref xb, .ref xc])), (xa, .inl (cI, 12, .inl (ax))), (xt, .inl (cI, 12, .inl (te))), (xm, .inl (cI, 12, .inl (jnF me i j))), (xb, .inl (cF, 7, .inr (.inr (.inr (.inr (b1_7))))))] ++ va_pl LP1_8 (fe v1_9)) H := hP
  have hD : va_D A ([(g, .inr (iX2, [.int (nI n), .ref xa, .ref xt, .ref xm, .ref wh, .ref st, .ref xb, .ref xc])), (xa, .inl (cI, 12, .inl (ax))), (xt, .inl (cI, 12, .inl (te))), (xm, .inl (cI, 12, .inl (jnF me i j))), (xb, .inl (cF, 7, .inr (.inr (.inr (.inr (b1_7))))))] ++ va_pl LP1_8 (fe v1_9)) := hD
  try dsimp only at hw_r_6
  refine W.widen (k := 1008) (n := 2016) (by omega) (by omega) ?_
  exact W.vret hx hb hr (fun t ht hW => ⟨⟨(b1_7, LP1_8, v1_9), rfl, hw_r_6, by rw [ht]; exact hP, hAe ▸ hD⟩, hS.F ht⟩) hS.2.2 dX2_join_43

set_option maxHeartbeats 4000000 in
set_option maxRecDepth 100000 in
theorem c_X2_separate (l : Launch) (dC : Nat → ClassId) (dI : Nat → Nat → Nat) (cI cF : ClassId) (tr : List (ClassId × FieldType)) (sz : Nat) (g : Nat) (n : Nat) (xa : Nat) (xt : Nat) (xm : Nat) (wh : Nat) (st : Nat) (xb : Nat) (xc : Nat) (ax : Nat → Int32) (te : Nat → Int32) (me : Nat → Int32) (bc : Nat → Option Nat) (LP : List Nat) (v : Nat → Int64 × Int64) (i : Int32) (j : Int32) (hbk : bOK LP bc) (hn : n ≤ 12) (hwh : wh ∈ LP) : Met l yX2_separate wsX2_separate ({ frames := 5, cells := 1008, slots := 2016, locals := 131 } : Room) (cPd dC dI ((cI, .int) :: (cF, .object RX1) :: tr) sz ([(g, .inr (iX2, [.int (nI n), .ref xa, .ref xt, .ref xm, .ref wh, .ref st, .ref xb, .ref xc])), (xa, .inl (cI, 12, .inl (ax))), (xt, .inl (cI, 12, .inl (te))), (xm, .inl (cI, 12, .inl (me))), (xb, .inl (cF, 7, .inr (.inr (.inr (.inr (bc))))))] ++ va_pl LP (fe v)) [.ref g, .int i, .int j]) (va_Qv (fun u : (Nat → Option Nat) × List Nat × (Nat → Int64 × Int64) => bOK u.2.1 u.1 ∧ keepL LP u.2.1 v u.2.2 ∧ abR u.1 u.2.2 = sprF ax te (seF me i j) n 0 (v wh)) (fun ⟨b1, LP1, v1⟩ t => va_P (dC, dI) vwCl ([(g, .inr (iX2, [.int (nI n), .ref xa, .ref xt, .ref xm, .ref wh, .ref st, .ref xb, .ref xc])), (xa, .inl (cI, 12, .inl (ax))), (xt, .inl (cI, 12, .inl (te))), (xm, .inl (cI, 12, .inl (seF me i j))), (xb, .inl (cF, 7, .inr (.inr (.inr (.inr (b1))))))] ++ va_pl LP1 (fe v1)) t.heap ∧ va_D (va_A ([(g, .inr (iX2, [.int (nI n), .ref xa, .ref xt, .ref xm, .ref wh, .ref st, .ref xb, .ref xc])), (xa, .inl (cI, 12, .inl (ax))), (xt, .inl (cI, 12, .inl (te))), (xm, .inl (cI, 12, .inl (me))), (xb, .inl (cF, 7, .inr (.inr (.inr (.inr (bc))))))] ++ va_pl LP (fe v)) sz) ([(g, .inr (iX2, [.int (nI n), .ref xa, .ref xt, .ref xm, .ref wh, .ref st, .ref xb, .ref xc])), (xa, .inl (cI, 12, .inl (ax))), (xt, .inl (cI, 12, .inl (te))), (xm, .inl (cI, 12, .inl (seF me i j))), (xb, .inl (cF, 7, .inr (.inr (.inr (.inr (b1))))))] ++ va_pl LP1 (fe v1))) (va_A ([(g, .inr (iX2, [.int (nI n), .ref xa, .ref xt, .ref xm, .ref wh, .ref st, .ref xb, .ref xc])), (xa, .inl (cI, 12, .inl (ax))), (xt, .inl (cI, 12, .inl (te))), (xm, .inl (cI, 12, .inl (me))), (xb, .inl (cF, 7, .inr (.inr (.inr (.inr (bc))))))] ++ va_pl LP (fe v)) sz)) 1008 2016 (va_A ([(g, .inr (iX2, [.int (nI n), .ref xa, .ref xt, .ref xm, .ref wh, .ref st, .ref xb, .ref xc])), (xa, .inl (cI, 12, .inl (ax))), (xt, .inl (cI, 12, .inl (te))), (xm, .inl (cI, 12, .inl (me))), (xb, .inl (cF, 7, .inr (.inr (.inr (.inr (bc))))))] ++ va_pl LP (fe v)) sz) := by
  refine Met.ofW (cc := cX2_separate) (maxL := 3) (ret := none) (by decide) rfl ?_
  intro p e s m args below meth c s₁ B hml hv
  obtain ⟨rfl, hsz, hP, hK, hN, hD0⟩ := hv
  have hx := B.exec
  have hb := B.bytes
  have hr := B.returns
  have hts := atoms_spec (ws := wsX2_separate) B.pre
  have hown : s.vm.findClass RX2 = some m.cls := findClass_of_methodNamed B.named
  have hlocks := B.notSynchronized
  subst hsz
  have hD := hD0.self (sz := s.heap.size)
  generalize hAe : va_A ([(g, .inr (iX2, [.int (nI n), .ref xa, .ref xt, .ref xm, .ref wh, .ref st, .ref xb, .ref xc])), (xa, .inl (cI, 12, .inl (ax))), (xt, .inl (cI, 12, .inl (te))), (xm, .inl (cI, 12, .inl (me))), (xb, .inl (cF, 7, .inr (.inr (.inr (.inr (bc))))))] ++ va_pl LP (fe v)) s.heap.size = A at hD ⊢
  have hA : ∀ q : Nat, s.heap.size ≤ q → A q := fun q h => by rw [← hAe]; exact Or.inr h
  have hS : va_S A s.heap s.heap [] := va_S.rf
  have hP : va_P (dC, dI) vwCl ([(g, .inr (iX2, [.int (nI n), .ref xa, .ref xt, .ref xm, .ref wh, .ref st, .ref xb, .ref xc])), (xa, .inl (cI, 12, .inl (ax))), (xt, .inl (cI, 12, .inl (te))), (xm, .inl (cI, 12, .inl (me))), (xb, .inl (cF, 7, .inr (.inr (.inr (.inr (bc))))))] ++ va_pl LP (fe v)) s.heap := hP
  have hl := lv_entry ([.ref g, .int i, .int j]) (n := 3) (Nat.le_of_ble_eq_true rfl)
  rw [lg_entry_eq]
  generalize (lg_sl ([.ref g, .int i, .int j]) ++ List.replicate (3 - (lg_sl ([.ref g, .int i, .int j])).length) Slot.unset).toArray = ls at hl ⊢
  have hl : lv_has ls 3 [(0, .ref g), (1, .int i), (2, .int j)] := hl
  have hfl_18 := hts (.fieldLink RX2 18 "Greenwheels$Gearing" "meshSets" "[I") (by decide +kernel)
  have hin_X2 : ∀ w ∈ u_ws RX2 TX2 8, w ∈ wsX2_separate := by decide +kernel
  have hw_iniX5 := hts (.initialized RX5) (by decide +kernel)
  have hw_staX5_put := hts (.static yX5_put) (by decide +kernel)
  have hfl_33 := hts (.fieldLink RX2 33 "Greenwheels$Gearing" "byCrank" "[LGreenwheels$Fraction;") (by decide +kernel)
  refine lv_aload_n hx hb dX2_separate_0 rfl (lv_at hl 0 rfl) ?_
  refine va_get (D := (dC, dI)) (ci := iX2) (v := .ref xm) (C := RX2) (T := TX2) (N := 8) hx hb hts hin_X2 hown hK hP 0 rfl rfl 3 (by decide) hfl_18 (fun _ h9 => h9) rfl dX2_separate_1 ?_
  refine lv_iload_n hx hb dX2_separate_4 rfl (lv_at hl 1 rfl) ?_
  refine lv_aload_n hx hb dX2_separate_5 rfl (lv_at hl 0 rfl) ?_
  refine lv_iload_n hx hb dX2_separate_6 rfl (lv_at hl 1 rfl) ?_
  have hPc : va_P (dC, dI) vwCl ([(g, .inr (iX2, [.int (nI n), .ref xa, .ref xt, .ref xm, .ref wh, .ref st, .ref xb, .ref xc])), (xm, .inl (cI, 12, .inl (me)))]) _ := hP.sub [0, 3] rfl
  have hFc := frZ hS hA
  refine va_calli (va_runV (As := [.int i]) (rest := [.int i, .ref xm]) ⟨hx, hb, hml, hown, hts⟩ (c_X2_meshedWith l dC dI cI cF tr (s.heap).size g n xa xt xm wh st xb xc me i) (cwV 1 hts gX2_separate_X2_meshedWith rfl rfl rfl (by decide +kernel) ⟨Nat.le_of_ble_eq_true rfl, Nat.le_of_ble_eq_true rfl⟩) ⟨cBl, (va_recv hK hPc (ci := iX2) (q0 := 0) rfl rfl), (cPre hPc hK hN)⟩ rfl rfl hl.1 rfl (lv_room (Nat.le_of_ble_eq_true rfl)) dX2_separate_7 ⟨(Nat.le_of_ble_eq_true rfl), (Nat.le_of_ble_eq_true rfl)⟩) hS (fun q _ h => hFc q h) hFc (fun r_1 u t H1 locs ht hvm hw_r_1 hB hz1 hk1 hS => ?_)
  refine W.widen (k := 0) (n := 0) (Nat.le_refl _) (Nat.le_refl _) ?_
  have hP := keepP hP hk1
  generalize H1 = H at hP hS ⊢
  have hP : va_P (dC, dI) vwCl ([(g, .inr (iX2, [.int (nI n), .ref xa, .ref xt, .ref xm, .ref wh, .ref st, .ref xb, .ref xc])), (xa, .inl (cI, 12, .inl (ax))), (xt, .inl (cI, 12, .inl (te))), (xm, .inl (cI, 12, .inl (me))), (xb, .inl (cF, 7, .inr (.inr (.inr (.inr (bc))))))] ++ va_pl LP (fe v)) H := hP
  try dsimp only at hw_r_1
  subst hw_r_1
  refine lv_iconst (v := 1) hx hb dX2_separate_10 (by decide) ?_
  refine lv_iload_n hx hb dX2_separate_11 rfl (lv_at hl 2 rfl) ?_
  refine lv_ishl hx hb dX2_separate_12 ?_
  refine lv_iconst (v := (-1)) hx hb dX2_separate_13 (by decide) ?_
  refine lv_ixor hx hb dX2_separate_14 ?_
  refine lv_iand hx hb dX2_separate_15 ?_
  have hPc : va_P (dC, dI) vwCl ([(xm, .inl (cI, 12, .inl (me)))]) _ := hP.sub [3] rfl
  have hDc : va_D (fun _ => True) ([(xm, .inl (cI, 12, .inl (me)))]) := (hD.sub (ws' := [(xm, .inl (cI, 12, .inl (me)))]) [3] (by decide) rfl).weaken (fun _ _ _ _ => trivial)
  have hFc := va_free (wc := [(xm, .inl (cI, 12, .inl (me)))]) hD hS hA [3] rfl
  refine va_callv (va_runSN (host := RX5) (As := [.ref xm, .int i, .int ((atF 12 me i) &&& ((1 <<< (j &&& 31)) ^^^ ((-1))))]) (rest := []) ⟨hx, hb, hml, hown, hts⟩ (c_X5_put l dC dI cI cF tr (H).size xm 12 me i ((atF 12 me i) &&& ((1 <<< (j &&& 31)) ^^^ ((-1)))) (by decide)) ⟨va_cnB 3 hts gX2_separate_X5_put_n48 rfl rfl rfl (nwAt hN (RX2, 48, yX5_put) (by decide +kernel)) hw_iniX5 (by decide +kernel) ⟨Nat.le_of_ble_eq_true rfl, Nat.le_of_ble_eq_true rfl⟩, hw_staX5_put, trivial⟩ ⟨cDbl, (cDpre hPc hK hN hDc)⟩ rfl rfl hl.1 rfl (lv_room (Nat.le_of_ble_eq_true rfl)) dX2_separate_16 ⟨(Nat.le_of_ble_eq_true rfl), (Nat.le_of_ble_eq_true rfl)⟩) hS (fun q _ h => hFc q h) hFc (fun u t H1 locs ht hvm hw_r_2 hB hz1 hk1 hS => ?_)
  refine W.widen (k := 0) (n := 0) (Nat.le_refl _) (Nat.le_refl _) ?_
  obtain ⟨hP1, hD1⟩ := hB
  rw [ht] at hP1
  obtain ⟨hP, hD⟩ := va_joinQ (wr := [(g, .inr (iX2, [.int (nI n), .ref xa, .ref xt, .ref xm, .ref wh, .ref st, .ref xb, .ref xc])), (xa, .inl (cI, 12, .inl (ax))), (xt, .inl (cI, 12, .inl (te))), (xb, .inl (cF, 7, .inr (.inr (.inr (.inr (bc))))))]) (w1 := [(xm, .inl (cI, 12, .inl (putF 12 me i ((atF 12 me i) &&& ((1 <<< (j &&& 31)) ^^^ ((-1)))))))]) hP hD [3] [0, 1, 2, 4] rfl rfl (by decide) (by decide) hk1 hFc hP1 hD1
  have hD := hD.part (cx := [(g, .inr (iX2, [.int (nI n), .ref xa, .ref xt, .ref xm, .ref wh, .ref st, .ref xb, .ref xc])), (xa, .inl (cI, 12, .inl (ax))), (xt, .inl (cI, 12, .inl (te))), (xm, .inl (cI, 12, .inl (putF 12 me i ((atF 12 me i) &&& ((1 <<< (j &&& 31)) ^^^ ((-1))))))), (xb, .inl (cF, 7, .inr (.inr (.inr (.inr (bc))))))]) [0, 1, 2, 4, 3] (by decide) rfl
  have hP : va_P (dC, dI) vwCl ([(g, .inr (iX2, [.int (nI n), .ref xa, .ref xt, .ref xm, .ref wh, .ref st, .ref xb, .ref xc])), (xa, .inl (cI, 12, .inl (ax))), (xt, .inl (cI, 12, .inl (te))), (xm, .inl (cI, 12, .inl (putF 12 me i ((atF 12 me i) &&& ((1 <<< (j &&& 31)) ^^^ ((-1))))))), (xb, .inl (cF, 7, .inr (.inr (.inr (.inr (bc))))))] ++ va_pl LP (fe v)) H1 := hP.part [0, 1, 2, 4, 3] rfl
  generalize H1 = H at hP hS ⊢
  have hP : va_P (dC, dI) vwCl ([(g, .inr (iX2, [.int (nI n), .ref xa, .ref xt, .ref xm, .ref wh, .ref st, .ref xb, .ref xc])), (xa, .inl (cI, 12, .inl (ax))), (xt, .inl (cI, 12, .inl (te))), (xm, .inl (cI, 12, .inl (putF 12 me i ((atF 12 me i) &&& ((1 <<< (j &&& 31)) ^^^ ((-1))))))), (xb, .inl (cF, 7, .inr (.inr (.inr (.inr (bc))))))] ++ va_pl LP (fe v)) H := hP
  have hD : va_D A ([(g, .inr (iX2, [.int (nI n), .ref xa, .ref xt, .ref xm, .ref wh, .ref st, .ref xb, .ref xc])), (xa, .inl (cI, 12, .inl (ax))), (xt, .inl (cI, 12, .inl (te))), (xm, .inl (cI, 12, .inl (putF 12 me i ((atF 12 me i) &&& ((1 <<< (j &&& 31)) ^^^ ((-1))))))), (xb, .inl (cF, 7, .inr (.inr (.inr (.inr (bc))))))] ++ va_pl LP (fe v)) := hD
  try dsimp only at hw_r_2
  refine lv_aload_n hx hb dX2_separate_19 rfl (lv_at hl 0 rfl) ?_
  refine va_get (D := (dC, dI)) (ci := iX2) (v := .ref xm) (C := RX2) (T := TX2) (N := 8) hx hb hts hin_X2 hown hK hP 0 rfl rfl 3 (by decide) hfl_18 (fun _ h9 => h9) rfl dX2_separate_20 ?_
  refine lv_iload_n hx hb dX2_separate_23 rfl (lv_at hl 2 rfl) ?_
  refine lv_aload_n hx hb dX2_separate_24 rfl (lv_at hl 0 rfl) ?_
  refine lv_iload_n hx hb dX2_separate_25 rfl (lv_at hl 2 rfl) ?_
  have hPc : va_P (dC, dI) vwCl ([(g, .inr (iX2, [.int (nI n), .ref xa, .ref xt, .ref xm, .ref wh, .ref st, .ref xb, .ref xc])), (xm, .inl (cI, 12, .inl (putF 12 me i ((atF 12 me i) &&& ((1 <<< (j &&& 31)) ^^^ ((-1)))))))]) _ := hP.sub [0, 3] rfl
  have hFc := frZ hS hA
  refine va_calli (va_runV (As := [.int j]) (rest := [.int j, .ref xm]) ⟨hx, hb, hml, hown, hts⟩ (c_X2_meshedWith l dC dI cI cF tr (H).size g n xa xt xm wh st xb xc (putF 12 me i ((atF 12 me i) &&& ((1 <<< (j &&& 31)) ^^^ ((-1))))) j) (cwV 1 hts gX2_separate_X2_meshedWith rfl rfl rfl (by decide +kernel) ⟨Nat.le_of_ble_eq_true rfl, Nat.le_of_ble_eq_true rfl⟩) ⟨cBl, (va_recv hK hPc (ci := iX2) (q0 := 0) rfl rfl), (cPre hPc hK hN)⟩ rfl rfl hl.1 rfl (lv_room (Nat.le_of_ble_eq_true rfl)) dX2_separate_26 ⟨(Nat.le_of_ble_eq_true rfl), (Nat.le_of_ble_eq_true rfl)⟩) hS (fun q _ h => hFc q h) hFc (fun r_3 u t H1 locs ht hvm hw_r_3 hB hz1 hk1 hS => ?_)
  refine W.widen (k := 0) (n := 0) (Nat.le_refl _) (Nat.le_refl _) ?_
  have hP := keepP hP hk1
  generalize H1 = H at hP hS ⊢
  have hP : va_P (dC, dI) vwCl ([(g, .inr (iX2, [.int (nI n), .ref xa, .ref xt, .ref xm, .ref wh, .ref st, .ref xb, .ref xc])), (xa, .inl (cI, 12, .inl (ax))), (xt, .inl (cI, 12, .inl (te))), (xm, .inl (cI, 12, .inl (putF 12 me i ((atF 12 me i) &&& ((1 <<< (j &&& 31)) ^^^ ((-1))))))), (xb, .inl (cF, 7, .inr (.inr (.inr (.inr (bc))))))] ++ va_pl LP (fe v)) H := hP
  try dsimp only at hw_r_3
  subst hw_r_3
  refine lv_iconst (v := 1) hx hb dX2_separate_29 (by decide) ?_
  refine lv_iload_n hx hb dX2_separate_30 rfl (lv_at hl 1 rfl) ?_
  refine lv_ishl hx hb dX2_separate_31 ?_
  refine lv_iconst (v := (-1)) hx hb dX2_separate_32 (by decide) ?_
  refine lv_ixor hx hb dX2_separate_33 ?_
  refine lv_iand hx hb dX2_separate_34 ?_
  have hPc : va_P (dC, dI) vwCl ([(xm, .inl (cI, 12, .inl (putF 12 me i ((atF 12 me i) &&& ((1 <<< (j &&& 31)) ^^^ ((-1)))))))]) _ := hP.sub [3] rfl
  have hDc : va_D (fun _ => True) ([(xm, .inl (cI, 12, .inl (putF 12 me i ((atF 12 me i) &&& ((1 <<< (j &&& 31)) ^^^ ((-1)))))))]) := (hD.sub (ws' := [(xm, .inl (cI, 12, .inl (putF 12 me i ((atF 12 me i) &&& ((1 <<< (j &&& 31)) ^^^ ((-1)))))))]) [3] (by decide) rfl).weaken (fun _ _ _ _ => trivial)
  have hFc := va_free (wc := [(xm, .inl (cI, 12, .inl (putF 12 me i ((atF 12 me i) &&& ((1 <<< (j &&& 31)) ^^^ ((-1)))))))]) hD hS hA [3] rfl
  refine va_callv (va_runSN (host := RX5) (As := [.ref xm, .int j, .int ((atF 12 (putF 12 me i ((atF 12 me i) &&& ((1 <<< (j &&& 31)) ^^^ ((-1))))) j) &&& ((1 <<< (i &&& 31)) ^^^ ((-1))))]) (rest := []) ⟨hx, hb, hml, hown, hts⟩ (c_X5_put l dC dI cI cF tr (H).size xm 12 (putF 12 me i ((atF 12 me i) &&& ((1 <<< (j &&& 31)) ^^^ ((-1))))) j ((atF 12 (putF 12 me i ((atF 12 me i) &&& ((1 <<< (j &&& 31)) ^^^ ((-1))))) j) &&& ((1 <<< (i &&& 31)) ^^^ ((-1)))) (by decide)) ⟨va_cnB 3 hts gX2_separate_X5_put_n48 rfl rfl rfl (nwAt hN (RX2, 48, yX5_put) (by decide +kernel)) hw_iniX5 (by decide +kernel) ⟨Nat.le_of_ble_eq_true rfl, Nat.le_of_ble_eq_true rfl⟩, hw_staX5_put, trivial⟩ ⟨cDbl, (cDpre hPc hK hN hDc)⟩ rfl rfl hl.1 rfl (lv_room (Nat.le_of_ble_eq_true rfl)) dX2_separate_35 ⟨(Nat.le_of_ble_eq_true rfl), (Nat.le_of_ble_eq_true rfl)⟩) hS (fun q _ h => hFc q h) hFc (fun u t H1 locs ht hvm hw_r_4 hB hz1 hk1 hS => ?_)
  refine W.widen (k := 0) (n := 0) (Nat.le_refl _) (Nat.le_refl _) ?_
  obtain ⟨hP1, hD1⟩ := hB
  rw [ht] at hP1
  obtain ⟨hP, hD⟩ := va_joinQ (wr := [(g, .inr (iX2, [.int (nI n), .ref xa, .ref xt, .ref xm, .ref wh, .ref st, .ref xb, .ref xc])), (xa, .inl (cI, 12, .inl (ax))), (xt, .inl (cI, 12, .inl (te))), (xb, .inl (cF, 7, .inr (.inr (.inr (.inr (bc))))))]) (w1 := [(xm, .inl (cI, 12, .inl (putF 12 (putF 12 me i ((atF 12 me i) &&& ((1 <<< (j &&& 31)) ^^^ ((-1))))) j ((atF 12 (putF 12 me i ((atF 12 me i) &&& ((1 <<< (j &&& 31)) ^^^ ((-1))))) j) &&& ((1 <<< (i &&& 31)) ^^^ ((-1)))))))]) hP hD [3] [0, 1, 2, 4] rfl rfl (by decide) (by decide) hk1 hFc hP1 hD1
  have hD := hD.part (cx := [(g, .inr (iX2, [.int (nI n), .ref xa, .ref xt, .ref xm, .ref wh, .ref st, .ref xb, .ref xc])), (xa, .inl (cI, 12, .inl (ax))), (xt, .inl (cI, 12, .inl (te))), (xm, .inl (cI, 12, .inl (putF 12 (putF 12 me i ((atF 12 me i) &&& ((1 <<< (j &&& 31)) ^^^ ((-1))))) j ((atF 12 (putF 12 me i ((atF 12 me i) &&& ((1 <<< (j &&& 31)) ^^^ ((-1))))) j) &&& ((1 <<< (i &&& 31)) ^^^ ((-1))))))), (xb, .inl (cF, 7, .inr (.inr (.inr (.inr (bc))))))]) [0, 1, 2, 4, 3] (by decide) rfl
  have hP : va_P (dC, dI) vwCl ([(g, .inr (iX2, [.int (nI n), .ref xa, .ref xt, .ref xm, .ref wh, .ref st, .ref xb, .ref xc])), (xa, .inl (cI, 12, .inl (ax))), (xt, .inl (cI, 12, .inl (te))), (xm, .inl (cI, 12, .inl (putF 12 (putF 12 me i ((atF 12 me i) &&& ((1 <<< (j &&& 31)) ^^^ ((-1))))) j ((atF 12 (putF 12 me i ((atF 12 me i) &&& ((1 <<< (j &&& 31)) ^^^ ((-1))))) j) &&& ((1 <<< (i &&& 31)) ^^^ ((-1))))))), (xb, .inl (cF, 7, .inr (.inr (.inr (.inr (bc))))))] ++ va_pl LP (fe v)) H1 := hP.part [0, 1, 2, 4, 3] rfl
  generalize H1 = H at hP hS ⊢
  have hP : va_P (dC, dI) vwCl ([(g, .inr (iX2, [.int (nI n), .ref xa, .ref xt, .ref xm, .ref wh, .ref st, .ref xb, .ref xc])), (xa, .inl (cI, 12, .inl (ax))), (xt, .inl (cI, 12, .inl (te))), (xm, .inl (cI, 12, .inl (putF 12 (putF 12 me i ((atF 12 me i) &&& ((1 <<< (j &&& 31)) ^^^ ((-1))))) j ((atF 12 (putF 12 me i ((atF 12 me i) &&& ((1 <<< (j &&& 31)) ^^^ ((-1))))) j) &&& ((1 <<< (i &&& 31)) ^^^ ((-1))))))), (xb, .inl (cF, 7, .inr (.inr (.inr (.inr (bc))))))] ++ va_pl LP (fe v)) H := hP
  have hD : va_D A ([(g, .inr (iX2, [.int (nI n), .ref xa, .ref xt, .ref xm, .ref wh, .ref st, .ref xb, .ref xc])), (xa, .inl (cI, 12, .inl (ax))), (xt, .inl (cI, 12, .inl (te))), (xm, .inl (cI, 12, .inl (putF 12 (putF 12 me i ((atF 12 me i) &&& ((1 <<< (j &&& 31)) ^^^ ((-1))))) j ((atF 12 (putF 12 me i ((atF 12 me i) &&& ((1 <<< (j &&& 31)) ^^^ ((-1))))) j) &&& ((1 <<< (i &&& 31)) ^^^ ((-1))))))), (xb, .inl (cF, 7, .inr (.inr (.inr (.inr (bc))))))] ++ va_pl LP (fe v)) := hD
  try dsimp only at hw_r_4
  have eq_5 : ([(g, .inr (iX2, [.int (nI n), .ref xa, .ref xt, .ref xm, .ref wh, .ref st, .ref xb, .ref xc])), (xa, .inl (cI, 12, .inl (ax))), (xt, .inl (cI, 12, .inl (te))), (xm, .inl (cI, 12, .inl (putF 12 (putF 12 me i ((atF 12 me i) &&& ((1 <<< (j &&& 31)) ^^^ ((-1))))) j ((atF 12 (putF 12 me i ((atF 12 me i) &&& ((1 <<< (j &&& 31)) ^^^ ((-1))))) j) &&& ((1 <<< (i &&& 31)) ^^^ ((-1))))))), (xb, .inl (cF, 7, .inr (.inr (.inr (.inr (bc))))))] : va_W) = [(g, .inr (iX2, [.int (nI n), .ref xa, .ref xt, .ref xm, .ref wh, .ref st, .ref xb, .ref xc])), (xa, .inl (cI, 12, .inl (ax))), (xt, .inl (cI, 12, .inl (te))), (xm, .inl (cI, 12, .inl (seF me i j))), (xb, .inl (cF, 7, .inr (.inr (.inr (.inr (bc))))))] := rfl
  rw [eq_5] at hP hD
  refine lv_aload_n hx hb dX2_separate_38 rfl (lv_at hl 0 rfl) ?_
  refine lv_iconst (v := 0) hx hb dX2_separate_39 (by decide) ?_
  refine lv_aload_n hx hb dX2_separate_40 rfl (lv_at hl 0 rfl) ?_
  refine va_get (D := (dC, dI)) (ci := iX2) (v := .ref xb) (C := RX2) (T := TX2) (N := 8) hx hb hts hin_X2 hown hK hP 0 rfl rfl 6 (by decide) hfl_33 (fun _ h9 => h9) rfl dX2_separate_41 ?_
  have hPc : va_P (dC, dI) vwCl ([(g, .inr (iX2, [.int (nI n), .ref xa, .ref xt, .ref xm, .ref wh, .ref st, .ref xb, .ref xc])), (xa, .inl (cI, 12, .inl (ax))), (xt, .inl (cI, 12, .inl (te))), (xm, .inl (cI, 12, .inl (seF me i j))), (xb, .inl (cF, 7, .inr (.inr (.inr (.inr (bc))))))] ++ va_pl LP (fe v)) _ := hP.part [0, 1, 2, 3, 4] rfl
  have hDc : va_D (fun _ => True) ([(g, .inr (iX2, [.int (nI n), .ref xa, .ref xt, .ref xm, .ref wh, .ref st, .ref xb, .ref xc])), (xa, .inl (cI, 12, .inl (ax))), (xt, .inl (cI, 12, .inl (te))), (xm, .inl (cI, 12, .inl (seF me i j))), (xb, .inl (cF, 7, .inr (.inr (.inr (.inr (bc))))))] ++ va_pl LP (fe v)) := (hD.part (cx := [(g, .inr (iX2, [.int (nI n), .ref xa, .ref xt, .ref xm, .ref wh, .ref st, .ref xb, .ref xc])), (xa, .inl (cI, 12, .inl (ax))), (xt, .inl (cI, 12, .inl (te))), (xm, .inl (cI, 12, .inl (seF me i j))), (xb, .inl (cF, 7, .inr (.inr (.inr (.inr (bc))))))]) [0, 1, 2, 3, 4] (by decide) rfl).weaken (fun _ _ _ _ => trivial)
  have hFc := va_freeP (cx := [(g, .inr (iX2, [.int (nI n), .ref xa, .ref xt, .ref xm, .ref wh, .ref st, .ref xb, .ref xc])), (xa, .inl (cI, 12, .inl (ax))), (xt, .inl (cI, 12, .inl (te))), (xm, .inl (cI, 12, .inl (seF me i j))), (xb, .inl (cF, 7, .inr (.inr (.inr (.inr (bc))))))]) hD hS hA [0, 1, 2, 3, 4] rfl
  refine va_callv (va_runV (As := [.int 0, .ref xb]) (rest := []) ⟨hx, hb, hml, hown, hts⟩ (c_X2_spreadRates l dC dI cI cF tr (H).size g n xa xt xm wh st xb xc ax te (seF me i j) xb bc LP v 0 (by assumption) (by assumption) (by assumption)) (cwV 2 hts gX2_separate_X2_spreadRates rfl rfl rfl (by decide +kernel) ⟨Nat.le_of_ble_eq_true rfl, Nat.le_of_ble_eq_true rfl⟩) ⟨cDbl, (va_recv hK hPc (ci := iX2) (q0 := 0) rfl rfl), (cDpre hPc hK hN hDc)⟩ rfl rfl hl.1 rfl (lv_room (Nat.le_of_ble_eq_true rfl)) dX2_separate_44 ⟨(Nat.le_of_ble_eq_true rfl), (Nat.le_of_ble_eq_true rfl)⟩) hS (fun q _ h => hFc q h) hFc (fun u t H1 locs ht hvm hw_r_6 hB hz1 hk1 hS => ?_)
  refine W.widen (k := 1008) (n := 2016) (by omega) (by omega) ?_
  obtain ⟨hP1, hD1⟩ := hB
  rw [ht] at hP1
  obtain ⟨b1_7, LP1_8, v1_9⟩ := u
  obtain ⟨hP, hD⟩ := va_joinP (wr := []) (rx := [(g, .inr (iX2, [.int (nI n), .ref xa, .ref xt, .ref xm, .ref wh, .ref st, .ref xb, .ref xc])), (xa, .inl (cI, 12, .inl (ax))), (xt, .inl (cI, 12, .inl (te))), (xm, .inl (cI, 12, .inl (seF me i j))), (xb, .inl (cF, 7, .inr (.inr (.inr (.inr (b1_7))))))]) (pl1 := va_pl LP1_8 (fe v1_9)) hP hD [0, 1, 2, 3, 4] [] rfl rfl (by decide) (by decide) hk1 hFc hP1 hD1
  have hD := hD.part (cx := [(g, .inr (iX2, [.int (nI n), .ref xa, .ref xt, .ref xm, .ref wh, .ref st, .ref xb, .ref xc])), (xa, .inl (cI, 12, .inl (ax))), (xt, .inl (cI, 12, .inl (te))), (xm, .inl (cI, 12, .inl (seF me i j))), (xb, .inl (cF, 7, .inr (.inr (.inr (.inr (b1_7))))))]) [0, 1, 2, 3, 4] (by decide) rfl
  have hP : va_P (dC, dI) vwCl ([(g, .inr (iX2, [.int (nI n), .ref xa, .ref xt, .ref xm, .ref wh, .ref st, .ref xb, .ref xc])), (xa, .inl (cI, 12, .inl (ax))), (xt, .inl (cI, 12, .inl (te))), (xm, .inl (cI, 12, .inl (seF me i j))), (xb, .inl (cF, 7, .inr (.inr (.inr (.inr (b1_7))))))] ++ va_pl LP1_8 (fe v1_9)) H1 := hP.part [0, 1, 2, 3, 4] rfl
  generalize H1 = H at hP hS ⊢
  have hP : va_P (dC, dI) vwCl ([(g, .inr (iX2, [.int (nI n), .ref xa, .ref xt, .ref xm, .ref wh, .ref st, .ref xb, .ref xc])), (xa, .inl (cI, 12, .inl (ax))), (xt, .inl (cI, 12, .inl (te))), (xm, .inl (cI, 12, .inl (seF me i j))), (xb, .inl (cF, 7, .inr (.inr (.inr (.inr (b1_7))))))] ++ va_pl LP1_8 (fe v1_9)) H := hP
  have hD : va_D A ([(g, .inr (iX2, [.int (nI n), .ref xa, .ref xt, .ref xm, .ref wh, .ref st, .ref xb, .ref xc])), (xa, .inl (cI, 12, .inl (ax))), (xt, .inl (cI, 12, .inl (te))), (xm, .inl (cI, 12, .inl (seF me i j))), (xb, .inl (cF, 7, .inr (.inr (.inr (.inr (b1_7))))))] ++ va_pl LP1_8 (fe v1_9)) := hD
  try dsimp only at hw_r_6
  refine W.widen (k := 1008) (n := 2016) (by omega) (by omega) ?_
  exact W.vret hx hb hr (fun t ht hW => ⟨⟨(b1_7, LP1_8, v1_9), rfl, hw_r_6, by rw [ht]; exact hP, hAe ▸ hD⟩, hS.F ht⟩) hS.2.2 dX2_separate_47

set_option maxHeartbeats 4000000 in
set_option maxRecDepth 100000 in
theorem c_X2_wouldJam (l : Launch) (dC : Nat → ClassId) (dI : Nat → Nat → Nat) (cI cF : ClassId) (tr : List (ClassId × FieldType)) (sz : Nat) (g : Nat) (n : Nat) (xa : Nat) (xt : Nat) (xm : Nat) (wh : Nat) (st : Nat) (xb : Nat) (xc : Nat) (ax : Nat → Int32) (te : Nat → Int32) (me : Nat → Int32) (ba : Nat → Option Nat) (LP : List Nat) (v : Nat → Int64 × Int64) (i : Int32) (j : Int32) (hbk : bOK LP ba) (hn : n ≤ 12) (hwh : wh ∈ LP) : Met l yX2_wouldJam wsX2_wouldJam ({ frames := 5, cells := 1009, slots := 2018, locals := 131 } : Room) (cPd dC dI ((cI, .int) :: (cF, .object RX1) :: tr) sz ([(g, .inr (iX2, [.int (nI n), .ref xa, .ref xt, .ref xm, .ref wh, .ref st, .ref xb, .ref xc])), (xa, .inl (cI, 12, .inl (ax))), (xt, .inl (cI, 12, .inl (te))), (xm, .inl (cI, 12, .inl (me))), (xc, .inl (cF, 7, .inr (.inr (.inr (.inr (ba))))))] ++ va_pl LP (fe v)) [.ref g, .int i, .int j]) (va_Qi (fun (r : Int32) (u : (Nat → Option Nat) × List Nat × (Nat → Int64 × Int64)) => r = wjF ax te me n (v wh) i j ∧ bOK u.2.1 u.1 ∧ keepL LP u.2.1 v u.2.2) (fun ⟨b1, LP1, v1⟩ t => va_P (dC, dI) vwCl ([(g, .inr (iX2, [.int (nI n), .ref xa, .ref xt, .ref xm, .ref wh, .ref st, .ref xb, .ref xc])), (xa, .inl (cI, 12, .inl (ax))), (xt, .inl (cI, 12, .inl (te))), (xm, .inl (cI, 12, .inl (me))), (xc, .inl (cF, 7, .inr (.inr (.inr (.inr (b1))))))] ++ va_pl LP1 (fe v1)) t.heap ∧ va_D (va_A ([(g, .inr (iX2, [.int (nI n), .ref xa, .ref xt, .ref xm, .ref wh, .ref st, .ref xb, .ref xc])), (xa, .inl (cI, 12, .inl (ax))), (xt, .inl (cI, 12, .inl (te))), (xm, .inl (cI, 12, .inl (me))), (xc, .inl (cF, 7, .inr (.inr (.inr (.inr (ba))))))] ++ va_pl LP (fe v)) sz) ([(g, .inr (iX2, [.int (nI n), .ref xa, .ref xt, .ref xm, .ref wh, .ref st, .ref xb, .ref xc])), (xa, .inl (cI, 12, .inl (ax))), (xt, .inl (cI, 12, .inl (te))), (xm, .inl (cI, 12, .inl (me))), (xc, .inl (cF, 7, .inr (.inr (.inr (.inr (b1))))))] ++ va_pl LP1 (fe v1))) (va_A ([(g, .inr (iX2, [.int (nI n), .ref xa, .ref xt, .ref xm, .ref wh, .ref st, .ref xb, .ref xc])), (xa, .inl (cI, 12, .inl (ax))), (xt, .inl (cI, 12, .inl (te))), (xm, .inl (cI, 12, .inl (me))), (xc, .inl (cF, 7, .inr (.inr (.inr (.inr (ba))))))] ++ va_pl LP (fe v)) sz)) 1009 2018 (va_A ([(g, .inr (iX2, [.int (nI n), .ref xa, .ref xt, .ref xm, .ref wh, .ref st, .ref xb, .ref xc])), (xa, .inl (cI, 12, .inl (ax))), (xt, .inl (cI, 12, .inl (te))), (xm, .inl (cI, 12, .inl (me))), (xc, .inl (cF, 7, .inr (.inr (.inr (.inr (ba))))))] ++ va_pl LP (fe v)) sz) := by
  refine Met.ofW (cc := cX2_wouldJam) (maxL := 4) (ret := (some .boolean)) (by decide) rfl ?_
  intro p e s m args below meth c s₁ B hml hv
  obtain ⟨rfl, hsz, hP, hK, hN, hD0⟩ := hv
  have hx := B.exec
  have hb := B.bytes
  have hr := B.returns
  have hts := atoms_spec (ws := wsX2_wouldJam) B.pre
  have hown : s.vm.findClass RX2 = some m.cls := findClass_of_methodNamed B.named
  have hlocks := B.notSynchronized
  subst hsz
  have hD := hD0.self (sz := s.heap.size)
  generalize hAe : va_A ([(g, .inr (iX2, [.int (nI n), .ref xa, .ref xt, .ref xm, .ref wh, .ref st, .ref xb, .ref xc])), (xa, .inl (cI, 12, .inl (ax))), (xt, .inl (cI, 12, .inl (te))), (xm, .inl (cI, 12, .inl (me))), (xc, .inl (cF, 7, .inr (.inr (.inr (.inr (ba))))))] ++ va_pl LP (fe v)) s.heap.size = A at hD ⊢
  have hA : ∀ q : Nat, s.heap.size ≤ q → A q := fun q h => by rw [← hAe]; exact Or.inr h
  have hS : va_S A s.heap s.heap [] := va_S.rf
  have hP : va_P (dC, dI) vwCl ([(g, .inr (iX2, [.int (nI n), .ref xa, .ref xt, .ref xm, .ref wh, .ref st, .ref xb, .ref xc])), (xa, .inl (cI, 12, .inl (ax))), (xt, .inl (cI, 12, .inl (te))), (xm, .inl (cI, 12, .inl (me))), (xc, .inl (cF, 7, .inr (.inr (.inr (.inr (ba))))))] ++ va_pl LP (fe v)) s.heap := hP
  have hl := lv_entry ([.ref g, .int i, .int j]) (n := 4) (Nat.le_of_ble_eq_true rfl)
  rw [lg_entry_eq]
  generalize (lg_sl ([.ref g, .int i, .int j]) ++ List.replicate (4 - (lg_sl ([.ref g, .int i, .int j])).length) Slot.unset).toArray = ls at hl ⊢
  have hl : lv_has ls 4 [(0, .ref g), (1, .int i), (2, .int j)] := hl
  have hfl_37 := hts (.fieldLink RX2 37 "Greenwheels$Gearing" "byAnother" "[LGreenwheels$Fraction;") (by decide +kernel)
  have hin_X2 : ∀ w ∈ u_ws RX2 TX2 8, w ∈ wsX2_wouldJam := by decide +kernel
  have hin_X1 : ∀ w ∈ u_ws RX1 TX1 2, w ∈ wsX2_wouldJam := by decide +kernel
  have hw_cl21 := hts (.classLink RX2 21 RX1) (by decide +kernel)
  have hw_insX1 := hts (.instantiable RX1 2) (by decide +kernel)
  have hw_iniX1 := hts (.initialized RX1) (by decide +kernel)
  have hw_ml23 := hts (.methodLink RX2 23 yX1_init) (by decide +kernel)
  have hw_imX1_init := hts (.instanceMethod yX1_init) (by decide +kernel)
  refine lv_aload_n hx hb dX2_wouldJam_0 rfl (lv_at hl 0 rfl) ?_
  refine lv_aload_n hx hb dX2_wouldJam_1 rfl (lv_at hl 0 rfl) ?_
  refine lv_iload_n hx hb dX2_wouldJam_2 rfl (lv_at hl 1 rfl) ?_
  have hPc : va_P (dC, dI) vwCl ([(g, .inr (iX2, [.int (nI n), .ref xa, .ref xt, .ref xm, .ref wh, .ref st, .ref xb, .ref xc])), (xa, .inl (cI, 12, .inl (ax)))]) _ := hP.sub [0, 1] rfl
  have hFc := frZ hS hA
  refine va_calli (va_runV (As := [.int i]) (rest := [.ref g]) ⟨hx, hb, hml, hown, hts⟩ (c_X2_axleOf l dC dI cI cF tr (s.heap).size g n xa xt xm wh st xb xc ax i) (cwV 1 hts gX2_wouldJam_X2_axleOf rfl rfl rfl (by decide +kernel) ⟨Nat.le_of_ble_eq_true rfl, Nat.le_of_ble_eq_true rfl⟩) ⟨cBl, (va_recv hK hPc (ci := iX2) (q0 := 0) rfl rfl), (cPre hPc hK hN)⟩ rfl rfl hl.1 rfl (lv_room (Nat.le_of_ble_eq_true rfl)) dX2_wouldJam_3 ⟨(Nat.le_of_ble_eq_true rfl), (Nat.le_of_ble_eq_true rfl)⟩) hS (fun q _ h => hFc q h) hFc (fun r_1 u t H1 locs ht hvm hw_r_1 hB hz1 hk1 hS => ?_)
  refine W.widen (k := 0) (n := 0) (Nat.le_refl _) (Nat.le_refl _) ?_
  have hP := keepP hP hk1
  generalize H1 = H at hP hS ⊢
  have hP : va_P (dC, dI) vwCl ([(g, .inr (iX2, [.int (nI n), .ref xa, .ref xt, .ref xm, .ref wh, .ref st, .ref xb, .ref xc])), (xa, .inl (cI, 12, .inl (ax))), (xt, .inl (cI, 12, .inl (te))), (xm, .inl (cI, 12, .inl (me))), (xc, .inl (cF, 7, .inr (.inr (.inr (.inr (ba))))))] ++ va_pl LP (fe v)) H := hP
  try dsimp only at hw_r_1
  subst hw_r_1
  refine lv_aload_n hx hb dX2_wouldJam_6 rfl (lv_at hl 0 rfl) ?_
  refine va_get (D := (dC, dI)) (ci := iX2) (v := .ref xc) (C := RX2) (T := TX2) (N := 8) hx hb hts hin_X2 hown hK hP 0 rfl rfl 7 (by decide) hfl_37 (fun _ h9 => h9) rfl dX2_wouldJam_7 ?_
  have hPc : va_P (dC, dI) vwCl ([(g, .inr (iX2, [.int (nI n), .ref xa, .ref xt, .ref xm, .ref wh, .ref st, .ref xb, .ref xc])), (xa, .inl (cI, 12, .inl (ax))), (xt, .inl (cI, 12, .inl (te))), (xm, .inl (cI, 12, .inl (me))), (xc, .inl (cF, 7, .inr (.inr (.inr (.inr (ba))))))] ++ va_pl LP (fe v)) _ := hP.part [0, 1, 2, 3, 4] rfl
  have hDc : va_D (fun _ => True) ([(g, .inr (iX2, [.int (nI n), .ref xa, .ref xt, .ref xm, .ref wh, .ref st, .ref xb, .ref xc])), (xa, .inl (cI, 12, .inl (ax))), (xt, .inl (cI, 12, .inl (te))), (xm, .inl (cI, 12, .inl (me))), (xc, .inl (cF, 7, .inr (.inr (.inr (.inr (ba))))))] ++ va_pl LP (fe v)) := (hD.part (cx := [(g, .inr (iX2, [.int (nI n), .ref xa, .ref xt, .ref xm, .ref wh, .ref st, .ref xb, .ref xc])), (xa, .inl (cI, 12, .inl (ax))), (xt, .inl (cI, 12, .inl (te))), (xm, .inl (cI, 12, .inl (me))), (xc, .inl (cF, 7, .inr (.inr (.inr (.inr (ba))))))]) [0, 1, 2, 3, 4] (by decide) rfl).weaken (fun _ _ _ _ => trivial)
  have hFc := va_freeP (cx := [(g, .inr (iX2, [.int (nI n), .ref xa, .ref xt, .ref xm, .ref wh, .ref st, .ref xb, .ref xc])), (xa, .inl (cI, 12, .inl (ax))), (xt, .inl (cI, 12, .inl (te))), (xm, .inl (cI, 12, .inl (me))), (xc, .inl (cF, 7, .inr (.inr (.inr (.inr (ba))))))]) hD hS hA [0, 1, 2, 3, 4] rfl
  refine va_callv (va_runV (As := [.int (atF 12 ax i), .ref xc]) (rest := []) ⟨hx, hb, hml, hown, hts⟩ (c_X2_spreadRates l dC dI cI cF tr (H).size g n xa xt xm wh st xb xc ax te me xc ba LP v (atF 12 ax i) (by assumption) (by assumption) (by assumption)) (cwV 2 hts gX2_wouldJam_X2_spreadRates rfl rfl rfl (by decide +kernel) ⟨Nat.le_of_ble_eq_true rfl, Nat.le_of_ble_eq_true rfl⟩) ⟨cDbl, (va_recv hK hPc (ci := iX2) (q0 := 0) rfl rfl), (cDpre hPc hK hN hDc)⟩ rfl rfl hl.1 rfl (lv_room (Nat.le_of_ble_eq_true rfl)) dX2_wouldJam_10 ⟨(Nat.le_of_ble_eq_true rfl), (Nat.le_of_ble_eq_true rfl)⟩) hS (fun q _ h => hFc q h) hFc (fun u t H1 locs ht hvm hw_r_2 hB hz1 hk1 hS => ?_)
  refine W.widen (k := 1008) (n := 2016) (by omega) (by omega) ?_
  obtain ⟨hP1, hD1⟩ := hB
  rw [ht] at hP1
  obtain ⟨b1_3, LP1_4, v1_5⟩ := u
  obtain ⟨hP, hD⟩ := va_joinP (wr := []) (rx := [(g, .inr (iX2, [.int (nI n), .ref xa, .ref xt, .ref xm, .ref wh, .ref st, .ref xb, .ref xc])), (xa, .inl (cI, 12, .inl (ax))), (xt, .inl (cI, 12, .inl (te))), (xm, .inl (cI, 12, .inl (me))), (xc, .inl (cF, 7, .inr (.inr (.inr (.inr (b1_3))))))]) (pl1 := va_pl LP1_4 (fe v1_5)) hP hD [0, 1, 2, 3, 4] [] rfl rfl (by decide) (by decide) hk1 hFc hP1 hD1
  have hD := hD.part (cx := [(g, .inr (iX2, [.int (nI n), .ref xa, .ref xt, .ref xm, .ref wh, .ref st, .ref xb, .ref xc])), (xa, .inl (cI, 12, .inl (ax))), (xt, .inl (cI, 12, .inl (te))), (xm, .inl (cI, 12, .inl (me))), (xc, .inl (cF, 7, .inr (.inr (.inr (.inr (b1_3))))))]) [0, 1, 2, 3, 4] (by decide) rfl
  have hP : va_P (dC, dI) vwCl ([(g, .inr (iX2, [.int (nI n), .ref xa, .ref xt, .ref xm, .ref wh, .ref st, .ref xb, .ref xc])), (xa, .inl (cI, 12, .inl (ax))), (xt, .inl (cI, 12, .inl (te))), (xm, .inl (cI, 12, .inl (me))), (xc, .inl (cF, 7, .inr (.inr (.inr (.inr (b1_3))))))] ++ va_pl LP1_4 (fe v1_5)) H1 := hP.part [0, 1, 2, 3, 4] rfl
  generalize H1 = H at hP hS ⊢
  have hP : va_P (dC, dI) vwCl ([(g, .inr (iX2, [.int (nI n), .ref xa, .ref xt, .ref xm, .ref wh, .ref st, .ref xb, .ref xc])), (xa, .inl (cI, 12, .inl (ax))), (xt, .inl (cI, 12, .inl (te))), (xm, .inl (cI, 12, .inl (me))), (xc, .inl (cF, 7, .inr (.inr (.inr (.inr (b1_3))))))] ++ va_pl LP1_4 (fe v1_5)) H := hP
  have hD : va_D A ([(g, .inr (iX2, [.int (nI n), .ref xa, .ref xt, .ref xm, .ref wh, .ref st, .ref xb, .ref xc])), (xa, .inl (cI, 12, .inl (ax))), (xt, .inl (cI, 12, .inl (te))), (xm, .inl (cI, 12, .inl (me))), (xc, .inl (cF, 7, .inr (.inr (.inr (.inr (b1_3))))))] ++ va_pl LP1_4 (fe v1_5)) := hD
  try dsimp only at hw_r_2
  obtain ⟨hq1, hq2, hq3⟩ := hw_r_2
  refine lv_aload_n hx hb dX2_wouldJam_13 rfl (lv_at hl 0 rfl) ?_
  refine va_get (D := (dC, dI)) (ci := iX2) (v := .ref xc) (C := RX2) (T := TX2) (N := 8) hx hb hts hin_X2 hown hK hP 0 rfl rfl 7 (by decide) hfl_37 (fun _ h9 => h9) rfl dX2_wouldJam_14 ?_
  refine lv_aload_n hx hb dX2_wouldJam_17 rfl (lv_at hl 0 rfl) ?_
  refine lv_iload_n hx hb dX2_wouldJam_18 rfl (lv_at hl 2 rfl) ?_
  have hPc : va_P (dC, dI) vwCl ([(g, .inr (iX2, [.int (nI n), .ref xa, .ref xt, .ref xm, .ref wh, .ref st, .ref xb, .ref xc])), (xa, .inl (cI, 12, .inl (ax)))]) _ := hP.sub [0, 1] rfl
  have hFc := frZ hS hA
  refine va_calli (va_runV (As := [.int j]) (rest := [.ref xc]) ⟨hx, hb, hml, hown, hts⟩ (c_X2_axleOf l dC dI cI cF tr (H).size g n xa xt xm wh st xb xc ax j) (cwV 1 hts gX2_wouldJam_X2_axleOf rfl rfl rfl (by decide +kernel) ⟨Nat.le_of_ble_eq_true rfl, Nat.le_of_ble_eq_true rfl⟩) ⟨cBl, (va_recv hK hPc (ci := iX2) (q0 := 0) rfl rfl), (cPre hPc hK hN)⟩ rfl rfl hl.1 rfl (lv_room (Nat.le_of_ble_eq_true rfl)) dX2_wouldJam_19 ⟨(Nat.le_of_ble_eq_true rfl), (Nat.le_of_ble_eq_true rfl)⟩) hS (fun q _ h => hFc q h) hFc (fun r_6 u t H1 locs ht hvm hw_r_6 hB hz1 hk1 hS => ?_)
  refine W.widen (k := 1008) (n := 2016) (Nat.le_refl _) (Nat.le_refl _) ?_
  have hP := keepP hP hk1
  generalize H1 = H at hP hS ⊢
  have hP : va_P (dC, dI) vwCl ([(g, .inr (iX2, [.int (nI n), .ref xa, .ref xt, .ref xm, .ref wh, .ref st, .ref xb, .ref xc])), (xa, .inl (cI, 12, .inl (ax))), (xt, .inl (cI, 12, .inl (te))), (xm, .inl (cI, 12, .inl (me))), (xc, .inl (cF, 7, .inr (.inr (.inr (.inr (b1_3))))))] ++ va_pl LP1_4 (fe v1_5)) H := hP
  try dsimp only at hw_r_6
  subst hw_r_6
  have hPc : va_P (dC, dI) vwCl ([(xc, .inl (cF, 7, .inr (.inr (.inr (.inr (b1_3))))))]) _ := hP.sub [4] rfl
  have hFc := frZ hS hA
  refine va_callq (va_runS (As := [.ref xc, .int (atF 12 ax j)]) (rest := []) ⟨hx, hb, hml, hown, hts⟩ (c_X2_rateIn l dC dI cI cF tr (H).size xc b1_3 (atF 12 ax j)) (va_cwS 2 hts gX2_wouldJam_X2_rateIn rfl rfl rfl (by decide +kernel) ⟨Nat.le_of_ble_eq_true rfl, Nat.le_of_ble_eq_true rfl⟩) ⟨cBl, (cPre hPc hK hN)⟩ rfl rfl hl.1 rfl (lv_room (Nat.le_of_ble_eq_true rfl)) dX2_wouldJam_22 ⟨(Nat.le_of_ble_eq_true rfl), (Nat.le_of_ble_eq_true rfl)⟩) hS (fun q _ h => hFc q h) hFc (fun r_7 u t H1 locs ht hvm hw_r_7 hB hz1 hk1 hS => ?_)
  refine W.widen (k := 1008) (n := 2016) (Nat.le_refl _) (Nat.le_refl _) ?_
  have hP := keepP hP hk1
  generalize H1 = H at hP hS ⊢
  have hP : va_P (dC, dI) vwCl ([(g, .inr (iX2, [.int (nI n), .ref xa, .ref xt, .ref xm, .ref wh, .ref st, .ref xb, .ref xc])), (xa, .inl (cI, 12, .inl (ax))), (xt, .inl (cI, 12, .inl (te))), (xm, .inl (cI, 12, .inl (me))), (xc, .inl (cF, 7, .inr (.inr (.inr (.inr (b1_3))))))] ++ va_pl LP1_4 (fe v1_5)) H := hP
  try dsimp only at hw_r_7
  subst hw_r_7
  rcases hq_9 : rinF 7 b1_3 (atF 12 ax j) with _ | a_8
  · refine W.eq (g2 := F0 m 25 ls [.null]) rfl ?_
    refine lv_astore_nN (lv' := [(3, .null), (0, .ref g), (1, .int i), (2, .int j)]) hx hb dX2_wouldJam_25 rfl hl (by decide) rfl (fun ls hl => ?_)
    refine lv_aload_nN hx hb dX2_wouldJam_26 rfl (lv_at hl 0 rfl) ?_
    refine lv_ifnullN (tgt := 61) hx hb dX2_wouldJam_27 (by decide) ?_
    refine lv_iconst (v := 0) hx hb dX2_wouldJam_61 (by decide) ?_
    refine W.widen (k := 1009) (n := 2018) (by omega) (by omega) ?_
    exact W.zret (v := 0) hx hb hr (by first | rfl | simp [narrow] | assumption) (fun t ht hW => ⟨⟨0, (b1_3, LP1_4, v1_5), rfl, ⟨(by rw [wjF, ← hq3, rin_none hq_9]; simp), hq1, hq2⟩, by rw [ht]; exact hP, hAe ▸ hD⟩, hS.F ht⟩) hS.2.2 dX2_wouldJam_62
  · refine W.eq (g2 := F0 m 25 ls [.ref a_8]) rfl ?_
    refine lv_astore_n (lv' := [(3, .ref a_8), (0, .ref g), (1, .int i), (2, .int j)]) hx hb dX2_wouldJam_25 rfl hl (by decide) rfl (fun ls hl => ?_)
    refine lv_aload_n hx hb dX2_wouldJam_26 rfl (lv_at hl 0 rfl) ?_
    refine lv_ifnull hx hb dX2_wouldJam_27 ?_
    refine lv_aload_n hx hb dX2_wouldJam_30 rfl (lv_at hl 0 rfl) ?_
    refine va_new (D := (dC, dI)) (ci := iX1) (fs := [.long 0, .long 0]) (C := RX1) (T := TX1) (N := 2) hx hb hts hin_X1 tyX1 tyX1_ok hown hw_cl21 hw_insX1 hw_iniX1 hK hP hD hS hA rfl (fun j hj => by rcases (show j = 0 ∨ j = 1 by omega) with rfl | rfl <;> rfl) (Nat.le_of_ble_eq_true rfl) (Nat.le_of_ble_eq_true rfl) dX2_wouldJam_31 (fun q_10 H hP hD hS => ?_)
    have hP := va_P.swap hP
    have hD := va_D.swap hD
    have hP : va_P (dC, dI) vwCl ([(g, .inr (iX2, [.int (nI n), .ref xa, .ref xt, .ref xm, .ref wh, .ref st, .ref xb, .ref xc])), (xa, .inl (cI, 12, .inl (ax))), (xt, .inl (cI, 12, .inl (te))), (xm, .inl (cI, 12, .inl (me))), (xc, .inl (cF, 7, .inr (.inr (.inr (.inr (b1_3)))))), (q_10, .inr (iX1, [.long 0, .long 0]))] ++ va_pl LP1_4 (fe v1_5)) H := hP
    have hD : va_D A ([(g, .inr (iX2, [.int (nI n), .ref xa, .ref xt, .ref xm, .ref wh, .ref st, .ref xb, .ref xc])), (xa, .inl (cI, 12, .inl (ax))), (xt, .inl (cI, 12, .inl (te))), (xm, .inl (cI, 12, .inl (me))), (xc, .inl (cF, 7, .inr (.inr (.inr (.inr (b1_3)))))), (q_10, .inr (iX1, [.long 0, .long 0]))] ++ va_pl LP1_4 (fe v1_5)) := hD
    refine lv_dup hx hb dX2_wouldJam_34 rfl ?_
    refine lv_aload_n hx hb dX2_wouldJam_35 rfl (lv_at hl 1 rfl) ?_
    refine lv_iload_n hx hb dX2_wouldJam_36 rfl (lv_at hl 2 rfl) ?_
    have hPc : va_P (dC, dI) vwCl ([(g, .inr (iX2, [.int (nI n), .ref xa, .ref xt, .ref xm, .ref wh, .ref st, .ref xb, .ref xc])), (xt, .inl (cI, 12, .inl (te)))]) _ := hP.sub [0, 2] rfl
    have hFc := frZ hS hA
    refine va_calli (va_runV (As := [.int i]) (rest := [.ref q_10, .ref q_10, .ref a_8]) ⟨hx, hb, hml, hown, hts⟩ (c_X2_teethOf l dC dI cI cF tr (H).size g n xa xt xm wh st xb xc te i) (cwV 1 hts gX2_wouldJam_X2_teethOf rfl rfl rfl (by decide +kernel) ⟨Nat.le_of_ble_eq_true rfl, Nat.le_of_ble_eq_true rfl⟩) ⟨cBl, (va_recv hK hPc (ci := iX2) (q0 := 0) rfl rfl), (cPre hPc hK hN)⟩ rfl rfl hl.1 rfl (lv_room (Nat.le_of_ble_eq_true rfl)) dX2_wouldJam_37 ⟨(Nat.le_of_ble_eq_true rfl), (Nat.le_of_ble_eq_true rfl)⟩) hS (fun q _ h => hFc q h) hFc (fun r_11 u t H1 locs ht hvm hw_r_11 hB hz1 hk1 hS => ?_)
    refine W.widen (k := 1009) (n := 2018) (Nat.le_refl _) (Nat.le_refl _) ?_
    have hP := keepP hP hk1
    generalize H1 = H at hP hS ⊢
    have hP : va_P (dC, dI) vwCl ([(g, .inr (iX2, [.int (nI n), .ref xa, .ref xt, .ref xm, .ref wh, .ref st, .ref xb, .ref xc])), (xa, .inl (cI, 12, .inl (ax))), (xt, .inl (cI, 12, .inl (te))), (xm, .inl (cI, 12, .inl (me))), (xc, .inl (cF, 7, .inr (.inr (.inr (.inr (b1_3)))))), (q_10, .inr (iX1, [.long 0, .long 0]))] ++ va_pl LP1_4 (fe v1_5)) H := hP
    try dsimp only at hw_r_11
    subst hw_r_11
    refine lv_ineg hx hb dX2_wouldJam_40 ?_
    refine lv_i2l hx hb dX2_wouldJam_41 rfl ?_
    refine lv_aload_n hx hb dX2_wouldJam_42 rfl (lv_at hl 1 rfl) ?_
    refine lv_iload_n hx hb dX2_wouldJam_43 rfl (lv_at hl 3 rfl) ?_
    have hPc : va_P (dC, dI) vwCl ([(g, .inr (iX2, [.int (nI n), .ref xa, .ref xt, .ref xm, .ref wh, .ref st, .ref xb, .ref xc])), (xt, .inl (cI, 12, .inl (te)))]) _ := hP.sub [0, 2] rfl
    have hFc := frZ hS hA
    refine va_calli (va_runV (As := [.int j]) (rest := [.long ((-(atF 12 te i)).toInt64), .ref q_10, .ref q_10, .ref a_8]) ⟨hx, hb, hml, hown, hts⟩ (c_X2_teethOf l dC dI cI cF tr (H).size g n xa xt xm wh st xb xc te j) (cwV 1 hts gX2_wouldJam_X2_teethOf rfl rfl rfl (by decide +kernel) ⟨Nat.le_of_ble_eq_true rfl, Nat.le_of_ble_eq_true rfl⟩) ⟨cBl, (va_recv hK hPc (ci := iX2) (q0 := 0) rfl rfl), (cPre hPc hK hN)⟩ rfl rfl hl.1 rfl (lv_room (Nat.le_of_ble_eq_true rfl)) dX2_wouldJam_44 ⟨(Nat.le_of_ble_eq_true rfl), (Nat.le_of_ble_eq_true rfl)⟩) hS (fun q _ h => hFc q h) hFc (fun r_12 u t H1 locs ht hvm hw_r_12 hB hz1 hk1 hS => ?_)
    refine W.widen (k := 1009) (n := 2018) (Nat.le_refl _) (Nat.le_refl _) ?_
    have hP := keepP hP hk1
    generalize H1 = H at hP hS ⊢
    have hP : va_P (dC, dI) vwCl ([(g, .inr (iX2, [.int (nI n), .ref xa, .ref xt, .ref xm, .ref wh, .ref st, .ref xb, .ref xc])), (xa, .inl (cI, 12, .inl (ax))), (xt, .inl (cI, 12, .inl (te))), (xm, .inl (cI, 12, .inl (me))), (xc, .inl (cF, 7, .inr (.inr (.inr (.inr (b1_3)))))), (q_10, .inr (iX1, [.long 0, .long 0]))] ++ va_pl LP1_4 (fe v1_5)) H := hP
    try dsimp only at hw_r_12
    subst hw_r_12
    refine lv_i2l hx hb dX2_wouldJam_47 rfl ?_
    have hPc : va_P (dC, dI) vwCl ([(q_10, .inr (iX1, [.long 0, .long 0]))]) _ := hP.sub [5] rfl
    have hDc : va_D (fun _ => True) ([(q_10, .inr (iX1, [.long 0, .long 0]))]) := (hD.sub (ws' := [(q_10, .inr (iX1, [.long 0, .long 0]))]) [5] (by decide) rfl).weaken (fun _ _ _ _ => trivial)
    have hFc := va_free (wc := [(q_10, .inr (iX1, [.long 0, .long 0]))]) hD hS hA [5] rfl
    refine va_callv (va_runI (As := [.long ((-(atF 12 te i)).toInt64), .long ((atF 12 te j).toInt64)]) (rest := [.ref q_10, .ref a_8]) ⟨hx, hb, hml, hown, hts⟩ (c_X1_init l dC dI cI cF tr (H).size q_10 0 0 ((-(atF 12 te i)).toInt64) ((atF 12 te j).toInt64)) (cwI 2 hts gX2_wouldJam_X1_init rfl rfl rfl hw_iniX1 hw_ml23 hw_imX1_init rfl (by decide +kernel) ⟨Nat.le_of_ble_eq_true rfl, Nat.le_of_ble_eq_true rfl⟩) ⟨cDbl, (cDpre hPc hK hN hDc)⟩ rfl rfl hl.1 rfl (lv_room (Nat.le_of_ble_eq_true rfl)) dX2_wouldJam_48 ⟨(Nat.le_of_ble_eq_true rfl), (Nat.le_of_ble_eq_true rfl)⟩) hS (fun q _ h => hFc q h) hFc (fun u t H1 locs ht hvm hw_r_13 hB hz1 hk1 hS => ?_)
    refine W.widen (k := 1009) (n := 2018) (Nat.le_refl _) (Nat.le_refl _) ?_
    obtain ⟨hP1, hD1⟩ := hB
    rw [ht] at hP1
    obtain ⟨hP, hD⟩ := va_joinQ (wr := [(g, .inr (iX2, [.int (nI n), .ref xa, .ref xt, .ref xm, .ref wh, .ref st, .ref xb, .ref xc])), (xa, .inl (cI, 12, .inl (ax))), (xt, .inl (cI, 12, .inl (te))), (xm, .inl (cI, 12, .inl (me))), (xc, .inl (cF, 7, .inr (.inr (.inr (.inr (b1_3))))))]) (w1 := [(q_10, .inr (iX1, [.long (frU ((-(atF 12 te i)).toInt64) ((atF 12 te j).toInt64)), .long (frL ((-(atF 12 te i)).toInt64) ((atF 12 te j).toInt64))]))]) hP hD [5] [0, 1, 2, 3, 4] rfl rfl (by decide) (by decide) hk1 hFc hP1 hD1
    have hD := hD.part (cx := [(g, .inr (iX2, [.int (nI n), .ref xa, .ref xt, .ref xm, .ref wh, .ref st, .ref xb, .ref xc])), (xa, .inl (cI, 12, .inl (ax))), (xt, .inl (cI, 12, .inl (te))), (xm, .inl (cI, 12, .inl (me))), (xc, .inl (cF, 7, .inr (.inr (.inr (.inr (b1_3)))))), (q_10, .inr (iX1, [.long (frU ((-(atF 12 te i)).toInt64) ((atF 12 te j).toInt64)), .long (frL ((-(atF 12 te i)).toInt64) ((atF 12 te j).toInt64))]))]) [0, 1, 2, 3, 4, 5] (by decide) rfl
    have hP : va_P (dC, dI) vwCl ([(g, .inr (iX2, [.int (nI n), .ref xa, .ref xt, .ref xm, .ref wh, .ref st, .ref xb, .ref xc])), (xa, .inl (cI, 12, .inl (ax))), (xt, .inl (cI, 12, .inl (te))), (xm, .inl (cI, 12, .inl (me))), (xc, .inl (cF, 7, .inr (.inr (.inr (.inr (b1_3)))))), (q_10, .inr (iX1, [.long (frU ((-(atF 12 te i)).toInt64) ((atF 12 te j).toInt64)), .long (frL ((-(atF 12 te i)).toInt64) ((atF 12 te j).toInt64))]))] ++ va_pl LP1_4 (fe v1_5)) H1 := hP.part [0, 1, 2, 3, 4, 5] rfl
    generalize H1 = H at hP hS ⊢
    have hP : va_P (dC, dI) vwCl ([(g, .inr (iX2, [.int (nI n), .ref xa, .ref xt, .ref xm, .ref wh, .ref st, .ref xb, .ref xc])), (xa, .inl (cI, 12, .inl (ax))), (xt, .inl (cI, 12, .inl (te))), (xm, .inl (cI, 12, .inl (me))), (xc, .inl (cF, 7, .inr (.inr (.inr (.inr (b1_3)))))), (q_10, .inr (iX1, [.long (frU ((-(atF 12 te i)).toInt64) ((atF 12 te j).toInt64)), .long (frL ((-(atF 12 te i)).toInt64) ((atF 12 te j).toInt64))]))] ++ va_pl LP1_4 (fe v1_5)) H := hP
    have hD : va_D A ([(g, .inr (iX2, [.int (nI n), .ref xa, .ref xt, .ref xm, .ref wh, .ref st, .ref xb, .ref xc])), (xa, .inl (cI, 12, .inl (ax))), (xt, .inl (cI, 12, .inl (te))), (xm, .inl (cI, 12, .inl (me))), (xc, .inl (cF, 7, .inr (.inr (.inr (.inr (b1_3)))))), (q_10, .inr (iX1, [.long (frU ((-(atF 12 te i)).toInt64) ((atF 12 te j).toInt64)), .long (frL ((-(atF 12 te i)).toInt64) ((atF 12 te j).toInt64))]))] ++ va_pl LP1_4 (fe v1_5)) := hD
    try dsimp only at hw_r_13
    have hPc : va_P (dC, dI) vwCl ([(a_8, .inr (iX1, [.long ((v1_5 a_8).1), .long ((v1_5 a_8).2)])), (q_10, .inr (iX1, [.long (frU ((-(atF 12 te i)).toInt64) ((atF 12 te j).toInt64)), .long (frL ((-(atF 12 te i)).toInt64) ((atF 12 te j).toInt64))]))]) _ := ((poolP hP (rinF_memA hq1 hq_9)).app (hP.sub (ws' := [(q_10, .inr (iX1, [.long (frU ((-(atF 12 te i)).toInt64) ((atF 12 te j).toInt64)), .long (frL ((-(atF 12 te i)).toInt64) ((atF 12 te j).toInt64))]))]) [5] rfl))
    have hFc := frZ hS hA
    refine va_calli (va_runV (As := [.ref q_10]) (rest := []) ⟨hx, hb, hml, hown, hts⟩ (c_X1_isSameAs l dC dI cI cF tr (H).size a_8 ((v1_5 a_8).1) ((v1_5 a_8).2) q_10 (frU ((-(atF 12 te i)).toInt64) ((atF 12 te j).toInt64)) (frL ((-(atF 12 te i)).toInt64) ((atF 12 te j).toInt64))) (cwV 1 hts gX2_wouldJam_X1_isSameAs rfl rfl rfl (by decide +kernel) ⟨Nat.le_of_ble_eq_true rfl, Nat.le_of_ble_eq_true rfl⟩) ⟨cBl, (va_recv hK hPc (ci := iX1) (q0 := 0) rfl rfl), (cPre hPc hK hN)⟩ rfl rfl hl.1 rfl (lv_room (Nat.le_of_ble_eq_true rfl)) dX2_wouldJam_51 ⟨(Nat.le_of_ble_eq_true rfl), (Nat.le_of_ble_eq_true rfl)⟩) hS (fun q _ h => hFc q h) hFc (fun r_14 u t H1 locs ht hvm hw_r_14 hB hz1 hk1 hS => ?_)
    refine W.widen (k := 1009) (n := 2018) (Nat.le_refl _) (Nat.le_refl _) ?_
    have hP := keepP hP hk1
    generalize H1 = H at hP hS ⊢
    have hP : va_P (dC, dI) vwCl ([(g, .inr (iX2, [.int (nI n), .ref xa, .ref xt, .ref xm, .ref wh, .ref st, .ref xb, .ref xc])), (xa, .inl (cI, 12, .inl (ax))), (xt, .inl (cI, 12, .inl (te))), (xm, .inl (cI, 12, .inl (me))), (xc, .inl (cF, 7, .inr (.inr (.inr (.inr (b1_3)))))), (q_10, .inr (iX1, [.long (frU ((-(atF 12 te i)).toInt64) ((atF 12 te j).toInt64)), .long (frL ((-(atF 12 te i)).toInt64) ((atF 12 te j).toInt64))]))] ++ va_pl LP1_4 (fe v1_5)) H := hP
    try dsimp only at hw_r_14
    subst hw_r_14
    refine lv_if_ne (tgt := 61) hx hb dX2_wouldJam_54 (by decide) (fun c_15 => ?_) (fun c_15 => ?_)
    · refine lv_iconst (v := 0) hx hb dX2_wouldJam_61 (by decide) ?_
      refine W.widen (k := 1009) (n := 2018) (by omega) (by omega) ?_
      have hD := hD.part (cx := [(g, .inr (iX2, [.int (nI n), .ref xa, .ref xt, .ref xm, .ref wh, .ref st, .ref xb, .ref xc])), (xa, .inl (cI, 12, .inl (ax))), (xt, .inl (cI, 12, .inl (te))), (xm, .inl (cI, 12, .inl (me))), (xc, .inl (cF, 7, .inr (.inr (.inr (.inr (b1_3))))))]) [0, 1, 2, 3, 4] (by decide) rfl
      have hP : va_P (dC, dI) vwCl ([(g, .inr (iX2, [.int (nI n), .ref xa, .ref xt, .ref xm, .ref wh, .ref st, .ref xb, .ref xc])), (xa, .inl (cI, 12, .inl (ax))), (xt, .inl (cI, 12, .inl (te))), (xm, .inl (cI, 12, .inl (me))), (xc, .inl (cF, 7, .inr (.inr (.inr (.inr (b1_3))))))] ++ va_pl LP1_4 (fe v1_5)) _ := hP.part [0, 1, 2, 3, 4] rfl
      exact W.zret (v := 0) hx hb hr (by first | rfl | simp [narrow] | assumption) (fun t ht hW => ⟨⟨0, (b1_3, LP1_4, v1_5), rfl, ⟨(by rw [wjF, ← hq3, rin_some hq_9]; have c9 := c_15; simp at c9 ⊢; exact c9), hq1, hq2⟩, by rw [ht]; exact hP, hAe ▸ hD⟩, hS.F ht⟩) hS.2.2 dX2_wouldJam_62
    · refine lv_iconst (v := 1) hx hb dX2_wouldJam_57 (by decide) ?_
      refine lv_goto (tgt := 62) hx hb dX2_wouldJam_58 (by decide) ?_
      refine W.widen (k := 1009) (n := 2018) (by omega) (by omega) ?_
      have hD := hD.part (cx := [(g, .inr (iX2, [.int (nI n), .ref xa, .ref xt, .ref xm, .ref wh, .ref st, .ref xb, .ref xc])), (xa, .inl (cI, 12, .inl (ax))), (xt, .inl (cI, 12, .inl (te))), (xm, .inl (cI, 12, .inl (me))), (xc, .inl (cF, 7, .inr (.inr (.inr (.inr (b1_3))))))]) [0, 1, 2, 3, 4] (by decide) rfl
      have hP : va_P (dC, dI) vwCl ([(g, .inr (iX2, [.int (nI n), .ref xa, .ref xt, .ref xm, .ref wh, .ref st, .ref xb, .ref xc])), (xa, .inl (cI, 12, .inl (ax))), (xt, .inl (cI, 12, .inl (te))), (xm, .inl (cI, 12, .inl (me))), (xc, .inl (cF, 7, .inr (.inr (.inr (.inr (b1_3))))))] ++ va_pl LP1_4 (fe v1_5)) _ := hP.part [0, 1, 2, 3, 4] rfl
      exact W.zret (v := 1) hx hb hr (by first | rfl | simp [narrow] | assumption) (fun t ht hW => ⟨⟨1, (b1_3, LP1_4, v1_5), rfl, ⟨(by rw [wjF, ← hq3, rin_some hq_9]; have c9 := c_15; simp at c9 ⊢; exact c9), hq1, hq2⟩, by rw [ht]; exact hP, hAe ▸ hD⟩, hS.F ht⟩) hS.2.2 dX2_wouldJam_62

def fW : Int64 × Int64 := (frU 1 1, frL 1 1)
def fZ : Int64 × Int64 := (frU 0 1, frL 0 1)
def zI : Nat → Int32 := fun _ => 0
def nQ : Nat → Option Nat := fun _ => none
theorem bOK_nQ {LP : List Nat} : bOK LP nQ := ⟨fun k a h => by simp [nQ] at h, fun _ _ => rfl⟩
/-- two fractions of their own become a pool -/
theorem poolE {a b : Nat} {p q : Int64 × Int64} (h : b ≠ a) : ([(a, .inr (iX1, [.long p.1, .long p.2])), (b, .inr (iX1, [.long q.1, .long q.2]))] : va_W) = va_pl [a, b] (fe (va_up (fun _ => q) a p)) := by
  simp [va_pl, fe, va_up, h]

set_option maxHeartbeats 4000000 in
set_option maxRecDepth 100000 in
theorem c_X2_init (l : Launch) (dC : Nat → ClassId) (dI : Nat → Nat → Nat) (cI cF : ClassId) (tr : List (ClassId × FieldType)) (sz : Nat) (g : Nat) : Met l yX2_init wsX2_init ({ frames := 5, cells := 1015, slots := 2070, locals := 131 } : Room) (cPd dC dI ((cI, .int) :: (cF, .object RX1) :: tr) sz ([(g, .inr (iX2, [.int 0, .null, .null, .null, .null, .null, .null, .null]))]) [.ref g]) (va_Qv (fun u : Nat × Nat × Nat × Nat × Nat × Nat × Nat × (Nat → Option Nat) × List Nat × (Nat → Int64 × Int64) => u.2.2.2.1 ∈ u.2.2.2.2.2.2.2.2.1 ∧ u.2.2.2.2.1 ∈ u.2.2.2.2.2.2.2.2.1 ∧ u.2.2.2.2.2.2.2.2.2 u.2.2.2.1 = fW ∧ u.2.2.2.2.2.2.2.2.2 u.2.2.2.2.1 = fZ ∧ bOK u.2.2.2.2.2.2.2.2.1 u.2.2.2.2.2.2.2.1 ∧ abR u.2.2.2.2.2.2.2.1 u.2.2.2.2.2.2.2.2.2 = sprF zI zI zI 0 0 fW) (fun ⟨xa, xt, xm, wh, st, xb, xc, b1, LP1, v1⟩ t => va_P (dC, dI) vwCl ([(g, .inr (iX2, [.int 0, .ref xa, .ref xt, .ref xm, .ref wh, .ref st, .ref xb, .ref xc])), (xa, .inl (cI, 12, .inl (zI))), (xt, .inl (cI, 12, .inl (zI))), (xm, .inl (cI, 12, .inl (zI))), (xb, .inl (cF, 7, .inr (.inr (.inr (.inr (b1)))))), (xc, .inl (cF, 7, .inr (.inr (.inr (.inr (nQ))))))] ++ va_pl LP1 (fe v1)) t.heap ∧ va_D (va_A ([(g, .inr (iX2, [.int 0, .null, .null, .null, .null, .null, .null, .null]))]) sz) ([(g, .inr (iX2, [.int 0, .ref xa, .ref xt, .ref xm, .ref wh, .ref st, .ref xb, .ref xc])), (xa, .inl (cI, 12, .inl (zI))), (xt, .inl (cI, 12, .inl (zI))), (xm, .inl (cI, 12, .inl (zI))), (xb, .inl (cF, 7, .inr (.inr (.inr (.inr (b1)))))), (xc, .inl (cF, 7, .inr (.inr (.inr (.inr (nQ))))))] ++ va_pl LP1 (fe v1))) (va_A ([(g, .inr (iX2, [.int 0, .null, .null, .null, .null, .null, .null, .null]))]) sz)) 1015 2070 (va_A ([(g, .inr (iX2, [.int 0, .null, .null, .null, .null, .null, .null, .null]))]) sz) := by
  refine Met.ofW (cc := cX2_init) (maxL := 1) (ret := none) (by decide) rfl ?_
  intro p e s m args below meth c s₁ B hml hv
  obtain ⟨rfl, hsz, hP, hK, hN, hD0⟩ := hv
  have hx := B.exec
  have hb := B.bytes
  have hr := B.returns
  have hts := atoms_spec (ws := wsX2_init) B.pre
  have hown : s.vm.findClass RX2 = some m.cls := findClass_of_methodNamed B.named
  have hlocks := B.notSynchronized
  have hin : meth.name = "<init>" := (name_of_methodNamed B.named B.method).1
  subst hsz
  have hD := hD0.self (sz := s.heap.size)
  generalize hAe : va_A ([(g, .inr (iX2, [.int 0, .null, .null, .null, .null, .null, .null, .null]))]) s.heap.size = A at hD ⊢
  have hA : ∀ q : Nat, s.heap.size ≤ q → A q := fun q h => by rw [← hAe]; exact Or.inr h
  have hS : va_S A s.heap s.heap [] := va_S.rf
  have hP : va_P (dC, dI) vwCl ([(g, .inr (iX2, [.int 0, .null, .null, .null, .null, .null, .null, .null]))]) s.heap := hP
  have hl := lv_entry ([.ref g]) (n := 1) (Nat.le_of_ble_eq_true rfl)
  rw [lg_entry_eq]
  generalize (lg_sl ([.ref g]) ++ List.replicate (1 - (lg_sl ([.ref g])).length) Slot.unset).toArray = ls at hl ⊢
  have hl : lv_has ls 1 [(0, .ref g)] := hl
  have hw_oi_l := hts (.methodLink RX2 3 objectInit) (by decide +kernel)
  have hw_oi_i := hts (.instanceMethod objectInit) (by decide +kernel)
  have hw_oi_c := hts (.code objectInit ⟨#[0xb1]⟩ 1 none) (by decide +kernel)
  have hw_arr_int := hts (.arrayClass (newarray.typeOf .int)) (by decide +kernel)
  have hfl_9 := hts (.fieldLink RX2 9 "Greenwheels$Gearing" "axles" "[I") (by decide +kernel)
  have hin_X2 : ∀ w ∈ u_ws RX2 TX2 8, w ∈ wsX2_init := by decide +kernel
  have hfl_15 := hts (.fieldLink RX2 15 "Greenwheels$Gearing" "teeth" "[I") (by decide +kernel)
  have hfl_18 := hts (.fieldLink RX2 18 "Greenwheels$Gearing" "meshSets" "[I") (by decide +kernel)
  have hin_X1 : ∀ w ∈ u_ws RX1 TX1 2, w ∈ wsX2_init := by decide +kernel
  have hw_cl21 := hts (.classLink RX2 21 RX1) (by decide +kernel)
  have hw_insX1 := hts (.instantiable RX1 2) (by decide +kernel)
  have hw_iniX1 := hts (.initialized RX1) (by decide +kernel)
  have hw_ml23 := hts (.methodLink RX2 23 yX1_init) (by decide +kernel)
  have hw_imX1_init := hts (.instanceMethod yX1_init) (by decide +kernel)
  have hfl_26 := hts (.fieldLink RX2 26 "Greenwheels$Gearing" "whole" "LGreenwheels$Fraction;") (by decide +kernel)
  have hfl_30 := hts (.fieldLink RX2 30 "Greenwheels$Gearing" "still" "LGreenwheels$Fraction;") (by decide +kernel)
  have hfl_33 := hts (.fieldLink RX2 33 "Greenwheels$Gearing" "byCrank" "[LGreenwheels$Fraction;") (by decide +kernel)
  have hfl_37 := hts (.fieldLink RX2 37 "Greenwheels$Gearing" "byAnother" "[LGreenwheels$Fraction;") (by decide +kernel)
  refine lv_aload_n hx hb dX2_init_0 rfl (lv_at hl 0 rfl) ?_
  refine W.objInit hx hb hown hw_oi_l hw_oi_i hw_oi_c rfl (by rw [hml]; exact hl.1) rfl dX2_init_1 (Nat.le_of_ble_eq_true rfl) (Nat.le_of_ble_eq_true rfl) ?_
  refine W.eq (g2 := F0 m 4 ls []) rfl ?_
  refine lv_aload_n hx hb dX2_init_4 rfl (lv_at hl 0 rfl) ?_
  refine lv_bipush (v := 12) hx hb dX2_init_5 (by decide) ?_
  refine va_newa (D := (dC, dI)) (atype := .int) (ty := .int) (N' := 12) (a0 := (12, .inl (fun _ => 0))) hx hb hw_arr_int rfl hK hP hD hS hA (fun _ => rfl) (by decide) (by decide) (by decide) (Nat.le_of_ble_eq_true rfl) (Nat.le_of_ble_eq_true rfl) dX2_init_7 (fun q_1 cN H hKn hP hD hS => ?_)
  obtain rfl : cI = cN := (tyEq hKn hK 0 rfl).symm
  have hP : va_P (dC, dI) vwCl ([(g, .inr (iX2, [.int 0, .null, .null, .null, .null, .null, .null, .null])), (q_1, .inl (cI, 12, .inl (fun _ => 0)))]) H := hP
  have hD : va_D A ([(g, .inr (iX2, [.int 0, .null, .null, .null, .null, .null, .null, .null])), (q_1, .inl (cI, 12, .inl (fun _ => 0)))]) := hD
  refine va_putF (D := (dC, dI)) (ci := iX2) (v := .ref q_1) (ty := (.array .int)) (C := RX2) (T := TX2) (N := 8) hx hb hts hin_X2 tyX2 tyX2_ok nmX2 hown hK hP hD hS 0 rfl rfl 1 (by decide) hfl_9 (fun _ h9 => h9) rfl hin rfl (by decide +kernel) rfl rfl (Nat.le_of_ble_eq_true rfl) dX2_init_9 (fun H locs hP hD hS => ?_)
  have hP : va_P (dC, dI) vwCl ([(g, .inr (iX2, [.int 0, .ref q_1, .null, .null, .null, .null, .null, .null])), (q_1, .inl (cI, 12, .inl (fun _ => 0)))]) H := hP
  have hD : va_D A ([(g, .inr (iX2, [.int 0, .ref q_1, .null, .null, .null, .null, .null, .null])), (q_1, .inl (cI, 12, .inl (fun _ => 0)))]) := hD
  refine lv_aload_n hx hb dX2_init_12 rfl (lv_at hl 0 rfl) ?_
  refine lv_bipush (v := 12) hx hb dX2_init_13 (by decide) ?_
  refine va_newa (D := (dC, dI)) (atype := .int) (ty := .int) (N' := 12) (a0 := (12, .inl (fun _ => 0))) hx hb hw_arr_int rfl hK hP hD hS hA (fun _ => rfl) (by decide) (by decide) (by decide) (Nat.le_of_ble_eq_true rfl) (Nat.le_of_ble_eq_true rfl) dX2_init_15 (fun q_2 cN H hKn hP hD hS => ?_)
  obtain rfl : cI = cN := (tyEq hKn hK 0 rfl).symm
  have hP : va_P (dC, dI) vwCl ([(g, .inr (iX2, [.int 0, .ref q_1, .null, .null, .null, .null, .null, .null])), (q_1, .inl (cI, 12, .inl (fun _ => 0))), (q_2, .inl (cI, 12, .inl (fun _ => 0)))]) H := hP
  have hD : va_D A ([(g, .inr (iX2, [.int 0, .ref q_1, .null, .null, .null, .null, .null, .null])), (q_1, .inl (cI, 12, .inl (fun _ => 0))), (q_2, .inl (cI, 12, .inl (fun _ => 0)))]) := hD
  refine va_putF (D := (dC, dI)) (ci := iX2) (v := .ref q_2) (ty := (.array .int)) (C := RX2) (T := TX2) (N := 8) hx hb hts hin_X2 tyX2 tyX2_ok nmX2 hown hK hP hD hS 0 rfl rfl 2 (by decide) hfl_15 (fun _ h9 => h9) rfl hin rfl (by decide +kernel) rfl rfl (Nat.le_of_ble_eq_true rfl) dX2_init_17 (fun H locs hP hD hS => ?_)
  have hP : va_P (dC, dI) vwCl ([(g, .inr (iX2, [.int 0, .ref q_1, .ref q_2, .null, .null, .null, .null, .null])), (q_1, .inl (cI, 12, .inl (fun _ => 0))), (q_2, .inl (cI, 12, .inl (fun _ => 0)))]) H := hP
  have hD : va_D A ([(g, .inr (iX2, [.int 0, .ref q_1, .ref q_2, .null, .null, .null, .null, .null])), (q_1, .inl (cI, 12, .inl (fun _ => 0))), (q_2, .inl (cI, 12, .inl (fun _ => 0)))]) := hD
  refine lv_aload_n hx hb dX2_init_20 rfl (lv_at hl 0 rfl) ?_
  refine lv_bipush (v := 12) hx hb dX2_init_21 (by decide) ?_
  refine va_newa (D := (dC, dI)) (atype := .int) (ty := .int) (N' := 12) (a0 := (12, .inl (fun _ => 0))) hx hb hw_arr_int rfl hK hP hD hS hA (fun _ => rfl) (by decide) (by decide) (by decide) (Nat.le_of_ble_eq_true rfl) (Nat.le_of_ble_eq_true rfl) dX2_init_23 (fun q_3 cN H hKn hP hD hS => ?_)
  obtain rfl : cI = cN := (tyEq hKn hK 0 rfl).symm
  have hP : va_P (dC, dI) vwCl ([(g, .inr (iX2, [.int 0, .ref q_1, .ref q_2, .null, .null, .null, .null, .null])), (q_1, .inl (cI, 12, .inl (fun _ => 0))), (q_2, .inl (cI, 12, .inl (fun _ => 0))), (q_3, .inl (cI, 12, .inl (fun _ => 0)))]) H := hP
  have hD : va_D A ([(g, .inr (iX2, [.int 0, .ref q_1, .ref q_2, .null, .null, .null, .null, .null])), (q_1, .inl (cI, 12, .inl (fun _ => 0))), (q_2, .inl (cI, 12, .inl (fun _ => 0))), (q_3, .inl (cI, 12, .inl (fun _ => 0)))]) := hD
  refine va_putF (D := (dC, dI)) (ci := iX2) (v := .ref q_3) (ty := (.array .int)) (C := RX2) (T := TX2) (N := 8) hx hb hts hin_X2 tyX2 tyX2_ok nmX2 hown hK hP hD hS 0 rfl rfl 3 (by decide) hfl_18 (fun _ h9 => h9) rfl hin rfl (by decide +kernel) rfl rfl (Nat.le_of_ble_eq_true rfl) dX2_init_25 (fun H locs hP hD hS => ?_)
  have hP : va_P (dC, dI) vwCl ([(g, .inr (iX2, [.int 0, .ref q_1, .ref q_2, .ref q_3, .null, .null, .null, .null])), (q_1, .inl (cI, 12, .inl (fun _ => 0))), (q_2, .inl (cI, 12, .inl (fun _ => 0))), (q_3, .inl (cI, 12, .inl (fun _ => 0)))]) H := hP
  have hD : va_D A ([(g, .inr (iX2, [.int 0, .ref q_1, .ref q_2, .ref q_3, .null, .null, .null, .null])), (q_1, .inl (cI, 12, .inl (fun _ => 0))), (q_2, .inl (cI, 12, .inl (fun _ => 0))), (q_3, .inl (cI, 12, .inl (fun _ => 0)))]) := hD
  refine lv_aload_n hx hb dX2_init_28 rfl (lv_at hl 0 rfl) ?_
  refine va_new (D := (dC, dI)) (ci := iX1) (fs := [.long 0, .long 0]) (C := RX1) (T := TX1) (N := 2) hx hb hts hin_X1 tyX1 tyX1_ok hown hw_cl21 hw_insX1 hw_iniX1 hK hP hD hS hA rfl (fun j hj => by rcases (show j = 0 ∨ j = 1 by omega) with rfl | rfl <;> rfl) (Nat.le_of_ble_eq_true rfl) (Nat.le_of_ble_eq_true rfl) dX2_init_29 (fun q_4 H hP hD hS => ?_)
  have hP : va_P (dC, dI) vwCl ([(g, .inr (iX2, [.int 0, .ref q_1, .ref q_2, .ref q_3, .null, .null, .null, .null])), (q_1, .inl (cI, 12, .inl (fun _ => 0))), (q_2, .inl (cI, 12, .inl (fun _ => 0))), (q_3, .inl (cI, 12, .inl (fun _ => 0))), (q_4, .inr (iX1, [.long 0, .long 0]))]) H := hP
  have hD : va_D A ([(g, .inr (iX2, [.int 0, .ref q_1, .ref q_2, .ref q_3, .null, .null, .null, .null])), (q_1, .inl (cI, 12, .inl (fun _ => 0))), (q_2, .inl (cI, 12, .inl (fun _ => 0))), (q_3, .inl (cI, 12, .inl (fun _ => 0))), (q_4, .inr (iX1, [.long 0, .long 0]))]) := hD
  refine lv_dup hx hb dX2_init_32 rfl ?_
  refine lv_lconst (v := 1) hx hb dX2_init_33 (by decide) ?_
  refine lv_lconst (v := 1) hx hb dX2_init_34 (by decide) ?_
  have hPc : va_P (dC, dI) vwCl ([(q_4, .inr (iX1, [.long 0, .long 0]))]) _ := hP.sub [4] rfl
  have hDc : va_D (fun _ => True) ([(q_4, .inr (iX1, [.long 0, .long 0]))]) := (hD.sub (ws' := [(q_4, .inr (iX1, [.long 0, .long 0]))]) [4] (by decide) rfl).weaken (fun _ _ _ _ => trivial)
  have hFc := va_free (wc := [(q_4, .inr (iX1, [.long 0, .long 0]))]) hD hS hA [4] rfl
  refine va_callv (va_runI (As := [.long 1, .long 1]) (rest := [.ref q_4, .ref g]) ⟨hx, hb, hml, hown, hts⟩ (c_X1_init l dC dI cI cF tr (H).size q_4 0 0 1 1) (cwI 2 hts gX2_init_X1_init rfl rfl rfl hw_iniX1 hw_ml23 hw_imX1_init rfl (by decide +kernel) ⟨Nat.le_of_ble_eq_true rfl, Nat.le_of_ble_eq_true rfl⟩) ⟨cDbl, (cDpre hPc hK hN hDc)⟩ rfl rfl hl.1 rfl (lv_room (Nat.le_of_ble_eq_true rfl)) dX2_init_35 ⟨(Nat.le_of_ble_eq_true rfl), (Nat.le_of_ble_eq_true rfl)⟩) hS (fun q _ h => hFc q h) hFc (fun u t H1 locs ht hvm hw_r_5 hB hz1 hk1 hS => ?_)
  refine W.widen (k := 4) (n := 38) (Nat.le_refl _) (Nat.le_refl _) ?_
  obtain ⟨hP1, hD1⟩ := hB
  rw [ht] at hP1
  obtain ⟨hP, hD⟩ := va_join (wr := [(g, .inr (iX2, [.int 0, .ref q_1, .ref q_2, .ref q_3, .null, .null, .null, .null])), (q_1, .inl (cI, 12, .inl (fun _ => 0))), (q_2, .inl (cI, 12, .inl (fun _ => 0))), (q_3, .inl (cI, 12, .inl (fun _ => 0)))]) (w1 := [(q_4, .inr (iX1, [.long (frU 1 1), .long (frL 1 1)]))]) hP hD [4] [0, 1, 2, 3] rfl rfl (by decide) (by decide) hk1 hFc hP1 hD1
  have hD := hD.sub (ws' := [(g, .inr (iX2, [.int 0, .ref q_1, .ref q_2, .ref q_3, .null, .null, .null, .null])), (q_1, .inl (cI, 12, .inl (fun _ => 0))), (q_2, .inl (cI, 12, .inl (fun _ => 0))), (q_3, .inl (cI, 12, .inl (fun _ => 0))), (q_4, .inr (iX1, [.long (frU 1 1), .long (frL 1 1)]))]) [0, 1, 2, 3, 4] (by decide) rfl
  have hP : va_P (dC, dI) vwCl ([(g, .inr (iX2, [.int 0, .ref q_1, .ref q_2, .ref q_3, .null, .null, .null, .null])), (q_1, .inl (cI, 12, .inl (fun _ => 0))), (q_2, .inl (cI, 12, .inl (fun _ => 0))), (q_3, .inl (cI, 12, .inl (fun _ => 0))), (q_4, .inr (iX1, [.long (frU 1 1), .long (frL 1 1)]))]) H1 := hP.sub [0, 1, 2, 3, 4] rfl
  generalize H1 = H at hP hS ⊢
  have hP : va_P (dC, dI) vwCl ([(g, .inr (iX2, [.int 0, .ref q_1, .ref q_2, .ref q_3, .null, .null, .null, .null])), (q_1, .inl (cI, 12, .inl (fun _ => 0))), (q_2, .inl (cI, 12, .inl (fun _ => 0))), (q_3, .inl (cI, 12, .inl (fun _ => 0))), (q_4, .inr (iX1, [.long (frU 1 1), .long (frL 1 1)]))]) H := hP
  have hD : va_D A ([(g, .inr (iX2, [.int 0, .ref q_1, .ref q_2, .ref q_3, .null, .null, .null, .null])), (q_1, .inl (cI, 12, .inl (fun _ => 0))), (q_2, .inl (cI, 12, .inl (fun _ => 0))), (q_3, .inl (cI, 12, .inl (fun _ => 0))), (q_4, .inr (iX1, [.long (frU 1 1), .long (frL 1 1)]))]) := hD
  try dsimp only at hw_r_5
  refine va_putF (D := (dC, dI)) (ci := iX2) (v := .ref q_4) (ty := (.object "Greenwheels$Fraction")) (C := RX2) (T := TX2) (N := 8) hx hb hts hin_X2 tyX2 tyX2_ok nmX2 hown hK hP hD hS 0 rfl rfl 4 (by decide) hfl_26 (fun _ h9 => h9) rfl hin rfl (by decide +kernel) rfl rfl (Nat.le_of_ble_eq_true rfl) dX2_init_38 (fun H locs hP hD hS => ?_)
  have hP : va_P (dC, dI) vwCl ([(g, .inr (iX2, [.int 0, .ref q_1, .ref q_2, .ref q_3, .ref q_4, .null, .null, .null])), (q_1, .inl (cI, 12, .inl (fun _ => 0))), (q_2, .inl (cI, 12, .inl (fun _ => 0))), (q_3, .inl (cI, 12, .inl (fun _ => 0))), (q_4, .inr (iX1, [.long (frU 1 1), .long (frL 1 1)]))]) H := hP
  have hD : va_D A ([(g, .inr (iX2, [.int 0, .ref q_1, .ref q_2, .ref q_3, .ref q_4, .null, .null, .null])), (q_1, .inl (cI, 12, .inl (fun _ => 0))), (q_2, .inl (cI, 12, .inl (fun _ => 0))), (q_3, .inl (cI, 12, .inl (fun _ => 0))), (q_4, .inr (iX1, [.long (frU 1 1), .long (frL 1 1)]))]) := hD
  refine lv_aload_n hx hb dX2_init_41 rfl (lv_at hl 0 rfl) ?_
  refine va_new (D := (dC, dI)) (ci := iX1) (fs := [.long 0, .long 0]) (C := RX1) (T := TX1) (N := 2) hx hb hts hin_X1 tyX1 tyX1_ok hown hw_cl21 hw_insX1 hw_iniX1 hK hP hD hS hA rfl (fun j hj => by rcases (show j = 0 ∨ j = 1 by omega) with rfl | rfl <;> rfl) (Nat.le_of_ble_eq_true rfl) (Nat.le_of_ble_eq_true rfl) dX2_init_42 (fun q_6 H hP hD hS => ?_)
  have hP : va_P (dC, dI) vwCl ([(g, .inr (iX2, [.int 0, .ref q_1, .ref q_2, .ref q_3, .ref q_4, .null, .null, .null])), (q_1, .inl (cI, 12, .inl (fun _ => 0))), (q_2, .inl (cI, 12, .inl (fun _ => 0))), (q_3, .inl (cI, 12, .inl (fun _ => 0))), (q_4, .inr (iX1, [.long (frU 1 1), .long (frL 1 1)])), (q_6, .inr (iX1, [.long 0, .long 0]))]) H := hP
  have hD : va_D A ([(g, .inr (iX2, [.int 0, .ref q_1, .ref q_2, .ref q_3, .ref q_4, .null, .null, .null])), (q_1, .inl (cI, 12, .inl (fun _ => 0))), (q_2, .inl (cI, 12, .inl (fun _ => 0))), (q_3, .inl (cI, 12, .inl (fun _ => 0))), (q_4, .inr (iX1, [.long (frU 1 1), .long (frL 1 1)])), (q_6, .inr (iX1, [.long 0, .long 0]))]) := hD
  refine lv_dup hx hb dX2_init_45 rfl ?_
  refine lv_lconst (v := 0) hx hb dX2_init_46 (by decide) ?_
  refine lv_lconst (v := 1) hx hb dX2_init_47 (by decide) ?_
  have hPc : va_P (dC, dI) vwCl ([(q_6, .inr (iX1, [.long 0, .long 0]))]) _ := hP.sub [5] rfl
  have hDc : va_D (fun _ => True) ([(q_6, .inr (iX1, [.long 0, .long 0]))]) := (hD.sub (ws' := [(q_6, .inr (iX1, [.long 0, .long 0]))]) [5] (by decide) rfl).weaken (fun _ _ _ _ => trivial)
  have hFc := va_free (wc := [(q_6, .inr (iX1, [.long 0, .long 0]))]) hD hS hA [5] rfl
  refine va_callv (va_runI (As := [.long 0, .long 1]) (rest := [.ref q_6, .ref g]) ⟨hx, hb, hml, hown, hts⟩ (c_X1_init l dC dI cI cF tr (H).size q_6 0 0 0 1) (cwI 2 hts gX2_init_X1_init rfl rfl rfl hw_iniX1 hw_ml23 hw_imX1_init rfl (by decide +kernel) ⟨Nat.le_of_ble_eq_true rfl, Nat.le_of_ble_eq_true rfl⟩) ⟨cDbl, (cDpre hPc hK hN hDc)⟩ rfl rfl hl.1 rfl (lv_room (Nat.le_of_ble_eq_true rfl)) dX2_init_48 ⟨(Nat.le_of_ble_eq_true rfl), (Nat.le_of_ble_eq_true rfl)⟩) hS (fun q _ h => hFc q h) hFc (fun u t H1 locs ht hvm hw_r_7 hB hz1 hk1 hS => ?_)
  refine W.widen (k := 5) (n := 40) (Nat.le_refl _) (Nat.le_refl _) ?_
  obtain ⟨hP1, hD1⟩ := hB
  rw [ht] at hP1
  obtain ⟨hP, hD⟩ := va_join (wr := [(g, .inr (iX2, [.int 0, .ref q_1, .ref q_2, .ref q_3, .ref q_4, .null, .null, .null])), (q_1, .inl (cI, 12, .inl (fun _ => 0))), (q_2, .inl (cI, 12, .inl (fun _ => 0))), (q_3, .inl (cI, 12, .inl (fun _ => 0))), (q_4, .inr (iX1, [.long (frU 1 1), .long (frL 1 1)]))]) (w1 := [(q_6, .inr (iX1, [.long (frU 0 1), .long (frL 0 1)]))]) hP hD [5] [0, 1, 2, 3, 4] rfl rfl (by decide) (by decide) hk1 hFc hP1 hD1
  have hD := hD.sub (ws' := [(g, .inr (iX2, [.int 0, .ref q_1, .ref q_2, .ref q_3, .ref q_4, .null, .null, .null])), (q_1, .inl (cI, 12, .inl (fun _ => 0))), (q_2, .inl (cI, 12, .inl (fun _ => 0))), (q_3, .inl (cI, 12, .inl (fun _ => 0))), (q_4, .inr (iX1, [.long (frU 1 1), .long (frL 1 1)])), (q_6, .inr (iX1, [.long (frU 0 1), .long (frL 0 1)]))]) [0, 1, 2, 3, 4, 5] (by decide) rfl
  have hP : va_P (dC, dI) vwCl ([(g, .inr (iX2, [.int 0, .ref q_1, .ref q_2, .ref q_3, .ref q_4, .null, .null, .null])), (q_1, .inl (cI, 12, .inl (fun _ => 0))), (q_2, .inl (cI, 12, .inl (fun _ => 0))), (q_3, .inl (cI, 12, .inl (fun _ => 0))), (q_4, .inr (iX1, [.long (frU 1 1), .long (frL 1 1)])), (q_6, .inr (iX1, [.long (frU 0 1), .long (frL 0 1)]))]) H1 := hP.sub [0, 1, 2, 3, 4, 5] rfl
  generalize H1 = H at hP hS ⊢
  have hP : va_P (dC, dI) vwCl ([(g, .inr (iX2, [.int 0, .ref q_1, .ref q_2, .ref q_3, .ref q_4, .null, .null, .null])), (q_1, .inl (cI, 12, .inl (fun _ => 0))), (q_2, .inl (cI, 12, .inl (fun _ => 0))), (q_3, .inl (cI, 12, .inl (fun _ => 0))), (q_4, .inr (iX1, [.long (frU 1 1), .long (frL 1 1)])), (q_6, .inr (iX1, [.long (frU 0 1), .long (frL 0 1)]))]) H := hP
  have hD : va_D A ([(g, .inr (iX2, [.int 0, .ref q_1, .ref q_2, .ref q_3, .ref q_4, .null, .null, .null])), (q_1, .inl (cI, 12, .inl (fun _ => 0))), (q_2, .inl (cI, 12, .inl (fun _ => 0))), (q_3, .inl (cI, 12, .inl (fun _ => 0))), (q_4, .inr (iX1, [.long (frU 1 1), .long (frL 1 1)])), (q_6, .inr (iX1, [.long (frU 0 1), .long (frL 0 1)]))]) := hD
  try dsimp only at hw_r_7
  refine va_putF (D := (dC, dI)) (ci := iX2) (v := .ref q_6) (ty := (.object "Greenwheels$Fraction")) (C := RX2) (T := TX2) (N := 8) hx hb hts hin_X2 tyX2 tyX2_ok nmX2 hown hK hP hD hS 0 rfl rfl 5 (by decide) hfl_30 (fun _ h9 => h9) rfl hin rfl (by decide +kernel) rfl rfl (Nat.le_of_ble_eq_true rfl) dX2_init_51 (fun H locs hP hD hS => ?_)
  have hP : va_P (dC, dI) vwCl ([(g, .inr (iX2, [.int 0, .ref q_1, .ref q_2, .ref q_3, .ref q_4, .ref q_6, .null, .null])), (q_1, .inl (cI, 12, .inl (fun _ => 0))), (q_2, .inl (cI, 12, .inl (fun _ => 0))), (q_3, .inl (cI, 12, .inl (fun _ => 0))), (q_4, .inr (iX1, [.long (frU 1 1), .long (frL 1 1)])), (q_6, .inr (iX1, [.long (frU 0 1), .long (frL 0 1)]))]) H := hP
  have hD : va_D A ([(g, .inr (iX2, [.int 0, .ref q_1, .ref q_2, .ref q_3, .ref q_4, .ref q_6, .null, .null])), (q_1, .inl (cI, 12, .inl (fun _ => 0))), (q_2, .inl (cI, 12, .inl (fun _ => 0))), (q_3, .inl (cI, 12, .inl (fun _ => 0))), (q_4, .inr (iX1, [.long (frU 1 1), .long (frL 1 1)])), (q_6, .inr (iX1, [.long (frU 0 1), .long (frL 0 1)]))]) := hD
  refine lv_aload_n hx hb dX2_init_54 rfl (lv_at hl 0 rfl) ?_
  refine lv_bipush (v := 7) hx hb dX2_init_55 (by decide) ?_
  refine va_newq (D := (dC, dI)) (C := RX1) (N' := 7) hx hb hown hw_cl21 (aoAt hN) hK hP hD hS hA (by decide) (by decide) (by decide) (Nat.le_of_ble_eq_true rfl) (Nat.le_of_ble_eq_true rfl) dX2_init_57 (fun q_8 cN H hKn hP hD hS => ?_)
  obtain rfl : cF = cN := (tyEq hKn hK 1 rfl).symm
  have hP : va_P (dC, dI) vwCl ([(g, .inr (iX2, [.int 0, .ref q_1, .ref q_2, .ref q_3, .ref q_4, .ref q_6, .null, .null])), (q_1, .inl (cI, 12, .inl (fun _ => 0))), (q_2, .inl (cI, 12, .inl (fun _ => 0))), (q_3, .inl (cI, 12, .inl (fun _ => 0))), (q_4, .inr (iX1, [.long (frU 1 1), .long (frL 1 1)])), (q_6, .inr (iX1, [.long (frU 0 1), .long (frL 0 1)])), (q_8, .inl (cF, 7, .inr (.inr (.inr (.inr (fun _ => none))))))]) H := hP
  have hD : va_D A ([(g, .inr (iX2, [.int 0, .ref q_1, .ref q_2, .ref q_3, .ref q_4, .ref q_6, .null, .null])), (q_1, .inl (cI, 12, .inl (fun _ => 0))), (q_2, .inl (cI, 12, .inl (fun _ => 0))), (q_3, .inl (cI, 12, .inl (fun _ => 0))), (q_4, .inr (iX1, [.long (frU 1 1), .long (frL 1 1)])), (q_6, .inr (iX1, [.long (frU 0 1), .long (frL 0 1)])), (q_8, .inl (cF, 7, .inr (.inr (.inr (.inr (fun _ => none))))))]) := hD
  refine va_putF (D := (dC, dI)) (ci := iX2) (v := .ref q_8) (ty := (.array (.object "Greenwheels$Fraction"))) (C := RX2) (T := TX2) (N := 8) hx hb hts hin_X2 tyX2 tyX2_ok nmX2 hown hK hP hD hS 0 rfl rfl 6 (by decide) hfl_33 (fun _ h9 => h9) rfl hin rfl (by decide +kernel) rfl rfl (Nat.le_of_ble_eq_true rfl) dX2_init_60 (fun H locs hP hD hS => ?_)
  have hP : va_P (dC, dI) vwCl ([(g, .inr (iX2, [.int 0, .ref q_1, .ref q_2, .ref q_3, .ref q_4, .ref q_6, .ref q_8, .null])), (q_1, .inl (cI, 12, .inl (fun _ => 0))), (q_2, .inl (cI, 12, .inl (fun _ => 0))), (q_3, .inl (cI, 12, .inl (fun _ => 0))), (q_4, .inr (iX1, [.long (frU 1 1), .long (frL 1 1)])), (q_6, .inr (iX1, [.long (frU 0 1), .long (frL 0 1)])), (q_8, .inl (cF, 7, .inr (.inr (.inr (.inr (fun _ => none))))))]) H := hP
  have hD : va_D A ([(g, .inr (iX2, [.int 0, .ref q_1, .ref q_2, .ref q_3, .ref q_4, .ref q_6, .ref q_8, .null])), (q_1, .inl (cI, 12, .inl (fun _ => 0))), (q_2, .inl (cI, 12, .inl (fun _ => 0))), (q_3, .inl (cI, 12, .inl (fun _ => 0))), (q_4, .inr (iX1, [.long (frU 1 1), .long (frL 1 1)])), (q_6, .inr (iX1, [.long (frU 0 1), .long (frL 0 1)])), (q_8, .inl (cF, 7, .inr (.inr (.inr (.inr (fun _ => none))))))]) := hD
  refine lv_aload_n hx hb dX2_init_63 rfl (lv_at hl 0 rfl) ?_
  refine lv_bipush (v := 7) hx hb dX2_init_64 (by decide) ?_
  refine va_newq (D := (dC, dI)) (C := RX1) (N' := 7) hx hb hown hw_cl21 (aoAt hN) hK hP hD hS hA (by decide) (by decide) (by decide) (Nat.le_of_ble_eq_true rfl) (Nat.le_of_ble_eq_true rfl) dX2_init_66 (fun q_9 cN H hKn hP hD hS => ?_)
  obtain rfl : cF = cN := (tyEq hKn hK 1 rfl).symm
  have hP : va_P (dC, dI) vwCl ([(g, .inr (iX2, [.int 0, .ref q_1, .ref q_2, .ref q_3, .ref q_4, .ref q_6, .ref q_8, .null])), (q_1, .inl (cI, 12, .inl (fun _ => 0))), (q_2, .inl (cI, 12, .inl (fun _ => 0))), (q_3, .inl (cI, 12, .inl (fun _ => 0))), (q_4, .inr (iX1, [.long (frU 1 1), .long (frL 1 1)])), (q_6, .inr (iX1, [.long (frU 0 1), .long (frL 0 1)])), (q_8, .inl (cF, 7, .inr (.inr (.inr (.inr (fun _ => none)))))), (q_9, .inl (cF, 7, .inr (.inr (.inr (.inr (fun _ => none))))))]) H := hP
  have hD : va_D A ([(g, .inr (iX2, [.int 0, .ref q_1, .ref q_2, .ref q_3, .ref q_4, .ref q_6, .ref q_8, .null])), (q_1, .inl (cI, 12, .inl (fun _ => 0))), (q_2, .inl (cI, 12, .inl (fun _ => 0))), (q_3, .inl (cI, 12, .inl (fun _ => 0))), (q_4, .inr (iX1, [.long (frU 1 1), .long (frL 1 1)])), (q_6, .inr (iX1, [.long (frU 0 1), .long (frL 0 1)])), (q_8, .inl (cF, 7, .inr (.inr (.inr (.inr (fun _ => none)))))), (q_9, .inl (cF, 7, .inr (.inr (.inr (.inr (fun _ => none))))))]) := hD
  refine va_putF (D := (dC, dI)) (ci := iX2) (v := .ref q_9) (ty := (.array (.object "Greenwheels$Fraction"))) (C := RX2) (T := TX2) (N := 8) hx hb hts hin_X2 tyX2 tyX2_ok nmX2 hown hK hP hD hS 0 rfl rfl 7 (by decide) hfl_37 (fun _ h9 => h9) rfl hin rfl (by decide +kernel) rfl rfl (Nat.le_of_ble_eq_true rfl) dX2_init_69 (fun H locs hP hD hS => ?_)
  have hP : va_P (dC, dI) vwCl ([(g, .inr (iX2, [.int 0, .ref q_1, .ref q_2, .ref q_3, .ref q_4, .ref q_6, .ref q_8, .ref q_9])), (q_1, .inl (cI, 12, .inl (fun _ => 0))), (q_2, .inl (cI, 12, .inl (fun _ => 0))), (q_3, .inl (cI, 12, .inl (fun _ => 0))), (q_4, .inr (iX1, [.long (frU 1 1), .long (frL 1 1)])), (q_6, .inr (iX1, [.long (frU 0 1), .long (frL 0 1)])), (q_8, .inl (cF, 7, .inr (.inr (.inr (.inr (fun _ => none)))))), (q_9, .inl (cF, 7, .inr (.inr (.inr (.inr (fun _ => none))))))]) H := hP
  have hD : va_D A ([(g, .inr (iX2, [.int 0, .ref q_1, .ref q_2, .ref q_3, .ref q_4, .ref q_6, .ref q_8, .ref q_9])), (q_1, .inl (cI, 12, .inl (fun _ => 0))), (q_2, .inl (cI, 12, .inl (fun _ => 0))), (q_3, .inl (cI, 12, .inl (fun _ => 0))), (q_4, .inr (iX1, [.long (frU 1 1), .long (frL 1 1)])), (q_6, .inr (iX1, [.long (frU 0 1), .long (frL 0 1)])), (q_8, .inl (cF, 7, .inr (.inr (.inr (.inr (fun _ => none)))))), (q_9, .inl (cF, 7, .inr (.inr (.inr (.inr (fun _ => none))))))]) := hD
  have hne : q_6 ≠ q_4 := fun z => absurd (hD.1 5 4 _ _ rfl rfl z) (by decide)
  have hD := hD.sub (ws' := [(g, .inr (iX2, [.int 0, .ref q_1, .ref q_2, .ref q_3, .ref q_4, .ref q_6, .ref q_8, .ref q_9])), (q_1, .inl (cI, 12, .inl (fun _ => 0))), (q_2, .inl (cI, 12, .inl (fun _ => 0))), (q_3, .inl (cI, 12, .inl (fun _ => 0))), (q_8, .inl (cF, 7, .inr (.inr (.inr (.inr (fun _ => none)))))), (q_9, .inl (cF, 7, .inr (.inr (.inr (.inr (fun _ => none))))))] ++ [(q_4, .inr (iX1, [.long (frU 1 1), .long (frL 1 1)])), (q_6, .inr (iX1, [.long (frU 0 1), .long (frL 0 1)]))]) [0, 1, 2, 3, 6, 7, 4, 5] (by decide) rfl
  have hP : va_P (dC, dI) vwCl ([(g, .inr (iX2, [.int 0, .ref q_1, .ref q_2, .ref q_3, .ref q_4, .ref q_6, .ref q_8, .ref q_9])), (q_1, .inl (cI, 12, .inl (fun _ => 0))), (q_2, .inl (cI, 12, .inl (fun _ => 0))), (q_3, .inl (cI, 12, .inl (fun _ => 0))), (q_8, .inl (cF, 7, .inr (.inr (.inr (.inr (fun _ => none)))))), (q_9, .inl (cF, 7, .inr (.inr (.inr (.inr (fun _ => none))))))] ++ [(q_4, .inr (iX1, [.long (frU 1 1), .long (frL 1 1)])), (q_6, .inr (iX1, [.long (frU 0 1), .long (frL 0 1)]))]) _ := hP.sub [0, 1, 2, 3, 6, 7, 4, 5] rfl
  rw [show ([(q_4, .inr (iX1, [.long (frU 1 1), .long (frL 1 1)])), (q_6, .inr (iX1, [.long (frU 0 1), .long (frL 0 1)]))] : va_W) = va_pl [q_4, q_6] (fe (va_up (fun _ => fZ) q_4 fW)) from poolE (p := fW) (q := fZ) hne] at hP hD
  have hG : ([(g, .inr (iX2, [.int 0, .ref q_1, .ref q_2, .ref q_3, .ref q_4, .ref q_6, .ref q_8, .ref q_9])), (q_1, .inl (cI, 12, .inl (fun _ => 0))), (q_2, .inl (cI, 12, .inl (fun _ => 0))), (q_3, .inl (cI, 12, .inl (fun _ => 0))), (q_8, .inl (cF, 7, .inr (.inr (.inr (.inr (fun _ => none)))))), (q_9, .inl (cF, 7, .inr (.inr (.inr (.inr (fun _ => none))))))] : va_W) = [(g, .inr (iX2, [.int 0, .ref q_1, .ref q_2, .ref q_3, .ref q_4, .ref q_6, .ref q_8, .ref q_9])), (q_1, .inl (cI, 12, .inl (zI))), (q_2, .inl (cI, 12, .inl (zI))), (q_3, .inl (cI, 12, .inl (zI))), (q_8, .inl (cF, 7, .inr (.inr (.inr (.inr (nQ)))))), (q_9, .inl (cF, 7, .inr (.inr (.inr (.inr (nQ))))))] := rfl
  rw [hG] at hP hD
  have hG0 : ([(g, .inr (iX2, [.int 0, .ref q_1, .ref q_2, .ref q_3, .ref q_4, .ref q_6, .ref q_8, .ref q_9]))] : va_W) = [(g, .inr (iX2, [.int (nI 0), .ref q_1, .ref q_2, .ref q_3, .ref q_4, .ref q_6, .ref q_8, .ref q_9]))] := rfl
  have hP : va_P (dC, dI) vwCl ([(g, .inr (iX2, [.int (nI 0), .ref q_1, .ref q_2, .ref q_3, .ref q_4, .ref q_6, .ref q_8, .ref q_9])), (q_1, .inl (cI, 12, .inl (zI))), (q_2, .inl (cI, 12, .inl (zI))), (q_3, .inl (cI, 12, .inl (zI))), (q_8, .inl (cF, 7, .inr (.inr (.inr (.inr (nQ)))))), (q_9, .inl (cF, 7, .inr (.inr (.inr (.inr (nQ))))))] ++ va_pl ([q_4, q_6]) (fe (va_up (fun _ => fZ) q_4 fW))) _ := hP
  have hD : va_D A ([(g, .inr (iX2, [.int (nI 0), .ref q_1, .ref q_2, .ref q_3, .ref q_4, .ref q_6, .ref q_8, .ref q_9])), (q_1, .inl (cI, 12, .inl (zI))), (q_2, .inl (cI, 12, .inl (zI))), (q_3, .inl (cI, 12, .inl (zI))), (q_8, .inl (cF, 7, .inr (.inr (.inr (.inr (nQ)))))), (q_9, .inl (cF, 7, .inr (.inr (.inr (.inr (nQ))))))] ++ va_pl ([q_4, q_6]) (fe (va_up (fun _ => fZ) q_4 fW))) := hD
  refine lv_aload_n hx hb dX2_init_72 rfl (lv_at hl 0 rfl) ?_
  refine lv_iconst (v := 0) hx hb dX2_init_73 (by decide) ?_
  refine lv_aload_n hx hb dX2_init_74 rfl (lv_at hl 0 rfl) ?_
  refine va_get (D := (dC, dI)) (ci := iX2) (v := .ref q_8) (C := RX2) (T := TX2) (N := 8) hx hb hts hin_X2 hown hK hP 0 rfl rfl 6 (by decide) hfl_33 (fun _ h9 => h9) rfl dX2_init_75 ?_
  have hPc : va_P (dC, dI) vwCl ([(g, .inr (iX2, [.int (nI 0), .ref q_1, .ref q_2, .ref q_3, .ref q_4, .ref q_6, .ref q_8, .ref q_9])), (q_1, .inl (cI, 12, .inl (zI))), (q_2, .inl (cI, 12, .inl (zI))), (q_3, .inl (cI, 12, .inl (zI))), (q_8, .inl (cF, 7, .inr (.inr (.inr (.inr (nQ))))))] ++ va_pl ([q_4, q_6]) (fe (va_up (fun _ => fZ) q_4 fW))) _ := hP.part [0, 1, 2, 3, 4] rfl
  have hDc : va_D (fun _ => True) ([(g, .inr (iX2, [.int (nI 0), .ref q_1, .ref q_2, .ref q_3, .ref q_4, .ref q_6, .ref q_8, .ref q_9])), (q_1, .inl (cI, 12, .inl (zI))), (q_2, .inl (cI, 12, .inl (zI))), (q_3, .inl (cI, 12, .inl (zI))), (q_8, .inl (cF, 7, .inr (.inr (.inr (.inr (nQ))))))] ++ va_pl ([q_4, q_6]) (fe (va_up (fun _ => fZ) q_4 fW))) := (hD.part (cx := [(g, .inr (iX2, [.int (nI 0), .ref q_1, .ref q_2, .ref q_3, .ref q_4, .ref q_6, .ref q_8, .ref q_9])), (q_1, .inl (cI, 12, .inl (zI))), (q_2, .inl (cI, 12, .inl (zI))), (q_3, .inl (cI, 12, .inl (zI))), (q_8, .inl (cF, 7, .inr (.inr (.inr (.inr (nQ))))))]) [0, 1, 2, 3, 4] (by decide) rfl).weaken (fun _ _ _ _ => trivial)
  have hFc := va_freeP (cx := [(g, .inr (iX2, [.int (nI 0), .ref q_1, .ref q_2, .ref q_3, .ref q_4, .ref q_6, .ref q_8, .ref q_9])), (q_1, .inl (cI, 12, .inl (zI))), (q_2, .inl (cI, 12, .inl (zI))), (q_3, .inl (cI, 12, .inl (zI))), (q_8, .inl (cF, 7, .inr (.inr (.inr (.inr (nQ))))))]) hD hS hA [0, 1, 2, 3, 4] rfl
  refine va_callv (va_runV (As := [.int 0, .ref q_8]) (rest := []) ⟨hx, hb, hml, hown, hts⟩ (c_X2_spreadRates l dC dI cI cF tr (H).size g 0 q_1 q_2 q_3 q_4 q_6 q_8 q_9 zI zI zI q_8 nQ ([q_4, q_6]) (va_up (fun _ => fZ) q_4 fW) 0 bOK_nQ (by decide) (by simp)) (cwV 2 hts gX2_init_X2_spreadRates rfl rfl rfl (by decide +kernel) ⟨Nat.le_of_ble_eq_true rfl, Nat.le_of_ble_eq_true rfl⟩) ⟨cDbl, (va_recv hK hPc (ci := iX2) (q0 := 0) rfl rfl), (cDpre hPc hK hN hDc)⟩ rfl rfl hl.1 rfl (lv_room (Nat.le_of_ble_eq_true rfl)) dX2_init_78 ⟨(Nat.le_of_ble_eq_true rfl), (Nat.le_of_ble_eq_true rfl)⟩) hS (fun q _ h => hFc q h) hFc (fun u t H1 locs ht hvm hw_r_10 hB hz1 hk1 hS => ?_)
  refine W.widen (k := 1015) (n := 2070) (by omega) (by omega) ?_
  obtain ⟨hP1, hD1⟩ := hB
  rw [ht] at hP1
  obtain ⟨b1_11, LP1_12, v1_13⟩ := u
  obtain ⟨hP, hD⟩ := va_joinP (wr := [(q_9, .inl (cF, 7, .inr (.inr (.inr (.inr (nQ))))))]) (rx := [(g, .inr (iX2, [.int (nI 0), .ref q_1, .ref q_2, .ref q_3, .ref q_4, .ref q_6, .ref q_8, .ref q_9])), (q_1, .inl (cI, 12, .inl (zI))), (q_2, .inl (cI, 12, .inl (zI))), (q_3, .inl (cI, 12, .inl (zI))), (q_8, .inl (cF, 7, .inr (.inr (.inr (.inr (b1_11))))))]) (pl1 := va_pl LP1_12 (fe v1_13)) hP hD [0, 1, 2, 3, 4] [5] rfl rfl (by decide) (by decide) hk1 hFc hP1 hD1
  have hD := hD.part (cx := [(g, .inr (iX2, [.int (nI 0), .ref q_1, .ref q_2, .ref q_3, .ref q_4, .ref q_6, .ref q_8, .ref q_9])), (q_1, .inl (cI, 12, .inl (zI))), (q_2, .inl (cI, 12, .inl (zI))), (q_3, .inl (cI, 12, .inl (zI))), (q_8, .inl (cF, 7, .inr (.inr (.inr (.inr (b1_11)))))), (q_9, .inl (cF, 7, .inr (.inr (.inr (.inr (nQ))))))]) [1, 2, 3, 4, 5, 0] (by decide) rfl
  have hP : va_P (dC, dI) vwCl ([(g, .inr (iX2, [.int (nI 0), .ref q_1, .ref q_2, .ref q_3, .ref q_4, .ref q_6, .ref q_8, .ref q_9])), (q_1, .inl (cI, 12, .inl (zI))), (q_2, .inl (cI, 12, .inl (zI))), (q_3, .inl (cI, 12, .inl (zI))), (q_8, .inl (cF, 7, .inr (.inr (.inr (.inr (b1_11)))))), (q_9, .inl (cF, 7, .inr (.inr (.inr (.inr (nQ))))))] ++ va_pl LP1_12 (fe v1_13)) H1 := hP.part [1, 2, 3, 4, 5, 0] rfl
  generalize H1 = H at hP hS ⊢
  have hP : va_P (dC, dI) vwCl ([(g, .inr (iX2, [.int (nI 0), .ref q_1, .ref q_2, .ref q_3, .ref q_4, .ref q_6, .ref q_8, .ref q_9])), (q_1, .inl (cI, 12, .inl (zI))), (q_2, .inl (cI, 12, .inl (zI))), (q_3, .inl (cI, 12, .inl (zI))), (q_8, .inl (cF, 7, .inr (.inr (.inr (.inr (b1_11)))))), (q_9, .inl (cF, 7, .inr (.inr (.inr (.inr (nQ))))))] ++ va_pl LP1_12 (fe v1_13)) H := hP
  have hD : va_D A ([(g, .inr (iX2, [.int (nI 0), .ref q_1, .ref q_2, .ref q_3, .ref q_4, .ref q_6, .ref q_8, .ref q_9])), (q_1, .inl (cI, 12, .inl (zI))), (q_2, .inl (cI, 12, .inl (zI))), (q_3, .inl (cI, 12, .inl (zI))), (q_8, .inl (cF, 7, .inr (.inr (.inr (.inr (b1_11)))))), (q_9, .inl (cF, 7, .inr (.inr (.inr (.inr (nQ))))))] ++ va_pl LP1_12 (fe v1_13)) := hD
  try dsimp only at hw_r_10
  obtain ⟨hq1, hq2, hq3⟩ := hw_r_10
  refine W.widen (k := 1015) (n := 2070) (by omega) (by omega) ?_
  have eq_14 : ([(g, .inr (iX2, [.int (nI 0), .ref q_1, .ref q_2, .ref q_3, .ref q_4, .ref q_6, .ref q_8, .ref q_9])), (q_1, .inl (cI, 12, .inl (zI))), (q_2, .inl (cI, 12, .inl (zI))), (q_3, .inl (cI, 12, .inl (zI))), (q_8, .inl (cF, 7, .inr (.inr (.inr (.inr (b1_11)))))), (q_9, .inl (cF, 7, .inr (.inr (.inr (.inr (nQ))))))] : va_W) = [(g, .inr (iX2, [.int 0, .ref q_1, .ref q_2, .ref q_3, .ref q_4, .ref q_6, .ref q_8, .ref q_9])), (q_1, .inl (cI, 12, .inl (zI))), (q_2, .inl (cI, 12, .inl (zI))), (q_3, .inl (cI, 12, .inl (zI))), (q_8, .inl (cF, 7, .inr (.inr (.inr (.inr (b1_11)))))), (q_9, .inl (cF, 7, .inr (.inr (.inr (.inr (nQ))))))] := (by first | rfl | (simp []; done) | contradiction)
  rw [eq_14] at hP hD
  exact W.vret hx hb hr (fun t ht hW => ⟨⟨(q_1, q_2, q_3, q_4, q_6, q_8, q_9, b1_11, LP1_12, v1_13), rfl, ⟨(hq2 _ (by simp)).1, (hq2 _ (by simp)).1, by show v1_13 q_4 = fW; rw [(hq2 _ (by simp)).2, va_up_self], by show v1_13 q_6 = fZ; rw [(hq2 _ (by simp)).2, va_up_ne _ _ hne], hq1, by show abR b1_11 v1_13 = _; rw [hq3, va_up_self]⟩, by rw [ht]; exact hP, hAe ▸ hD⟩, hS.F ht⟩) hS.2.2 dX2_init_81
