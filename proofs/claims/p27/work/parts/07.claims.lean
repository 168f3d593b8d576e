/-! the claims -/
def stL (nr : Nat → Int32) (tk : Int32) : Nat → Int32
  | 0 => 0
  | k + 1 => if isInF tk (nI k) = 0 then (if atF 12 nr (nI k) &&& (stL nr tk k ^^^ (-1)) = 0 then stL nr tk k ||| 1 <<< (nI k &&& 31) else stL nr tk k) else stL nr tk k
def acL (on : Int32) (nf : Nat → Int32) : Nat → Int32
  | 0 => on
  | k + 1 => if isInF on (nI k) = 0 then acL on nf k else acL on nf k ||| atF 12 nf (nI k)
def swF (wd c b : Int32) : Int32 := if b = 0 then wd &&& (1 <<< (c &&& 31) ^^^ (-1)) else wd ||| 1 <<< (c &&& 31)
def acnL (S wd : Int32) (nf : Nat → Int32) : Nat → Nat → Int32
  | 0, _ => 1
  | r + 1, k => if isInF S (nI k) = (if (atF 12 nf (nI k) ||| 1 <<< (nI k &&& 31)) &&& wd = 0 then 1 else 0) then acnL S wd nf r (k + 1) else 0
theorem Lib_abs_trivial : True := trivial

set_option maxHeartbeats 4000000 in
set_option maxRecDepth 100000 in
theorem c_X0_init (l : Launch) (dC : Nat → ClassId) (dI : Nat → Nat → Nat) (cI cF : ClassId) (tr : List (ClassId × FieldType)) (sz : Nat) (g : Nat) : Met l yX0_init wsX0_init ({ frames := 1, cells := 2, slots := 24, locals := 12 } : Room) (cPd dC dI ((cI, .int) :: (cF, .object RX1) :: tr) sz ([(g, .inr (iX0, [.int 0, .int 0, .null, .null]))]) [.ref g]) (va_Qv (fun _ : Nat × Nat => True) (fun ⟨xn, xf⟩ t => va_P (dC, dI) vwCl ([(g, .inr (iX0, [.int 0, .int 0, .ref xn, .ref xf])), (xn, .inl (cI, 12, .inl (zI))), (xf, .inl (cI, 12, .inl (zI)))]) t.heap ∧ va_D (va_A ([(g, .inr (iX0, [.int 0, .int 0, .null, .null]))]) sz) ([(g, .inr (iX0, [.int 0, .int 0, .ref xn, .ref xf])), (xn, .inl (cI, 12, .inl (zI))), (xf, .inl (cI, 12, .inl (zI)))])) (va_A ([(g, .inr (iX0, [.int 0, .int 0, .null, .null]))]) sz)) 2 24 (va_A ([(g, .inr (iX0, [.int 0, .int 0, .null, .null]))]) sz) := by
  refine Met.ofW (cc := cX0_init) (maxL := 1) (ret := none) (by decide) rfl ?_
  intro p e s m args below meth c s₁ B hml hv
  obtain ⟨rfl, hsz, hP, hK, hN, hD0⟩ := hv
  have hx := B.exec
  have hb := B.bytes
  have hr := B.returns
  have hts := atoms_spec (ws := wsX0_init) B.pre
  have hown : s.vm.findClass RX0 = some m.cls := findClass_of_methodNamed B.named
  have hlocks := B.notSynchronized
  have hin : meth.name = "<init>" := (name_of_methodNamed B.named B.method).1
  subst hsz
  have hD := hD0.self (sz := s.heap.size)
  generalize hAe : va_A ([(g, .inr (iX0, [.int 0, .int 0, .null, .null]))]) s.heap.size = A at hD ⊢
  have hA : ∀ q : Nat, s.heap.size ≤ q → A q := fun q h => by rw [← hAe]; exact Or.inr h
  have hS : va_S A s.heap s.heap [] := va_S.rf
  have hP : va_P (dC, dI) vwCl ([(g, .inr (iX0, [.int 0, .int 0, .null, .null]))]) s.heap := hP
  have hl := lv_entry ([.ref g]) (n := 1) (Nat.le_of_ble_eq_true rfl)
  rw [lg_entry_eq]
  generalize (lg_sl ([.ref g]) ++ List.replicate (1 - (lg_sl ([.ref g])).length) Slot.unset).toArray = ls at hl ⊢
  have hl : lv_has ls 1 [(0, .ref g)] := hl
  have hw_oi_l := hts (.methodLink RX0 3 objectInit) (by decide +kernel)
  have hw_oi_i := hts (.instanceMethod objectInit) (by decide +kernel)
  have hw_oi_c := hts (.code objectInit ⟨#[0xb1]⟩ 1 none) (by decide +kernel)
  have hw_arr_int := hts (.arrayClass (newarray.typeOf .int)) (by decide +kernel)
  have hfl_9 := hts (.fieldLink RX0 9 "Greenwheels$Claims" "near" "[I") (by decide +kernel)
  have hin_X0 : ∀ w ∈ u_ws RX0 TX0 4, w ∈ wsX0_init := by decide +kernel
  have hfl_15 := hts (.fieldLink RX0 15 "Greenwheels$Claims" "nearAndFar" "[I") (by decide +kernel)
  refine lv_aload_n hx hb dX0_init_0 rfl (lv_at hl 0 rfl) ?_
  refine W.objInit hx hb hown hw_oi_l hw_oi_i hw_oi_c rfl (by rw [hml]; exact hl.1) rfl dX0_init_1 (Nat.le_of_ble_eq_true rfl) (Nat.le_of_ble_eq_true rfl) ?_
  refine W.eq (g2 := F0 m 4 ls []) rfl ?_
  refine lv_aload_n hx hb dX0_init_4 rfl (lv_at hl 0 rfl) ?_
  refine lv_bipush (v := 12) hx hb dX0_init_5 (by decide) ?_
  refine va_newa (D := (dC, dI)) (atype := .int) (ty := .int) (N' := 12) (a0 := (12, .inl (fun _ => 0))) hx hb hw_arr_int rfl hK hP hD hS hA (fun _ => rfl) (by decide) (by decide) (by decide) (Nat.le_of_ble_eq_true rfl) (Nat.le_of_ble_eq_true rfl) dX0_init_7 (fun q_1 cN H hKn hP hD hS => ?_)
  obtain rfl : cI = cN := (tyEq hKn hK 0 rfl).symm
  have hP : va_P (dC, dI) vwCl ([(g, .inr (iX0, [.int 0, .int 0, .null, .null])), (q_1, .inl (cI, 12, .inl (fun _ => 0)))]) H := hP
  have hD : va_D A ([(g, .inr (iX0, [.int 0, .int 0, .null, .null])), (q_1, .inl (cI, 12, .inl (fun _ => 0)))]) := hD
  refine va_putF (D := (dC, dI)) (ci := iX0) (v := .ref q_1) (ty := (.array .int)) (C := RX0) (T := TX0) (N := 4) hx hb hts hin_X0 tyX0 tyX0_ok nmX0 hown hK hP hD hS 0 rfl rfl 2 (by decide) hfl_9 (fun _ h9 => h9) rfl hin rfl (by decide +kernel) rfl rfl (Nat.le_of_ble_eq_true rfl) dX0_init_9 (fun H locs hP hD hS => ?_)
  have hP : va_P (dC, dI) vwCl ([(g, .inr (iX0, [.int 0, .int 0, .ref q_1, .null])), (q_1, .inl (cI, 12, .inl (fun _ => 0)))]) H := hP
  have hD : va_D A ([(g, .inr (iX0, [.int 0, .int 0, .ref q_1, .null])), (q_1, .inl (cI, 12, .inl (fun _ => 0)))]) := hD
  refine lv_aload_n hx hb dX0_init_12 rfl (lv_at hl 0 rfl) ?_
  refine lv_bipush (v := 12) hx hb dX0_init_13 (by decide) ?_
  refine va_newa (D := (dC, dI)) (atype := .int) (ty := .int) (N' := 12) (a0 := (12, .inl (fun _ => 0))) hx hb hw_arr_int rfl hK hP hD hS hA (fun _ => rfl) (by decide) (by decide) (by decide) (Nat.le_of_ble_eq_true rfl) (Nat.le_of_ble_eq_true rfl) dX0_init_15 (fun q_2 cN H hKn hP hD hS => ?_)
  obtain rfl : cI = cN := (tyEq hKn hK 0 rfl).symm
  have hP : va_P (dC, dI) vwCl ([(g, .inr (iX0, [.int 0, .int 0, .ref q_1, .null])), (q_1, .inl (cI, 12, .inl (fun _ => 0))), (q_2, .inl (cI, 12, .inl (fun _ => 0)))]) H := hP
  have hD : va_D A ([(g, .inr (iX0, [.int 0, .int 0, .ref q_1, .null])), (q_1, .inl (cI, 12, .inl (fun _ => 0))), (q_2, .inl (cI, 12, .inl (fun _ => 0)))]) := hD
  refine va_putF (D := (dC, dI)) (ci := iX0) (v := .ref q_2) (ty := (.array .int)) (C := RX0) (T := TX0) (N := 4) hx hb hts hin_X0 tyX0 tyX0_ok nmX0 hown hK hP hD hS 0 rfl rfl 3 (by decide) hfl_15 (fun _ h9 => h9) rfl hin rfl (by decide +kernel) rfl rfl (Nat.le_of_ble_eq_true rfl) dX0_init_17 (fun H locs hP hD hS => ?_)
  have hP : va_P (dC, dI) vwCl ([(g, .inr (iX0, [.int 0, .int 0, .ref q_1, .ref q_2])), (q_1, .inl (cI, 12, .inl (fun _ => 0))), (q_2, .inl (cI, 12, .inl (fun _ => 0)))]) H := hP
  have hD : va_D A ([(g, .inr (iX0, [.int 0, .int 0, .ref q_1, .ref q_2])), (q_1, .inl (cI, 12, .inl (fun _ => 0))), (q_2, .inl (cI, 12, .inl (fun _ => 0)))]) := hD
  refine W.widen (k := 2) (n := 24) (by omega) (by omega) ?_
  have eq_3 : ([(g, .inr (iX0, [.int 0, .int 0, .ref q_1, .ref q_2])), (q_1, .inl (cI, 12, .inl (fun _ => 0))), (q_2, .inl (cI, 12, .inl (fun _ => 0)))] : va_W) = [(g, .inr (iX0, [.int 0, .int 0, .ref q_1, .ref q_2])), (q_1, .inl (cI, 12, .inl (zI))), (q_2, .inl (cI, 12, .inl (zI)))] := (by first | rfl | (simp []; done) | contradiction)
  rw [eq_3] at hP hD
  exact W.vret hx hb hr (fun t ht hW => ⟨⟨(q_1, q_2), rfl, trivial, by rw [ht]; exact hP, hAe ▸ hD⟩, hS.F ht⟩) hS.2.2 dX0_init_20

set_option maxHeartbeats 4000000 in
set_option maxRecDepth 100000 in
theorem c_X0_isSetOfThem (l : Launch) (dC : Nat → ClassId) (dI : Nat → Nat → Nat) (cI cF : ClassId) (tr : List (ClassId × FieldType)) (sz : Nat) (g : Nat) (n : Nat) (wd : Int32) (xn : Nat) (xf : Nat) (i : Int32) : Met l yX0_isSetOfThem wsX0_isSetOfThem ({ frames := 0, cells := 0, slots := 0, locals := 0 } : Room) (cPc dC dI ((cI, .int) :: (cF, .object RX1) :: tr) sz ([(g, .inr (iX0, [.int (nI n), .int wd, .ref xn, .ref xf]))]) [.ref g, .int i]) (va_Qi (fun (r : Int32) (_ : Unit) => r = if i < 0 then 0 else if i >>> (nI n &&& 31) = 0 then 1 else 0) (fun _ _ => True) (va_A ([]) sz)) 0 0 (va_A ([]) sz) := by
  refine Met.ofW (cc := cX0_isSetOfThem) (maxL := 2) (ret := (some .boolean)) (by decide) rfl ?_
  intro p e s m args below meth c s₁ B hml hv
  obtain ⟨rfl, hsz, hP, hK, hN⟩ := hv
  have hx := B.exec
  have hb := B.bytes
  have hr := B.returns
  have hts := atoms_spec (ws := wsX0_isSetOfThem) B.pre
  have hown : s.vm.findClass RX0 = some m.cls := findClass_of_methodNamed B.named
  have hlocks := B.notSynchronized
  subst hsz
  generalize hAe : va_A [] s.heap.size = A
  have hA : ∀ q : Nat, s.heap.size ≤ q → A q := fun q h => by rw [← hAe]; exact Or.inr h
  have hS : va_S A s.heap s.heap [] := va_S.rf
  have hAn : ∀ q : Nat, q < s.heap.size → ¬ A q := fun q h => by rw [← hAe]; exact notZ h
  have hAg : ∀ q : Nat, A q → s.heap.size ≤ q := fun q h => geZ (hAe ▸ h)
  have hR0 : va_P (dC, dI) vwCl ([(g, .inr (iX0, [.int (nI n), .int wd, .ref xn, .ref xf]))]) s.heap := hP
  have hR : va_P (dC, dI) vwCl ([(g, .inr (iX0, [.int (nI n), .int wd, .ref xn, .ref xf]))]) s.heap := hP
  have hP : va_P (dC, dI) vwCl [] s.heap := fun k q h => by simp at h
  have hD : va_D A [] := ⟨fun i j p q h => by simp at h, fun k q h => by simp at h⟩
  have hl := lv_entry ([.ref g, .int i]) (n := 2) (Nat.le_of_ble_eq_true rfl)
  rw [lg_entry_eq]
  generalize (lg_sl ([.ref g, .int i]) ++ List.replicate (2 - (lg_sl ([.ref g, .int i])).length) Slot.unset).toArray = ls at hl ⊢
  have hl : lv_has ls 2 [(0, .ref g), (1, .int i)] := hl
  have hfl_18 := hts (.fieldLink RX0 18 "Greenwheels$Claims" "count" "I") (by decide +kernel)
  have hin_X0 : ∀ w ∈ u_ws RX0 TX0 4, w ∈ wsX0_isSetOfThem := by decide +kernel
  refine lv_iload_n hx hb dX0_isSetOfThem_0 rfl (lv_at hl 1 rfl) ?_
  refine lv_if_lt (tgt := 17) hx hb dX0_isSetOfThem_1 (by decide) (fun c_1 => ?_) (fun c_1 => ?_)
  · refine lv_iconst (v := 0) hx hb dX0_isSetOfThem_17 (by decide) ?_
    refine W.widen (k := 0) (n := 0) (by omega) (by omega) ?_
    exact W.zret (v := 0) hx hb hr (by first | rfl | simp [narrow] | assumption) (fun t ht hW => ⟨⟨0, (), rfl, (by first | (simp [c_1]; done) | contradiction), trivial⟩, hS.F ht⟩) hS.2.2 dX0_isSetOfThem_18
  · refine lv_iload_n hx hb dX0_isSetOfThem_4 rfl (lv_at hl 1 rfl) ?_
    refine lv_aload_n hx hb dX0_isSetOfThem_5 rfl (lv_at hl 0 rfl) ?_
    refine va_get (D := (dC, dI)) (ci := iX0) (v := .int (nI n)) (C := RX0) (T := TX0) (N := 4) hx hb hts hin_X0 hown hK hR 0 rfl rfl 0 (by decide) hfl_18 (fun _ h9 => h9) rfl dX0_isSetOfThem_6 ?_
    refine lv_ishr hx hb dX0_isSetOfThem_9 ?_
    refine lv_if_ne (tgt := 17) hx hb dX0_isSetOfThem_10 (by decide) (fun c_2 => ?_) (fun c_2 => ?_)
    · refine lv_iconst (v := 0) hx hb dX0_isSetOfThem_17 (by decide) ?_
      refine W.widen (k := 0) (n := 0) (by omega) (by omega) ?_
      exact W.zret (v := 0) hx hb hr (by first | rfl | simp [narrow] | assumption) (fun t ht hW => ⟨⟨0, (), rfl, (by first | (simp [c_1, c_2]; done) | contradiction), trivial⟩, hS.F ht⟩) hS.2.2 dX0_isSetOfThem_18
    · refine lv_iconst (v := 1) hx hb dX0_isSetOfThem_13 (by decide) ?_
      refine lv_goto (tgt := 18) hx hb dX0_isSetOfThem_14 (by decide) ?_
      refine W.widen (k := 0) (n := 0) (by omega) (by omega) ?_
      exact W.zret (v := 1) hx hb hr (by first | rfl | simp [narrow] | assumption) (fun t ht hW => ⟨⟨1, (), rfl, (by first | (simp [c_1, c_2]; done) | contradiction), trivial⟩, hS.F ht⟩) hS.2.2 dX0_isSetOfThem_18

set_option maxHeartbeats 4000000 in
set_option maxRecDepth 100000 in
theorem c_X0_addClaim (l : Launch) (dC : Nat → ClassId) (dI : Nat → Nat → Nat) (cI cF : ClassId) (tr : List (ClassId × FieldType)) (sz : Nat) (g : Nat) (n : Nat) (wd : Int32) (xn : Nat) (xf : Nat) (nr : Nat → Int32) (nf : Nat → Int32) (i : Int32) (hn : n ≤ 12) : Met l yX0_addClaim wsX0_addClaim ({ frames := 1, cells := 0, slots := 0, locals := 22 } : Room) (cPd dC dI ((cI, .int) :: (cF, .object RX1) :: tr) sz ([(g, .inr (iX0, [.int (nI n), .int wd, .ref xn, .ref xf])), (xn, .inl (cI, 12, .inl (nr))), (xf, .inl (cI, 12, .inl (nf)))]) [.ref g, .int i]) (va_Qi (fun (r : Int32) (_ : Unit) => r = nI n) (fun _ t => va_P (dC, dI) vwCl ([(g, .inr (iX0, [.int (nI (n + 1)), .int wd, .ref xn, .ref xf])), (xn, .inl (cI, 12, .inl (putF 12 nr (nI n) i))), (xf, .inl (cI, 12, .inl (putF 12 nf (nI n) (acL i nf n))))]) t.heap ∧ va_D (va_A ([(g, .inr (iX0, [.int (nI n), .int wd, .ref xn, .ref xf])), (xn, .inl (cI, 12, .inl (nr))), (xf, .inl (cI, 12, .inl (nf)))]) sz) ([(g, .inr (iX0, [.int (nI (n + 1)), .int wd, .ref xn, .ref xf])), (xn, .inl (cI, 12, .inl (putF 12 nr (nI n) i))), (xf, .inl (cI, 12, .inl (putF 12 nf (nI n) (acL i nf n))))])) (va_A ([(g, .inr (iX0, [.int (nI n), .int wd, .ref xn, .ref xf])), (xn, .inl (cI, 12, .inl (nr))), (xf, .inl (cI, 12, .inl (nf)))]) sz)) 0 0 (va_A ([(g, .inr (iX0, [.int (nI n), .int wd, .ref xn, .ref xf])), (xn, .inl (cI, 12, .inl (nr))), (xf, .inl (cI, 12, .inl (nf)))]) sz) := by
  refine Met.ofW (cc := cX0_addClaim) (maxL := 5) (ret := (some .int)) (by decide) rfl ?_
  intro p e s m args below meth c s₁ B hml hv
  obtain ⟨rfl, hsz, hP, hK, hN, hD0⟩ := hv
  have hx := B.exec
  have hb := B.bytes
  have hr := B.returns
  have hts := atoms_spec (ws := wsX0_addClaim) B.pre
  have hown : s.vm.findClass RX0 = some m.cls := findClass_of_methodNamed B.named
  have hlocks := B.notSynchronized
  subst hsz
  have hD := hD0.self (sz := s.heap.size)
  generalize hAe : va_A ([(g, .inr (iX0, [.int (nI n), .int wd, .ref xn, .ref xf])), (xn, .inl (cI, 12, .inl (nr))), (xf, .inl (cI, 12, .inl (nf)))]) s.heap.size = A at hD ⊢
  have hA : ∀ q : Nat, s.heap.size ≤ q → A q := fun q h => by rw [← hAe]; exact Or.inr h
  have hS : va_S A s.heap s.heap [] := va_S.rf
  have hP : va_P (dC, dI) vwCl ([(g, .inr (iX0, [.int (nI n), .int wd, .ref xn, .ref xf])), (xn, .inl (cI, 12, .inl (nr))), (xf, .inl (cI, 12, .inl (nf)))]) s.heap := hP
  have hl := lv_entry ([.ref g, .int i]) (n := 5) (Nat.le_of_ble_eq_true rfl)
  rw [lg_entry_eq]
  generalize (lg_sl ([.ref g, .int i]) ++ List.replicate (5 - (lg_sl ([.ref g, .int i])).length) Slot.unset).toArray = ls at hl ⊢
  have hl : lv_has ls 5 [(0, .ref g), (1, .int i)] := hl
  have hfl_18 := hts (.fieldLink RX0 18 "Greenwheels$Claims" "count" "I") (by decide +kernel)
  have hin_X0 : ∀ w ∈ u_ws RX0 TX0 4, w ∈ wsX0_addClaim := by decide +kernel
  have hfl_9 := hts (.fieldLink RX0 9 "Greenwheels$Claims" "near" "[I") (by decide +kernel)
  have hw_iniX5 := hts (.initialized RX5) (by decide +kernel)
  have hw_staX5_put := hts (.static yX5_put) (by decide +kernel)
  have hfl_15 := hts (.fieldLink RX0 15 "Greenwheels$Claims" "nearAndFar" "[I") (by decide +kernel)
  have hw_staX5_isIn := hts (.static yX5_isIn) (by decide +kernel)
  have hw_staX5_at := hts (.static yX5_at) (by decide +kernel)
  refine lv_aload_n hx hb dX0_addClaim_0 rfl (lv_at hl 0 rfl) ?_
  refine va_get (D := (dC, dI)) (ci := iX0) (v := .int (nI n)) (C := RX0) (T := TX0) (N := 4) hx hb hts hin_X0 hown hK hP 0 rfl rfl 0 (by decide) hfl_18 (fun _ h9 => h9) rfl dX0_addClaim_1 ?_
  refine lv_istore_n (lv' := [(2, .int (nI n)), (0, .ref g), (1, .int i)]) hx hb dX0_addClaim_4 rfl hl (by decide) rfl (fun ls hl => ?_)
  refine lv_iload_n hx hb dX0_addClaim_5 rfl (lv_at hl 2 rfl) ?_
  refine lv_istore_n (lv' := [(3, .int i), (2, .int (nI n)), (0, .ref g), (1, .int i)]) hx hb dX0_addClaim_6 rfl hl (by decide) rfl (fun ls hl => ?_)
  refine lv_iconst (v := 0) hx hb dX0_addClaim_7 (by decide) ?_
  refine lv_istore (lv' := [(4, .int 0), (3, .int i), (2, .int (nI n)), (0, .ref g), (1, .int i)]) hx hb dX0_addClaim_8 hl (by decide) rfl (fun ls hl => ?_)
  have K10 : ∀ (NN : Nat), ∀ (k : Nat) (acc : Int32), (n - k) < NN → (k ≤ n) → (acc = acL i nf k) → ∀ (H : Heap) (locs : List Loc) (ls : Array Slot), va_P (dC, dI) vwCl ([(g, .inr (iX0, [.int (nI n), .int wd, .ref xn, .ref xf])), (xn, .inl (cI, 12, .inl (nr))), (xf, .inl (cI, 12, .inl (nf)))]) H → va_D A ([(g, .inr (iX0, [.int (nI n), .int wd, .ref xn, .ref xf])), (xn, .inl (cI, 12, .inl (nr))), (xf, .inl (cI, 12, .inl (nf)))]) → va_S A s.heap H locs → lv_has ls 5 [(0, .ref g), (1, .int i), (2, .int (nI n)), (3, .int acc), (4, .int (nI k))] → W p l e (headSpec wsX0_addClaim ({ frames := 1, cells := 0, slots := 0, locals := 22 } : Room)).room s m #[Value.ref g, Value.int i] below meth c H locs (0) (0) (MQ below (va_Qi (fun (r : Int32) (_ : Unit) => r = nI n) (fun _ t => va_P (dC, dI) vwCl ([(g, .inr (iX0, [.int (nI (n + 1)), .int wd, .ref xn, .ref xf])), (xn, .inl (cI, 12, .inl (putF 12 nr (nI n) i))), (xf, .inl (cI, 12, .inl (putF 12 nf (nI n) (acL i nf n))))]) t.heap ∧ va_D A ([(g, .inr (iX0, [.int (nI (n + 1)), .int wd, .ref xn, .ref xf])), (xn, .inl (cI, 12, .inl (putF 12 nr (nI n) i))), (xf, .inl (cI, 12, .inl (putF 12 nf (nI n) (acL i nf n))))])) A) #[Value.ref g, Value.int i] s 0 0 A) (F0 m 10 ls []) := by
    intro NN
    induction NN with
    | zero =>
      intro k acc hmu hk hacc H locs ls hP hD hS hl
      exact absurd hmu (Nat.not_lt_zero _)
    | succ NN ih10 =>
      intro k acc hmu hk hacc H locs ls hP hD hS hl
      refine lv_iload hx hb dX0_addClaim_10 (lv_at hl 4 rfl) ?_
      refine lv_iload_n hx hb dX0_addClaim_12 rfl (lv_at hl 2 rfl) ?_
      refine lv_icmp_ge (tgt := 43) hx hb dX0_addClaim_13 (by decide) (fun c_1 => ?_) (fun c_1 => ?_)
      · have hke : n ≤ k := leK (by omega) (by omega) c_1
        have hkn : k = n := by omega
        rw [hkn] at hacc
        refine lv_aload_n hx hb dX0_addClaim_43 rfl (lv_at hl 0 rfl) ?_
        refine va_get (D := (dC, dI)) (ci := iX0) (v := .ref xn) (C := RX0) (T := TX0) (N := 4) hx hb hts hin_X0 hown hK hP 0 rfl rfl 2 (by decide) hfl_9 (fun _ h9 => h9) rfl dX0_addClaim_44 ?_
        refine lv_iload_n hx hb dX0_addClaim_47 rfl (lv_at hl 2 rfl) ?_
        refine lv_iload_n hx hb dX0_addClaim_48 rfl (lv_at hl 1 rfl) ?_
        have hPc : va_P (dC, dI) vwCl ([(xn, .inl (cI, 12, .inl (nr)))]) _ := hP.sub [1] rfl
        have hDc : va_D (fun _ => True) ([(xn, .inl (cI, 12, .inl (nr)))]) := (hD.sub (ws' := [(xn, .inl (cI, 12, .inl (nr)))]) [1] (by decide) rfl).weaken (fun _ _ _ _ => trivial)
        have hFc := va_free (wc := [(xn, .inl (cI, 12, .inl (nr)))]) hD hS hA [1] rfl
        refine va_callv (va_runSN (host := RX5) (As := [.ref xn, .int (nI n), .int i]) (rest := []) ⟨hx, hb, hml, hown, hts⟩ (c_X5_put l dC dI cI cF tr (H).size xn 12 nr (nI n) i (by decide)) ⟨va_cnB 3 hts gX0_addClaim_X5_put_n30 rfl rfl rfl (nwAt hN (RX0, 30, yX5_put) (by decide +kernel)) hw_iniX5 (by decide +kernel) ⟨Nat.le_of_ble_eq_true rfl, Nat.le_of_ble_eq_true rfl⟩, hw_staX5_put, trivial⟩ ⟨cDbl, (cDpre hPc hK hN hDc)⟩ rfl rfl hl.1 rfl (lv_room (Nat.le_of_ble_eq_true rfl)) dX0_addClaim_49 ⟨(Nat.le_of_ble_eq_true rfl), (Nat.le_of_ble_eq_true rfl)⟩) hS (fun q _ h => hFc q h) hFc (fun u t H1 locs ht hvm hw_r_2 hB hz1 hk1 hS => ?_)
        refine W.widen (k := 0) (n := 0) (Nat.le_refl _) (Nat.le_refl _) ?_
        obtain ⟨hP1, hD1⟩ := hB
        rw [ht] at hP1
        obtain ⟨hP, hD⟩ := va_join (wr := [(g, .inr (iX0, [.int (nI n), .int wd, .ref xn, .ref xf])), (xf, .inl (cI, 12, .inl (nf)))]) (w1 := [(xn, .inl (cI, 12, .inl (putF 12 nr (nI n) i)))]) hP hD [1] [0, 2] rfl rfl (by decide) (by decide) hk1 hFc hP1 hD1
        have hD := hD.sub (ws' := [(g, .inr (iX0, [.int (nI n), .int wd, .ref xn, .ref xf])), (xn, .inl (cI, 12, .inl (putF 12 nr (nI n) i))), (xf, .inl (cI, 12, .inl (nf)))]) [0, 2, 1] (by decide) rfl
        have hP : va_P (dC, dI) vwCl ([(g, .inr (iX0, [.int (nI n), .int wd, .ref xn, .ref xf])), (xn, .inl (cI, 12, .inl (putF 12 nr (nI n) i))), (xf, .inl (cI, 12, .inl (nf)))]) H1 := hP.sub [0, 2, 1] rfl
        generalize H1 = H at hP hS ⊢
        have hP : va_P (dC, dI) vwCl ([(g, .inr (iX0, [.int (nI n), .int wd, .ref xn, .ref xf])), (xn, .inl (cI, 12, .inl (putF 12 nr (nI n) i))), (xf, .inl (cI, 12, .inl (nf)))]) H := hP
        have hD : va_D A ([(g, .inr (iX0, [.int (nI n), .int wd, .ref xn, .ref xf])), (xn, .inl (cI, 12, .inl (putF 12 nr (nI n) i))), (xf, .inl (cI, 12, .inl (nf)))]) := hD
        try dsimp only at hw_r_2
        refine lv_aload_n hx hb dX0_addClaim_52 rfl (lv_at hl 0 rfl) ?_
        refine va_get (D := (dC, dI)) (ci := iX0) (v := .ref xf) (C := RX0) (T := TX0) (N := 4) hx hb hts hin_X0 hown hK hP 0 rfl rfl 3 (by decide) hfl_15 (fun _ h9 => h9) rfl dX0_addClaim_53 ?_
        refine lv_iload_n hx hb dX0_addClaim_56 rfl (lv_at hl 2 rfl) ?_
        refine lv_iload_n hx hb dX0_addClaim_57 rfl (lv_at hl 3 rfl) ?_
        have hPc : va_P (dC, dI) vwCl ([(xf, .inl (cI, 12, .inl (nf)))]) _ := hP.sub [2] rfl
        have hDc : va_D (fun _ => True) ([(xf, .inl (cI, 12, .inl (nf)))]) := (hD.sub (ws' := [(xf, .inl (cI, 12, .inl (nf)))]) [2] (by decide) rfl).weaken (fun _ _ _ _ => trivial)
        have hFc := va_free (wc := [(xf, .inl (cI, 12, .inl (nf)))]) hD hS hA [2] rfl
        refine va_callv (va_runSN (host := RX5) (As := [.ref xf, .int (nI n), .int acc]) (rest := []) ⟨hx, hb, hml, hown, hts⟩ (c_X5_put l dC dI cI cF tr (H).size xf 12 nf (nI n) acc (by decide)) ⟨va_cnB 3 hts gX0_addClaim_X5_put_n30 rfl rfl rfl (nwAt hN (RX0, 30, yX5_put) (by decide +kernel)) hw_iniX5 (by decide +kernel) ⟨Nat.le_of_ble_eq_true rfl, Nat.le_of_ble_eq_true rfl⟩, hw_staX5_put, trivial⟩ ⟨cDbl, (cDpre hPc hK hN hDc)⟩ rfl rfl hl.1 rfl (lv_room (Nat.le_of_ble_eq_true rfl)) dX0_addClaim_58 ⟨(Nat.le_of_ble_eq_true rfl), (Nat.le_of_ble_eq_true rfl)⟩) hS (fun q _ h => hFc q h) hFc (fun u t H1 locs ht hvm hw_r_3 hB hz1 hk1 hS => ?_)
        refine W.widen (k := 0) (n := 0) (Nat.le_refl _) (Nat.le_refl _) ?_
        obtain ⟨hP1, hD1⟩ := hB
        rw [ht] at hP1
        obtain ⟨hP, hD⟩ := va_join (wr := [(g, .inr (iX0, [.int (nI n), .int wd, .ref xn, .ref xf])), (xn, .inl (cI, 12, .inl (putF 12 nr (nI n) i)))]) (w1 := [(xf, .inl (cI, 12, .inl (putF 12 nf (nI n) acc)))]) hP hD [2] [0, 1] rfl rfl (by decide) (by decide) hk1 hFc hP1 hD1
        have hD := hD.sub (ws' := [(g, .inr (iX0, [.int (nI n), .int wd, .ref xn, .ref xf])), (xn, .inl (cI, 12, .inl (putF 12 nr (nI n) i))), (xf, .inl (cI, 12, .inl (putF 12 nf (nI n) acc)))]) [0, 1, 2] (by decide) rfl
        have hP : va_P (dC, dI) vwCl ([(g, .inr (iX0, [.int (nI n), .int wd, .ref xn, .ref xf])), (xn, .inl (cI, 12, .inl (putF 12 nr (nI n) i))), (xf, .inl (cI, 12, .inl (putF 12 nf (nI n) acc)))]) H1 := hP.sub [0, 1, 2] rfl
        generalize H1 = H at hP hS ⊢
        have hP : va_P (dC, dI) vwCl ([(g, .inr (iX0, [.int (nI n), .int wd, .ref xn, .ref xf])), (xn, .inl (cI, 12, .inl (putF 12 nr (nI n) i))), (xf, .inl (cI, 12, .inl (putF 12 nf (nI n) acc)))]) H := hP
        have hD : va_D A ([(g, .inr (iX0, [.int (nI n), .int wd, .ref xn, .ref xf])), (xn, .inl (cI, 12, .inl (putF 12 nr (nI n) i))), (xf, .inl (cI, 12, .inl (putF 12 nf (nI n) acc)))]) := hD
        try dsimp only at hw_r_3
        refine lv_aload_n hx hb dX0_addClaim_61 rfl (lv_at hl 0 rfl) ?_
        refine lv_dup hx hb dX0_addClaim_62 rfl ?_
        refine va_get (D := (dC, dI)) (ci := iX0) (v := .int (nI n)) (C := RX0) (T := TX0) (N := 4) hx hb hts hin_X0 hown hK hP 0 rfl rfl 0 (by decide) hfl_18 (fun _ h9 => h9) rfl dX0_addClaim_63 ?_
        refine lv_iconst (v := 1) hx hb dX0_addClaim_66 (by decide) ?_
        refine lv_iadd hx hb dX0_addClaim_67 ?_
        refine va_put (D := (dC, dI)) (ci := iX0) (v := .int ((nI n) + 1)) (ty := .int) (C := RX0) (T := TX0) (N := 4) hx hb hts hin_X0 tyX0 tyX0_ok nmX0 hown hK hP hD hS 0 rfl rfl 0 (by decide) hfl_18 (fun _ h9 => h9) rfl (by decide +kernel) rfl rfl (Nat.le_of_ble_eq_true rfl) dX0_addClaim_68 (fun H locs hP hD hS => ?_)
        have hP : va_P (dC, dI) vwCl ([(g, .inr (iX0, [.int ((nI n) + 1), .int wd, .ref xn, .ref xf])), (xn, .inl (cI, 12, .inl (putF 12 nr (nI n) i))), (xf, .inl (cI, 12, .inl (putF 12 nf (nI n) acc)))]) H := hP
        have hD : va_D A ([(g, .inr (iX0, [.int ((nI n) + 1), .int wd, .ref xn, .ref xf])), (xn, .inl (cI, 12, .inl (putF 12 nr (nI n) i))), (xf, .inl (cI, 12, .inl (putF 12 nf (nI n) acc)))]) := hD
        refine lv_iload_n hx hb dX0_addClaim_71 rfl (lv_at hl 2 rfl) ?_
        refine W.widen (k := 0) (n := 0) (by omega) (by omega) ?_
        have eq_4 : ([(g, .inr (iX0, [.int ((nI n) + 1), .int wd, .ref xn, .ref xf])), (xn, .inl (cI, 12, .inl (putF 12 nr (nI n) i))), (xf, .inl (cI, 12, .inl (putF 12 nf (nI n) acc)))] : va_W) = [(g, .inr (iX0, [.int (nI (n + 1)), .int wd, .ref xn, .ref xf])), (xn, .inl (cI, 12, .inl (putF 12 nr (nI n) i))), (xf, .inl (cI, 12, .inl (putF 12 nf (nI n) (acL i nf n))))] := (by rw [nI_1, hacc])
        rw [eq_4] at hP hD
        exact W.iret (v := nI n) hx hb hr (fun t ht hW => ⟨⟨nI n, (), rfl, rfl, by rw [ht]; exact hP, hAe ▸ hD⟩, hS.F ht⟩) hS.2.2 dX0_addClaim_72
      · have hkl : k < n := ltK (by omega) (by omega) c_1
        refine lv_iload_n hx hb dX0_addClaim_16 rfl (lv_at hl 1 rfl) ?_
        refine lv_iload hx hb dX0_addClaim_17 (lv_at hl 4 rfl) ?_
        have hPc : va_P (dC, dI) vwCl [] H := nilP
        have hFc := frZ hS hA
        refine va_calli (va_runSN (host := RX5) (As := [.int i, .int (nI k)]) (rest := []) ⟨hx, hb, hml, hown, hts⟩ (c_X5_isIn l dC dI cI cF tr (H).size i (nI k)) ⟨va_cnB 2 hts gX0_addClaim_X5_isIn_n22 rfl rfl rfl (nwAt hN (RX0, 22, yX5_isIn) (by decide +kernel)) hw_iniX5 (by decide +kernel) ⟨Nat.le_of_ble_eq_true rfl, Nat.le_of_ble_eq_true rfl⟩, hw_staX5_isIn, trivial⟩ ⟨cBl, (cPre hPc hK hN)⟩ rfl rfl hl.1 rfl (lv_room (Nat.le_of_ble_eq_true rfl)) dX0_addClaim_19 ⟨(Nat.le_of_ble_eq_true rfl), (Nat.le_of_ble_eq_true rfl)⟩) hS (fun q _ h => hFc q h) hFc (fun r_5 u t H1 locs ht hvm hw_r_5 hB hz1 hk1 hS => ?_)
        refine W.widen (k := 0) (n := 0) (Nat.le_refl _) (Nat.le_refl _) ?_
        have hP := keepP hP hk1
        generalize H1 = H at hP hS ⊢
        have hP : va_P (dC, dI) vwCl ([(g, .inr (iX0, [.int (nI n), .int wd, .ref xn, .ref xf])), (xn, .inl (cI, 12, .inl (nr))), (xf, .inl (cI, 12, .inl (nf)))]) H := hP
        try dsimp only at hw_r_5
        subst hw_r_5
        refine lv_if_eq (tgt := 37) hx hb dX0_addClaim_22 (by decide) (fun c_6 => ?_) (fun c_6 => ?_)
        · refine lv_iinc (v := nI (k + 1)) (lv' := [(4, .int (nI (k + 1))), (0, .ref g), (1, .int i), (2, .int (nI n)), (3, .int acc)]) hx hb dX0_addClaim_37 hl (k := 4) rfl (nI_1 k) (by decide) rfl (fun ls hl => ?_)
          refine lv_goto (tgt := 10) hx hb dX0_addClaim_40 (by decide) ?_
          refine W.widen (k := 0) (n := 0) (by omega) (by omega) ?_
          exact ih10 (k + 1) acc (by omega) hkl (by rw [hacc]; simp [acL, c_6]) _ _ ls hP hD hS (lv_sub hl [1, 2, 3, 4, 0] rfl)
        · refine lv_iload_n hx hb dX0_addClaim_25 rfl (lv_at hl 3 rfl) ?_
          refine lv_aload_n hx hb dX0_addClaim_26 rfl (lv_at hl 0 rfl) ?_
          refine va_get (D := (dC, dI)) (ci := iX0) (v := .ref xf) (C := RX0) (T := TX0) (N := 4) hx hb hts hin_X0 hown hK hP 0 rfl rfl 3 (by decide) hfl_15 (fun _ h9 => h9) rfl dX0_addClaim_27 ?_
          refine lv_iload hx hb dX0_addClaim_30 (lv_at hl 4 rfl) ?_
          have hPc : va_P (dC, dI) vwCl ([(xf, .inl (cI, 12, .inl (nf)))]) _ := hP.sub [2] rfl
          have hFc := frZ hS hA
          refine va_calli (va_runSN (host := RX5) (As := [.ref xf, .int (nI k)]) (rest := [.int acc]) ⟨hx, hb, hml, hown, hts⟩ (c_X5_at l dC dI cI cF tr (H).size xf 12 nf (nI k) (by decide)) ⟨va_cnB 2 hts gX0_addClaim_X5_at_n26 rfl rfl rfl (nwAt hN (RX0, 26, yX5_at) (by decide +kernel)) hw_iniX5 (by decide +kernel) ⟨Nat.le_of_ble_eq_true rfl, Nat.le_of_ble_eq_true rfl⟩, hw_staX5_at, trivial⟩ ⟨cBl, (cPre hPc hK hN)⟩ rfl rfl hl.1 rfl (lv_room (Nat.le_of_ble_eq_true rfl)) dX0_addClaim_32 ⟨(Nat.le_of_ble_eq_true rfl), (Nat.le_of_ble_eq_true rfl)⟩) hS (fun q _ h => hFc q h) hFc (fun r_7 u t H1 locs ht hvm hw_r_7 hB hz1 hk1 hS => ?_)
          refine W.widen (k := 0) (n := 0) (Nat.le_refl _) (Nat.le_refl _) ?_
          have hP := keepP hP hk1
          generalize H1 = H at hP hS ⊢
          have hP : va_P (dC, dI) vwCl ([(g, .inr (iX0, [.int (nI n), .int wd, .ref xn, .ref xf])), (xn, .inl (cI, 12, .inl (nr))), (xf, .inl (cI, 12, .inl (nf)))]) H := hP
          try dsimp only at hw_r_7
          subst hw_r_7
          refine lv_ior hx hb dX0_addClaim_35 ?_
          refine lv_istore_n (lv' := [(3, .int (acc ||| (atF 12 nf (nI k)))), (0, .ref g), (1, .int i), (2, .int (nI n)), (4, .int (nI k))]) hx hb dX0_addClaim_36 rfl hl (by decide) rfl (fun ls hl => ?_)
          refine lv_iinc (v := nI (k + 1)) (lv' := [(4, .int (nI (k + 1))), (3, .int (acc ||| (atF 12 nf (nI k)))), (0, .ref g), (1, .int i), (2, .int (nI n))]) hx hb dX0_addClaim_37 hl (k := 4) rfl (nI_1 k) (by decide) rfl (fun ls hl => ?_)
          refine lv_goto (tgt := 10) hx hb dX0_addClaim_40 (by decide) ?_
          refine W.widen (k := 0) (n := 0) (by omega) (by omega) ?_
          exact ih10 (k + 1) (acc ||| (atF 12 nf (nI k))) (by omega) hkl (by rw [hacc]; simp [acL, c_6]) _ _ ls hP hD hS (lv_sub hl [2, 3, 4, 1, 0] rfl)
  refine W.widen (k := 0) (n := 0) (by omega) (by omega) ?_
  exact K10 (n - 0 + 1) 0 i (by omega) (Nat.zero_le _) rfl _ _ ls hP hD hS (lv_sub hl [3, 4, 2, 1, 0] rfl)

set_option maxHeartbeats 4000000 in
set_option maxRecDepth 100000 in
theorem c_X0_setWithdrawn (l : Launch) (dC : Nat → ClassId) (dI : Nat → Nat → Nat) (cI cF : ClassId) (tr : List (ClassId × FieldType)) (sz : Nat) (g : Nat) (n : Nat) (wd : Int32) (xn : Nat) (xf : Nat) (i : Int32) (j : Int32) : Met l yX0_setWithdrawn wsX0_setWithdrawn ({ frames := 0, cells := 0, slots := 0, locals := 0 } : Room) (cPd dC dI ((cI, .int) :: (cF, .object RX1) :: tr) sz ([(g, .inr (iX0, [.int (nI n), .int wd, .ref xn, .ref xf]))]) [.ref g, .int i, .int j]) (va_Qv (fun _ : Unit => True) (fun _ t => va_P (dC, dI) vwCl ([(g, .inr (iX0, [.int (nI n), .int (swF wd i j), .ref xn, .ref xf]))]) t.heap ∧ va_D (va_A ([(g, .inr (iX0, [.int (nI n), .int wd, .ref xn, .ref xf]))]) sz) ([(g, .inr (iX0, [.int (nI n), .int (swF wd i j), .ref xn, .ref xf]))])) (va_A ([(g, .inr (iX0, [.int (nI n), .int wd, .ref xn, .ref xf]))]) sz)) 0 0 (va_A ([(g, .inr (iX0, [.int (nI n), .int wd, .ref xn, .ref xf]))]) sz) := by
  refine Met.ofW (cc := cX0_setWithdrawn) (maxL := 3) (ret := none) (by decide) rfl ?_
  intro p e s m args below meth c s₁ B hml hv
  obtain ⟨rfl, hsz, hP, hK, hN, hD0⟩ := hv
  have hx := B.exec
  have hb := B.bytes
  have hr := B.returns
  have hts := atoms_spec (ws := wsX0_setWithdrawn) B.pre
  have hown : s.vm.findClass RX0 = some m.cls := findClass_of_methodNamed B.named
  have hlocks := B.notSynchronized
  subst hsz
  have hD := hD0.self (sz := s.heap.size)
  generalize hAe : va_A ([(g, .inr (iX0, [.int (nI n), .int wd, .ref xn, .ref xf]))]) s.heap.size = A at hD ⊢
  have hA : ∀ q : Nat, s.heap.size ≤ q → A q := fun q h => by rw [← hAe]; exact Or.inr h
  have hS : va_S A s.heap s.heap [] := va_S.rf
  have hP : va_P (dC, dI) vwCl ([(g, .inr (iX0, [.int (nI n), .int wd, .ref xn, .ref xf]))]) s.heap := hP
  have hl := lv_entry ([.ref g, .int i, .int j]) (n := 3) (Nat.le_of_ble_eq_true rfl)
  rw [lg_entry_eq]
  generalize (lg_sl ([.ref g, .int i, .int j]) ++ List.replicate (3 - (lg_sl ([.ref g, .int i, .int j])).length) Slot.unset).toArray = ls at hl ⊢
  have hl : lv_has ls 3 [(0, .ref g), (1, .int i), (2, .int j)] := hl
  have hfl_34 := hts (.fieldLink RX0 34 "Greenwheels$Claims" "withdrawn" "I") (by decide +kernel)
  have hin_X0 : ∀ w ∈ u_ws RX0 TX0 4, w ∈ wsX0_setWithdrawn := by decide +kernel
  refine lv_aload_n hx hb dX0_setWithdrawn_0 rfl (lv_at hl 0 rfl) ?_
  refine lv_iload_n hx hb dX0_setWithdrawn_1 rfl (lv_at hl 2 rfl) ?_
  refine lv_if_eq (tgt := 16) hx hb dX0_setWithdrawn_2 (by decide) (fun c_1 => ?_) (fun c_1 => ?_)
  · refine lv_aload_n hx hb dX0_setWithdrawn_16 rfl (lv_at hl 0 rfl) ?_
    refine va_get (D := (dC, dI)) (ci := iX0) (v := .int wd) (C := RX0) (T := TX0) (N := 4) hx hb hts hin_X0 hown hK hP 0 rfl rfl 1 (by decide) hfl_34 (fun _ h9 => h9) rfl dX0_setWithdrawn_17 ?_
    refine lv_iconst (v := 1) hx hb dX0_setWithdrawn_20 (by decide) ?_
    refine lv_iload_n hx hb dX0_setWithdrawn_21 rfl (lv_at hl 1 rfl) ?_
    refine lv_ishl hx hb dX0_setWithdrawn_22 ?_
    refine lv_iconst (v := (-1)) hx hb dX0_setWithdrawn_23 (by decide) ?_
    refine lv_ixor hx hb dX0_setWithdrawn_24 ?_
    refine lv_iand hx hb dX0_setWithdrawn_25 ?_
    refine va_put (D := (dC, dI)) (ci := iX0) (v := .int (wd &&& ((1 <<< (i &&& 31)) ^^^ ((-1))))) (ty := .int) (C := RX0) (T := TX0) (N := 4) hx hb hts hin_X0 tyX0 tyX0_ok nmX0 hown hK hP hD hS 0 rfl rfl 1 (by decide) hfl_34 (fun _ h9 => h9) rfl (by decide +kernel) rfl rfl (Nat.le_of_ble_eq_true rfl) dX0_setWithdrawn_26 (fun H locs hP hD hS => ?_)
    have hP : va_P (dC, dI) vwCl ([(g, .inr (iX0, [.int (nI n), .int (wd &&& ((1 <<< (i &&& 31)) ^^^ ((-1)))), .ref xn, .ref xf]))]) H := hP
    have hD : va_D A ([(g, .inr (iX0, [.int (nI n), .int (wd &&& ((1 <<< (i &&& 31)) ^^^ ((-1)))), .ref xn, .ref xf]))]) := hD
    refine W.widen (k := 0) (n := 0) (by omega) (by omega) ?_
    have eq_2 : ([(g, .inr (iX0, [.int (nI n), .int (wd &&& ((1 <<< (i &&& 31)) ^^^ ((-1)))), .ref xn, .ref xf]))] : va_W) = [(g, .inr (iX0, [.int (nI n), .int (swF wd i j), .ref xn, .ref xf]))] := (by first | rfl | (simp [swF, c_1]; done) | contradiction)
    rw [eq_2] at hP hD
    exact W.vret hx hb hr (fun t ht hW => ⟨⟨(), rfl, trivial, ⟨by rw [ht]; exact hP, hAe ▸ hD⟩⟩, hS.F ht⟩) hS.2.2 dX0_setWithdrawn_29
  · refine lv_aload_n hx hb dX0_setWithdrawn_5 rfl (lv_at hl 0 rfl) ?_
    refine va_get (D := (dC, dI)) (ci := iX0) (v := .int wd) (C := RX0) (T := TX0) (N := 4) hx hb hts hin_X0 hown hK hP 0 rfl rfl 1 (by decide) hfl_34 (fun _ h9 => h9) rfl dX0_setWithdrawn_6 ?_
    refine lv_iconst (v := 1) hx hb dX0_setWithdrawn_9 (by decide) ?_
    refine lv_iload_n hx hb dX0_setWithdrawn_10 rfl (lv_at hl 1 rfl) ?_
    refine lv_ishl hx hb dX0_setWithdrawn_11 ?_
    refine lv_ior hx hb dX0_setWithdrawn_12 ?_
    refine lv_goto (tgt := 26) hx hb dX0_setWithdrawn_13 (by decide) ?_
    refine va_put (D := (dC, dI)) (ci := iX0) (v := .int (wd ||| (1 <<< (i &&& 31)))) (ty := .int) (C := RX0) (T := TX0) (N := 4) hx hb hts hin_X0 tyX0 tyX0_ok nmX0 hown hK hP hD hS 0 rfl rfl 1 (by decide) hfl_34 (fun _ h9 => h9) rfl (by decide +kernel) rfl rfl (Nat.le_of_ble_eq_true rfl) dX0_setWithdrawn_26 (fun H locs hP hD hS => ?_)
    have hP : va_P (dC, dI) vwCl ([(g, .inr (iX0, [.int (nI n), .int (wd ||| (1 <<< (i &&& 31))), .ref xn, .ref xf]))]) H := hP
    have hD : va_D A ([(g, .inr (iX0, [.int (nI n), .int (wd ||| (1 <<< (i &&& 31))), .ref xn, .ref xf]))]) := hD
    refine W.widen (k := 0) (n := 0) (by omega) (by omega) ?_
    have eq_3 : ([(g, .inr (iX0, [.int (nI n), .int (wd ||| (1 <<< (i &&& 31))), .ref xn, .ref xf]))] : va_W) = [(g, .inr (iX0, [.int (nI n), .int (swF wd i j), .ref xn, .ref xf]))] := (by first | rfl | (simp [swF, c_1]; done) | contradiction)
    rw [eq_3] at hP hD
    exact W.vret hx hb hr (fun t ht hW => ⟨⟨(), rfl, trivial, ⟨by rw [ht]; exact hP, hAe ▸ hD⟩⟩, hS.F ht⟩) hS.2.2 dX0_setWithdrawn_29

set_option maxHeartbeats 4000000 in
set_option maxRecDepth 100000 in
theorem c_X0_hangsOn (l : Launch) (dC : Nat → ClassId) (dI : Nat → Nat → Nat) (cI cF : ClassId) (tr : List (ClassId × FieldType)) (sz : Nat) (g : Nat) (n : Nat) (wd : Int32) (xn : Nat) (xf : Nat) (nr : Nat → Int32) (i : Int32) : Met l yX0_hangsOn wsX0_hangsOn ({ frames := 1, cells := 0, slots := 0, locals := 21 } : Room) (cPc dC dI ((cI, .int) :: (cF, .object RX1) :: tr) sz ([(g, .inr (iX0, [.int (nI n), .int wd, .ref xn, .ref xf])), (xn, .inl (cI, 12, .inl (nr)))]) [.ref g, .int i]) (va_Qi (fun (r : Int32) (_ : Unit) => r = atF 12 nr i) (fun _ _ => True) (va_A ([]) sz)) 0 0 (va_A ([]) sz) := by
  refine Met.ofW (cc := cX0_hangsOn) (maxL := 2) (ret := (some .int)) (by decide) rfl ?_
  intro p e s m args below meth c s₁ B hml hv
  obtain ⟨rfl, hsz, hP, hK, hN⟩ := hv
  have hx := B.exec
  have hb := B.bytes
  have hr := B.returns
  have hts := atoms_spec (ws := wsX0_hangsOn) B.pre
  have hown : s.vm.findClass RX0 = some m.cls := findClass_of_methodNamed B.named
  have hlocks := B.notSynchronized
  subst hsz
  generalize hAe : va_A [] s.heap.size = A
  have hA : ∀ q : Nat, s.heap.size ≤ q → A q := fun q h => by rw [← hAe]; exact Or.inr h
  have hS : va_S A s.heap s.heap [] := va_S.rf
  have hAn : ∀ q : Nat, q < s.heap.size → ¬ A q := fun q h => by rw [← hAe]; exact notZ h
  have hAg : ∀ q : Nat, A q → s.heap.size ≤ q := fun q h => geZ (hAe ▸ h)
  have hR0 : va_P (dC, dI) vwCl ([(g, .inr (iX0, [.int (nI n), .int wd, .ref xn, .ref xf])), (xn, .inl (cI, 12, .inl (nr)))]) s.heap := hP
  have hR : va_P (dC, dI) vwCl ([(g, .inr (iX0, [.int (nI n), .int wd, .ref xn, .ref xf])), (xn, .inl (cI, 12, .inl (nr)))]) s.heap := hP
  have hP : va_P (dC, dI) vwCl [] s.heap := fun k q h => by simp at h
  have hD : va_D A [] := ⟨fun i j p q h => by simp at h, fun k q h => by simp at h⟩
  have hl := lv_entry ([.ref g, .int i]) (n := 2) (Nat.le_of_ble_eq_true rfl)
  rw [lg_entry_eq]
  generalize (lg_sl ([.ref g, .int i]) ++ List.replicate (2 - (lg_sl ([.ref g, .int i])).length) Slot.unset).toArray = ls at hl ⊢
  have hl : lv_has ls 2 [(0, .ref g), (1, .int i)] := hl
  have hfl_9 := hts (.fieldLink RX0 9 "Greenwheels$Claims" "near" "[I") (by decide +kernel)
  have hin_X0 : ∀ w ∈ u_ws RX0 TX0 4, w ∈ wsX0_hangsOn := by decide +kernel
  have hw_iniX5 := hts (.initialized RX5) (by decide +kernel)
  have hw_staX5_at := hts (.static yX5_at) (by decide +kernel)
  refine lv_aload_n hx hb dX0_hangsOn_0 rfl (lv_at hl 0 rfl) ?_
  refine va_get (D := (dC, dI)) (ci := iX0) (v := .ref xn) (C := RX0) (T := TX0) (N := 4) hx hb hts hin_X0 hown hK hR 0 rfl rfl 2 (by decide) hfl_9 (fun _ h9 => h9) rfl dX0_hangsOn_1 ?_
  refine lv_iload_n hx hb dX0_hangsOn_4 rfl (lv_at hl 1 rfl) ?_
  have hPc : va_P (dC, dI) vwCl ([(xn, .inl (cI, 12, .inl (nr)))]) _ := hR.sub [1] rfl
  have hFc := frZ hS hA
  refine va_calli (va_runSN (host := RX5) (As := [.ref xn, .int i]) (rest := []) ⟨hx, hb, hml, hown, hts⟩ (c_X5_at l dC dI cI cF tr (s.heap).size xn 12 nr i (by decide)) ⟨va_cnB 2 hts gX0_hangsOn_X5_at_n26 rfl rfl rfl (nwAt hN (RX0, 26, yX5_at) (by decide +kernel)) hw_iniX5 (by decide +kernel) ⟨Nat.le_of_ble_eq_true rfl, Nat.le_of_ble_eq_true rfl⟩, hw_staX5_at, trivial⟩ ⟨cBl, (cPre hPc hK hN)⟩ rfl rfl hl.1 rfl (lv_room (Nat.le_of_ble_eq_true rfl)) dX0_hangsOn_5 ⟨(Nat.le_of_ble_eq_true rfl), (Nat.le_of_ble_eq_true rfl)⟩) hS (fun q _ h => hFc q h) hFc (fun r_1 u t H1 locs ht hvm hw_r_1 hB hz1 hk1 hS => ?_)
  refine W.widen (k := 0) (n := 0) (Nat.le_refl _) (Nat.le_refl _) ?_
  have hP := keepP hP hk1
  have hR := keepP hR hk1
  generalize H1 = H at hP hR hS ⊢
  have hP : va_P (dC, dI) vwCl ([]) H := hP
  try dsimp only at hw_r_1
  subst hw_r_1
  refine W.widen (k := 0) (n := 0) (by omega) (by omega) ?_
  exact W.iret (v := atF 12 nr i) hx hb hr (fun t ht hW => ⟨⟨atF 12 nr i, (), rfl, (by first | (simp []; done) | contradiction), trivial⟩, hS.F ht⟩) hS.2.2 dX0_hangsOn_8

set_option maxHeartbeats 4000000 in
set_option maxRecDepth 100000 in
theorem c_X0_isWithdrawn (l : Launch) (dC : Nat → ClassId) (dI : Nat → Nat → Nat) (cI cF : ClassId) (tr : List (ClassId × FieldType)) (sz : Nat) (g : Nat) (n : Nat) (wd : Int32) (xn : Nat) (xf : Nat) (i : Int32) : Met l yX0_isWithdrawn wsX0_isWithdrawn ({ frames := 1, cells := 0, slots := 0, locals := 21 } : Room) (cPc dC dI ((cI, .int) :: (cF, .object RX1) :: tr) sz ([(g, .inr (iX0, [.int (nI n), .int wd, .ref xn, .ref xf]))]) [.ref g, .int i]) (va_Qi (fun (r : Int32) (_ : Unit) => r = isInF wd i) (fun _ _ => True) (va_A ([]) sz)) 0 0 (va_A ([]) sz) := by
  refine Met.ofW (cc := cX0_isWithdrawn) (maxL := 2) (ret := (some .boolean)) (by decide) rfl ?_
  intro p e s m args below meth c s₁ B hml hv
  obtain ⟨rfl, hsz, hP, hK, hN⟩ := hv
  have hx := B.exec
  have hb := B.bytes
  have hr := B.returns
  have hts := atoms_spec (ws := wsX0_isWithdrawn) B.pre
  have hown : s.vm.findClass RX0 = some m.cls := findClass_of_methodNamed B.named
  have hlocks := B.notSynchronized
  subst hsz
  generalize hAe : va_A [] s.heap.size = A
  have hA : ∀ q : Nat, s.heap.size ≤ q → A q := fun q h => by rw [← hAe]; exact Or.inr h
  have hS : va_S A s.heap s.heap [] := va_S.rf
  have hAn : ∀ q : Nat, q < s.heap.size → ¬ A q := fun q h => by rw [← hAe]; exact notZ h
  have hAg : ∀ q : Nat, A q → s.heap.size ≤ q := fun q h => geZ (hAe ▸ h)
  have hR0 : va_P (dC, dI) vwCl ([(g, .inr (iX0, [.int (nI n), .int wd, .ref xn, .ref xf]))]) s.heap := hP
  have hR : va_P (dC, dI) vwCl ([(g, .inr (iX0, [.int (nI n), .int wd, .ref xn, .ref xf]))]) s.heap := hP
  have hP : va_P (dC, dI) vwCl [] s.heap := fun k q h => by simp at h
  have hD : va_D A [] := ⟨fun i j p q h => by simp at h, fun k q h => by simp at h⟩
  have hl := lv_entry ([.ref g, .int i]) (n := 2) (Nat.le_of_ble_eq_true rfl)
  rw [lg_entry_eq]
  generalize (lg_sl ([.ref g, .int i]) ++ List.replicate (2 - (lg_sl ([.ref g, .int i])).length) Slot.unset).toArray = ls at hl ⊢
  have hl : lv_has ls 2 [(0, .ref g), (1, .int i)] := hl
  have hfl_34 := hts (.fieldLink RX0 34 "Greenwheels$Claims" "withdrawn" "I") (by decide +kernel)
  have hin_X0 : ∀ w ∈ u_ws RX0 TX0 4, w ∈ wsX0_isWithdrawn := by decide +kernel
  have hw_iniX5 := hts (.initialized RX5) (by decide +kernel)
  have hw_staX5_isIn := hts (.static yX5_isIn) (by decide +kernel)
  refine lv_aload_n hx hb dX0_isWithdrawn_0 rfl (lv_at hl 0 rfl) ?_
  refine va_get (D := (dC, dI)) (ci := iX0) (v := .int wd) (C := RX0) (T := TX0) (N := 4) hx hb hts hin_X0 hown hK hR 0 rfl rfl 1 (by decide) hfl_34 (fun _ h9 => h9) rfl dX0_isWithdrawn_1 ?_
  refine lv_iload_n hx hb dX0_isWithdrawn_4 rfl (lv_at hl 1 rfl) ?_
  have hPc : va_P (dC, dI) vwCl [] s.heap := nilP
  have hFc := frZ hS hA
  refine va_calli (va_runSN (host := RX5) (As := [.int wd, .int i]) (rest := []) ⟨hx, hb, hml, hown, hts⟩ (c_X5_isIn l dC dI cI cF tr (s.heap).size wd i) ⟨va_cnB 2 hts gX0_isWithdrawn_X5_isIn_n22 rfl rfl rfl (nwAt hN (RX0, 22, yX5_isIn) (by decide +kernel)) hw_iniX5 (by decide +kernel) ⟨Nat.le_of_ble_eq_true rfl, Nat.le_of_ble_eq_true rfl⟩, hw_staX5_isIn, trivial⟩ ⟨cBl, (cPre hPc hK hN)⟩ rfl rfl hl.1 rfl (lv_room (Nat.le_of_ble_eq_true rfl)) dX0_isWithdrawn_5 ⟨(Nat.le_of_ble_eq_true rfl), (Nat.le_of_ble_eq_true rfl)⟩) hS (fun q _ h => hFc q h) hFc (fun r_1 u t H1 locs ht hvm hw_r_1 hB hz1 hk1 hS => ?_)
  refine W.widen (k := 0) (n := 0) (Nat.le_refl _) (Nat.le_refl _) ?_
  have hP := keepP hP hk1
  have hR := keepP hR hk1
  generalize H1 = H at hP hR hS ⊢
  have hP : va_P (dC, dI) vwCl ([]) H := hP
  try dsimp only at hw_r_1
  subst hw_r_1
  refine W.widen (k := 0) (n := 0) (by omega) (by omega) ?_
  exact W.zret (v := isInF wd i) hx hb hr (isInF_01 _ _) (fun t ht hW => ⟨⟨isInF wd i, (), rfl, (by first | (simp []; done) | contradiction), trivial⟩, hS.F ht⟩) hS.2.2 dX0_isWithdrawn_8

set_option maxHeartbeats 4000000 in
set_option maxRecDepth 100000 in
theorem c_X0_standingWithout (l : Launch) (dC : Nat → ClassId) (dI : Nat → Nat → Nat) (cI cF : ClassId) (tr : List (ClassId × FieldType)) (sz : Nat) (g : Nat) (n : Nat) (wd : Int32) (xn : Nat) (xf : Nat) (nr : Nat → Int32) (i : Int32) (hn : n ≤ 12) : Met l yX0_standingWithout wsX0_standingWithout ({ frames := 1, cells := 0, slots := 0, locals := 21 } : Room) (cPc dC dI ((cI, .int) :: (cF, .object RX1) :: tr) sz ([(g, .inr (iX0, [.int (nI n), .int wd, .ref xn, .ref xf])), (xn, .inl (cI, 12, .inl (nr)))]) [.ref g, .int i]) (va_Qi (fun (r : Int32) (_ : Unit) => r = stL nr i n) (fun _ _ => True) (va_A ([]) sz)) 0 0 (va_A ([]) sz) := by
  refine Met.ofW (cc := cX0_standingWithout) (maxL := 4) (ret := (some .int)) (by decide) rfl ?_
  intro p e s m args below meth c s₁ B hml hv
  obtain ⟨rfl, hsz, hP, hK, hN⟩ := hv
  have hx := B.exec
  have hb := B.bytes
  have hr := B.returns
  have hts := atoms_spec (ws := wsX0_standingWithout) B.pre
  have hown : s.vm.findClass RX0 = some m.cls := findClass_of_methodNamed B.named
  have hlocks := B.notSynchronized
  subst hsz
  generalize hAe : va_A [] s.heap.size = A
  have hA : ∀ q : Nat, s.heap.size ≤ q → A q := fun q h => by rw [← hAe]; exact Or.inr h
  have hS : va_S A s.heap s.heap [] := va_S.rf
  have hAn : ∀ q : Nat, q < s.heap.size → ¬ A q := fun q h => by rw [← hAe]; exact notZ h
  have hAg : ∀ q : Nat, A q → s.heap.size ≤ q := fun q h => geZ (hAe ▸ h)
  have hR0 : va_P (dC, dI) vwCl ([(g, .inr (iX0, [.int (nI n), .int wd, .ref xn, .ref xf])), (xn, .inl (cI, 12, .inl (nr)))]) s.heap := hP
  have hR : va_P (dC, dI) vwCl ([(g, .inr (iX0, [.int (nI n), .int wd, .ref xn, .ref xf])), (xn, .inl (cI, 12, .inl (nr)))]) s.heap := hP
  have hP : va_P (dC, dI) vwCl [] s.heap := fun k q h => by simp at h
  have hD : va_D A [] := ⟨fun i j p q h => by simp at h, fun k q h => by simp at h⟩
  have hl := lv_entry ([.ref g, .int i]) (n := 4) (Nat.le_of_ble_eq_true rfl)
  rw [lg_entry_eq]
  generalize (lg_sl ([.ref g, .int i]) ++ List.replicate (4 - (lg_sl ([.ref g, .int i])).length) Slot.unset).toArray = ls at hl ⊢
  have hl : lv_has ls 4 [(0, .ref g), (1, .int i)] := hl
  have hfl_18 := hts (.fieldLink RX0 18 "Greenwheels$Claims" "count" "I") (by decide +kernel)
  have hin_X0 : ∀ w ∈ u_ws RX0 TX0 4, w ∈ wsX0_standingWithout := by decide +kernel
  have hw_iniX5 := hts (.initialized RX5) (by decide +kernel)
  have hw_staX5_isIn := hts (.static yX5_isIn) (by decide +kernel)
  have hfl_9 := hts (.fieldLink RX0 9 "Greenwheels$Claims" "near" "[I") (by decide +kernel)
  have hw_staX5_at := hts (.static yX5_at) (by decide +kernel)
  refine lv_iconst (v := 0) hx hb dX0_standingWithout_0 (by decide) ?_
  refine lv_istore_n (lv' := [(2, .int 0), (0, .ref g), (1, .int i)]) hx hb dX0_standingWithout_1 rfl hl (by decide) rfl (fun ls hl => ?_)
  refine lv_iconst (v := 0) hx hb dX0_standingWithout_2 (by decide) ?_
  refine lv_istore_n (lv' := [(3, .int 0), (2, .int 0), (0, .ref g), (1, .int i)]) hx hb dX0_standingWithout_3 rfl hl (by decide) rfl (fun ls hl => ?_)
  have K4 : ∀ (NN : Nat), ∀ (k : Nat) (acc : Int32), (n - k) < NN → (k ≤ n) → (acc = stL nr i k) → ∀ (H : Heap) (locs : List Loc) (ls : Array Slot), va_P (dC, dI) vwCl ([]) H → va_S A s.heap H locs → lv_has ls 4 [(0, .ref g), (1, .int i), (2, .int acc), (3, .int (nI k))] → W p l e (headSpec wsX0_standingWithout ({ frames := 1, cells := 0, slots := 0, locals := 21 } : Room)).room s m #[Value.ref g, Value.int i] below meth c H locs (0) (0) (MQ below (va_Qi (fun (r : Int32) (_ : Unit) => r = stL nr i n) (fun _ _ => True) A) #[Value.ref g, Value.int i] s 0 0 A) (F0 m 4 ls []) := by
    intro NN
    induction NN with
    | zero =>
      intro k acc hmu hk hacc H locs ls hP hS hl
      exact absurd hmu (Nat.not_lt_zero _)
    | succ NN ih4 =>
      intro k acc hmu hk hacc H locs ls hP hS hl
      have hR := keepR hR0 hS hAn
      refine lv_iload_n hx hb dX0_standingWithout_4 rfl (lv_at hl 3 rfl) ?_
      refine lv_aload_n hx hb dX0_standingWithout_5 rfl (lv_at hl 0 rfl) ?_
      refine va_get (D := (dC, dI)) (ci := iX0) (v := .int (nI n)) (C := RX0) (T := TX0) (N := 4) hx hb hts hin_X0 hown hK hR 0 rfl rfl 0 (by decide) hfl_18 (fun _ h9 => h9) rfl dX0_standingWithout_6 ?_
      refine lv_icmp_ge (tgt := 47) hx hb dX0_standingWithout_9 (by decide) (fun c_1 => ?_) (fun c_1 => ?_)
      · have hke : n ≤ k := leK (by omega) (by omega) c_1
        have hkn : k = n := by omega
        rw [hkn] at hacc
        refine lv_iload_n hx hb dX0_standingWithout_47 rfl (lv_at hl 2 rfl) ?_
        refine W.widen (k := 0) (n := 0) (by omega) (by omega) ?_
        exact W.iret (v := acc) hx hb hr (fun t ht hW => ⟨⟨acc, (), rfl, hacc, trivial⟩, hS.F ht⟩) hS.2.2 dX0_standingWithout_48
      · have hkl : k < n := ltK (by omega) (by omega) c_1
        refine lv_iload_n hx hb dX0_standingWithout_12 rfl (lv_at hl 1 rfl) ?_
        refine lv_iload_n hx hb dX0_standingWithout_13 rfl (lv_at hl 3 rfl) ?_
        have hPc : va_P (dC, dI) vwCl [] H := nilP
        have hFc := frZ hS hA
        refine va_calli (va_runSN (host := RX5) (As := [.int i, .int (nI k)]) (rest := []) ⟨hx, hb, hml, hown, hts⟩ (c_X5_isIn l dC dI cI cF tr (H).size i (nI k)) ⟨va_cnB 2 hts gX0_standingWithout_X5_isIn_n22 rfl rfl rfl (nwAt hN (RX0, 22, yX5_isIn) (by decide +kernel)) hw_iniX5 (by decide +kernel) ⟨Nat.le_of_ble_eq_true rfl, Nat.le_of_ble_eq_true rfl⟩, hw_staX5_isIn, trivial⟩ ⟨cBl, (cPre hPc hK hN)⟩ rfl rfl hl.1 rfl (lv_room (Nat.le_of_ble_eq_true rfl)) dX0_standingWithout_14 ⟨(Nat.le_of_ble_eq_true rfl), (Nat.le_of_ble_eq_true rfl)⟩) hS (fun q _ h => hFc q h) hFc (fun r_2 u t H1 locs ht hvm hw_r_2 hB hz1 hk1 hS => ?_)
        refine W.widen (k := 0) (n := 0) (Nat.le_refl _) (Nat.le_refl _) ?_
        have hP := keepP hP hk1
        have hR := keepP hR hk1
        generalize H1 = H at hP hR hS ⊢
        have hP : va_P (dC, dI) vwCl ([]) H := hP
        try dsimp only at hw_r_2
        subst hw_r_2
        refine lv_if_ne (tgt := 41) hx hb dX0_standingWithout_17 (by decide) (fun c_3 => ?_) (fun c_3 => ?_)
        · refine lv_iinc (v := nI (k + 1)) (lv' := [(3, .int (nI (k + 1))), (0, .ref g), (1, .int i), (2, .int acc)]) hx hb dX0_standingWithout_41 hl (k := 3) rfl (nI_1 k) (by decide) rfl (fun ls hl => ?_)
          refine lv_goto (tgt := 4) hx hb dX0_standingWithout_44 (by decide) ?_
          refine W.widen (k := 0) (n := 0) (by omega) (by omega) ?_
          exact ih4 (k + 1) acc (by omega) hkl (by rw [hacc] at *; simp only [stL, ↓reduceIte, c_3]) _ _ ls hP hS (lv_sub hl [1, 2, 3, 0] rfl)
        · refine lv_aload_n hx hb dX0_standingWithout_20 rfl (lv_at hl 0 rfl) ?_
          refine va_get (D := (dC, dI)) (ci := iX0) (v := .ref xn) (C := RX0) (T := TX0) (N := 4) hx hb hts hin_X0 hown hK hR 0 rfl rfl 2 (by decide) hfl_9 (fun _ h9 => h9) rfl dX0_standingWithout_21 ?_
          refine lv_iload_n hx hb dX0_standingWithout_24 rfl (lv_at hl 3 rfl) ?_
          have hPc : va_P (dC, dI) vwCl ([(xn, .inl (cI, 12, .inl (nr)))]) _ := hR.sub [1] rfl
          have hFc := frZ hS hA
          refine va_calli (va_runSN (host := RX5) (As := [.ref xn, .int (nI k)]) (rest := []) ⟨hx, hb, hml, hown, hts⟩ (c_X5_at l dC dI cI cF tr (H).size xn 12 nr (nI k) (by decide)) ⟨va_cnB 2 hts gX0_standingWithout_X5_at_n26 rfl rfl rfl (nwAt hN (RX0, 26, yX5_at) (by decide +kernel)) hw_iniX5 (by decide +kernel) ⟨Nat.le_of_ble_eq_true rfl, Nat.le_of_ble_eq_true rfl⟩, hw_staX5_at, trivial⟩ ⟨cBl, (cPre hPc hK hN)⟩ rfl rfl hl.1 rfl (lv_room (Nat.le_of_ble_eq_true rfl)) dX0_standingWithout_25 ⟨(Nat.le_of_ble_eq_true rfl), (Nat.le_of_ble_eq_true rfl)⟩) hS (fun q _ h => hFc q h) hFc (fun r_4 u t H1 locs ht hvm hw_r_4 hB hz1 hk1 hS => ?_)
          refine W.widen (k := 0) (n := 0) (Nat.le_refl _) (Nat.le_refl _) ?_
          have hP := keepP hP hk1
          have hR := keepP hR hk1
          generalize H1 = H at hP hR hS ⊢
          have hP : va_P (dC, dI) vwCl ([]) H := hP
          try dsimp only at hw_r_4
          subst hw_r_4
          refine lv_iload_n hx hb dX0_standingWithout_28 rfl (lv_at hl 2 rfl) ?_
          refine lv_iconst (v := (-1)) hx hb dX0_standingWithout_29 (by decide) ?_
          refine lv_ixor hx hb dX0_standingWithout_30 ?_
          refine lv_iand hx hb dX0_standingWithout_31 ?_
          refine lv_if_ne (tgt := 41) hx hb dX0_standingWithout_32 (by decide) (fun c_5 => ?_) (fun c_5 => ?_)
          · refine lv_iinc (v := nI (k + 1)) (lv' := [(3, .int (nI (k + 1))), (0, .ref g), (1, .int i), (2, .int acc)]) hx hb dX0_standingWithout_41 hl (k := 3) rfl (nI_1 k) (by decide) rfl (fun ls hl => ?_)
            refine lv_goto (tgt := 4) hx hb dX0_standingWithout_44 (by decide) ?_
            refine W.widen (k := 0) (n := 0) (by omega) (by omega) ?_
            exact ih4 (k + 1) acc (by omega) hkl (by rw [hacc] at *; simp only [stL, ↓reduceIte, c_3, c_5]) _ _ ls hP hS (lv_sub hl [1, 2, 3, 0] rfl)
          · refine lv_iload_n hx hb dX0_standingWithout_35 rfl (lv_at hl 2 rfl) ?_
            refine lv_iconst (v := 1) hx hb dX0_standingWithout_36 (by decide) ?_
            refine lv_iload_n hx hb dX0_standingWithout_37 rfl (lv_at hl 3 rfl) ?_
            refine lv_ishl hx hb dX0_standingWithout_38 ?_
            refine lv_ior hx hb dX0_standingWithout_39 ?_
            refine lv_istore_n (lv' := [(2, .int (acc ||| (1 <<< ((nI k) &&& 31)))), (0, .ref g), (1, .int i), (3, .int (nI k))]) hx hb dX0_standingWithout_40 rfl hl (by decide) rfl (fun ls hl => ?_)
            refine lv_iinc (v := nI (k + 1)) (lv' := [(3, .int (nI (k + 1))), (2, .int (acc ||| (1 <<< ((nI k) &&& 31)))), (0, .ref g), (1, .int i)]) hx hb dX0_standingWithout_41 hl (k := 3) rfl (nI_1 k) (by decide) rfl (fun ls hl => ?_)
            refine lv_goto (tgt := 4) hx hb dX0_standingWithout_44 (by decide) ?_
            refine W.widen (k := 0) (n := 0) (by omega) (by omega) ?_
            exact ih4 (k + 1) (acc ||| (1 <<< ((nI k) &&& 31))) (by omega) hkl (by rw [hacc] at *; simp only [stL, ↓reduceIte, c_3, c_5]) _ _ ls hP hS (lv_sub hl [2, 3, 1, 0] rfl)
  refine W.widen (k := 0) (n := 0) (by omega) (by omega) ?_
  exact K4 (n - 0 + 1) 0 0 (by omega) (Nat.zero_le _) rfl _ _ ls hP hS (lv_sub hl [2, 3, 1, 0] rfl)

set_option maxHeartbeats 4000000 in
set_option maxRecDepth 100000 in
theorem c_X0_isStanding (l : Launch) (dC : Nat → ClassId) (dI : Nat → Nat → Nat) (cI cF : ClassId) (tr : List (ClassId × FieldType)) (sz : Nat) (g : Nat) (n : Nat) (wd : Int32) (xn : Nat) (xf : Nat) (nr : Nat → Int32) (i : Int32) (hn : n ≤ 12) : Met l yX0_isStanding wsX0_isStanding ({ frames := 2, cells := 0, slots := 0, locals := 44 } : Room) (cPc dC dI ((cI, .int) :: (cF, .object RX1) :: tr) sz ([(g, .inr (iX0, [.int (nI n), .int wd, .ref xn, .ref xf])), (xn, .inl (cI, 12, .inl (nr)))]) [.ref g, .int i]) (va_Qi (fun (r : Int32) (_ : Unit) => r = isInF (stL nr wd n) i) (fun _ _ => True) (va_A ([]) sz)) 0 0 (va_A ([]) sz) := by
  refine Met.ofW (cc := cX0_isStanding) (maxL := 2) (ret := (some .boolean)) (by decide) rfl ?_
  intro p e s m args below meth c s₁ B hml hv
  obtain ⟨rfl, hsz, hP, hK, hN⟩ := hv
  have hx := B.exec
  have hb := B.bytes
  have hr := B.returns
  have hts := atoms_spec (ws := wsX0_isStanding) B.pre
  have hown : s.vm.findClass RX0 = some m.cls := findClass_of_methodNamed B.named
  have hlocks := B.notSynchronized
  subst hsz
  generalize hAe : va_A [] s.heap.size = A
  have hA : ∀ q : Nat, s.heap.size ≤ q → A q := fun q h => by rw [← hAe]; exact Or.inr h
  have hS : va_S A s.heap s.heap [] := va_S.rf
  have hAn : ∀ q : Nat, q < s.heap.size → ¬ A q := fun q h => by rw [← hAe]; exact notZ h
  have hAg : ∀ q : Nat, A q → s.heap.size ≤ q := fun q h => geZ (hAe ▸ h)
  have hR0 : va_P (dC, dI) vwCl ([(g, .inr (iX0, [.int (nI n), .int wd, .ref xn, .ref xf])), (xn, .inl (cI, 12, .inl (nr)))]) s.heap := hP
  have hR : va_P (dC, dI) vwCl ([(g, .inr (iX0, [.int (nI n), .int wd, .ref xn, .ref xf])), (xn, .inl (cI, 12, .inl (nr)))]) s.heap := hP
  have hP : va_P (dC, dI) vwCl [] s.heap := fun k q h => by simp at h
  have hD : va_D A [] := ⟨fun i j p q h => by simp at h, fun k q h => by simp at h⟩
  have hl := lv_entry ([.ref g, .int i]) (n := 2) (Nat.le_of_ble_eq_true rfl)
  rw [lg_entry_eq]
  generalize (lg_sl ([.ref g, .int i]) ++ List.replicate (2 - (lg_sl ([.ref g, .int i])).length) Slot.unset).toArray = ls at hl ⊢
  have hl : lv_has ls 2 [(0, .ref g), (1, .int i)] := hl
  have hfl_34 := hts (.fieldLink RX0 34 "Greenwheels$Claims" "withdrawn" "I") (by decide +kernel)
  have hin_X0 : ∀ w ∈ u_ws RX0 TX0 4, w ∈ wsX0_isStanding := by decide +kernel
  have hw_iniX5 := hts (.initialized RX5) (by decide +kernel)
  have hw_staX5_isIn := hts (.static yX5_isIn) (by decide +kernel)
  refine lv_aload_n hx hb dX0_isStanding_0 rfl (lv_at hl 0 rfl) ?_
  refine lv_aload_n hx hb dX0_isStanding_1 rfl (lv_at hl 0 rfl) ?_
  refine va_get (D := (dC, dI)) (ci := iX0) (v := .int wd) (C := RX0) (T := TX0) (N := 4) hx hb hts hin_X0 hown hK hR 0 rfl rfl 1 (by decide) hfl_34 (fun _ h9 => h9) rfl dX0_isStanding_2 ?_
  have hPc : va_P (dC, dI) vwCl ([(g, .inr (iX0, [.int (nI n), .int wd, .ref xn, .ref xf])), (xn, .inl (cI, 12, .inl (nr)))]) _ := hR.sub [0, 1] rfl
  have hFc := frZ hS hA
  refine va_calli (va_runV (As := [.int wd]) (rest := []) ⟨hx, hb, hml, hown, hts⟩ (c_X0_standingWithout l dC dI cI cF tr (s.heap).size g n wd xn xf nr wd (by assumption)) (cwV 1 hts gX0_isStanding_X0_standingWithout rfl rfl rfl (by decide +kernel) ⟨Nat.le_of_ble_eq_true rfl, Nat.le_of_ble_eq_true rfl⟩) ⟨cBl, (va_recv hK hPc (ci := iX0) (q0 := 0) rfl rfl), (cPre hPc hK hN)⟩ rfl rfl hl.1 rfl (lv_room (Nat.le_of_ble_eq_true rfl)) dX0_isStanding_5 ⟨(Nat.le_of_ble_eq_true rfl), (Nat.le_of_ble_eq_true rfl)⟩) hS (fun q _ h => hFc q h) hFc (fun r_1 u t H1 locs ht hvm hw_r_1 hB hz1 hk1 hS => ?_)
  refine W.widen (k := 0) (n := 0) (Nat.le_refl _) (Nat.le_refl _) ?_
  have hP := keepP hP hk1
  have hR := keepP hR hk1
  generalize H1 = H at hP hR hS ⊢
  have hP : va_P (dC, dI) vwCl ([]) H := hP
  try dsimp only at hw_r_1
  subst hw_r_1
  refine lv_iload_n hx hb dX0_isStanding_8 rfl (lv_at hl 1 rfl) ?_
  have hPc : va_P (dC, dI) vwCl [] H := nilP
  have hFc := frZ hS hA
  refine va_calli (va_runSN (host := RX5) (As := [.int (stL nr wd n), .int i]) (rest := []) ⟨hx, hb, hml, hown, hts⟩ (c_X5_isIn l dC dI cI cF tr (H).size (stL nr wd n) i) ⟨va_cnB 2 hts gX0_isStanding_X5_isIn_n22 rfl rfl rfl (nwAt hN (RX0, 22, yX5_isIn) (by decide +kernel)) hw_iniX5 (by decide +kernel) ⟨Nat.le_of_ble_eq_true rfl, Nat.le_of_ble_eq_true rfl⟩, hw_staX5_isIn, trivial⟩ ⟨cBl, (cPre hPc hK hN)⟩ rfl rfl hl.1 rfl (lv_room (Nat.le_of_ble_eq_true rfl)) dX0_isStanding_9 ⟨(Nat.le_of_ble_eq_true rfl), (Nat.le_of_ble_eq_true rfl)⟩) hS (fun q _ h => hFc q h) hFc (fun r_2 u t H1 locs ht hvm hw_r_2 hB hz1 hk1 hS => ?_)
  refine W.widen (k := 0) (n := 0) (Nat.le_refl _) (Nat.le_refl _) ?_
  have hP := keepP hP hk1
  have hR := keepP hR hk1
  generalize H1 = H at hP hR hS ⊢
  have hP : va_P (dC, dI) vwCl ([]) H := hP
  try dsimp only at hw_r_2
  subst hw_r_2
  refine W.widen (k := 0) (n := 0) (by omega) (by omega) ?_
  exact W.zret (v := isInF (stL nr wd n) i) hx hb hr (isInF_01 _ _) (fun t ht hW => ⟨⟨isInF (stL nr wd n) i, (), rfl, (by first | (simp []; done) | contradiction), trivial⟩, hS.F ht⟩) hS.2.2 dX0_isStanding_12

set_option maxHeartbeats 4000000 in
set_option maxRecDepth 100000 in
theorem c_X0_countStanding (l : Launch) (dC : Nat → ClassId) (dI : Nat → Nat → Nat) (cI cF : ClassId) (tr : List (ClassId × FieldType)) (sz : Nat) (g : Nat) (n : Nat) (wd : Int32) (xn : Nat) (xf : Nat) (nr : Nat → Int32) (hn : n ≤ 12) : Met l yX0_countStanding wsX0_countStanding ({ frames := 2, cells := 0, slots := 0, locals := 44 } : Room) (cPc dC dI ((cI, .int) :: (cF, .object RX1) :: tr) sz ([(g, .inr (iX0, [.int (nI n), .int wd, .ref xn, .ref xf])), (xn, .inl (cI, 12, .inl (nr)))]) [.ref g]) (va_Qi (fun (r : Int32) (_ : Unit) => r = bcF (stL nr wd n)) (fun _ _ => True) (va_A ([]) sz)) 0 0 (va_A ([]) sz) := by
  refine Met.ofW (cc := cX0_countStanding) (maxL := 1) (ret := (some .int)) (by decide) rfl ?_
  intro p e s m args below meth c s₁ B hml hv
  obtain ⟨rfl, hsz, hP, hK, hN⟩ := hv
  have hx := B.exec
  have hb := B.bytes
  have hr := B.returns
  have hts := atoms_spec (ws := wsX0_countStanding) B.pre
  have hown : s.vm.findClass RX0 = some m.cls := findClass_of_methodNamed B.named
  have hlocks := B.notSynchronized
  subst hsz
  generalize hAe : va_A [] s.heap.size = A
  have hA : ∀ q : Nat, s.heap.size ≤ q → A q := fun q h => by rw [← hAe]; exact Or.inr h
  have hS : va_S A s.heap s.heap [] := va_S.rf
  have hAn : ∀ q : Nat, q < s.heap.size → ¬ A q := fun q h => by rw [← hAe]; exact notZ h
  have hAg : ∀ q : Nat, A q → s.heap.size ≤ q := fun q h => geZ (hAe ▸ h)
  have hR0 : va_P (dC, dI) vwCl ([(g, .inr (iX0, [.int (nI n), .int wd, .ref xn, .ref xf])), (xn, .inl (cI, 12, .inl (nr)))]) s.heap := hP
  have hR : va_P (dC, dI) vwCl ([(g, .inr (iX0, [.int (nI n), .int wd, .ref xn, .ref xf])), (xn, .inl (cI, 12, .inl (nr)))]) s.heap := hP
  have hP : va_P (dC, dI) vwCl [] s.heap := fun k q h => by simp at h
  have hD : va_D A [] := ⟨fun i j p q h => by simp at h, fun k q h => by simp at h⟩
  have hl := lv_entry ([.ref g]) (n := 1) (Nat.le_of_ble_eq_true rfl)
  rw [lg_entry_eq]
  generalize (lg_sl ([.ref g]) ++ List.replicate (1 - (lg_sl ([.ref g])).length) Slot.unset).toArray = ls at hl ⊢
  have hl : lv_has ls 1 [(0, .ref g)] := hl
  have hfl_34 := hts (.fieldLink RX0 34 "Greenwheels$Claims" "withdrawn" "I") (by decide +kernel)
  have hin_X0 : ∀ w ∈ u_ws RX0 TX0 4, w ∈ wsX0_countStanding := by decide +kernel
  refine lv_aload_n hx hb dX0_countStanding_0 rfl (lv_at hl 0 rfl) ?_
  refine lv_aload_n hx hb dX0_countStanding_1 rfl (lv_at hl 0 rfl) ?_
  refine va_get (D := (dC, dI)) (ci := iX0) (v := .int wd) (C := RX0) (T := TX0) (N := 4) hx hb hts hin_X0 hown hK hR 0 rfl rfl 1 (by decide) hfl_34 (fun _ h9 => h9) rfl dX0_countStanding_2 ?_
  have hPc : va_P (dC, dI) vwCl ([(g, .inr (iX0, [.int (nI n), .int wd, .ref xn, .ref xf])), (xn, .inl (cI, 12, .inl (nr)))]) _ := hR.sub [0, 1] rfl
  have hFc := frZ hS hA
  refine va_calli (va_runV (As := [.int wd]) (rest := []) ⟨hx, hb, hml, hown, hts⟩ (c_X0_standingWithout l dC dI cI cF tr (s.heap).size g n wd xn xf nr wd (by assumption)) (cwV 1 hts gX0_countStanding_X0_standingWithout rfl rfl rfl (by decide +kernel) ⟨Nat.le_of_ble_eq_true rfl, Nat.le_of_ble_eq_true rfl⟩) ⟨cBl, (va_recv hK hPc (ci := iX0) (q0 := 0) rfl rfl), (cPre hPc hK hN)⟩ rfl rfl hl.1 rfl (lv_room (Nat.le_of_ble_eq_true rfl)) dX0_countStanding_5 ⟨(Nat.le_of_ble_eq_true rfl), (Nat.le_of_ble_eq_true rfl)⟩) hS (fun q _ h => hFc q h) hFc (fun r_1 u t H1 locs ht hvm hw_r_1 hB hz1 hk1 hS => ?_)
  refine W.widen (k := 0) (n := 0) (Nat.le_refl _) (Nat.le_refl _) ?_
  have hP := keepP hP hk1
  have hR := keepP hR hk1
  generalize H1 = H at hP hR hS ⊢
  have hP : va_P (dC, dI) vwCl ([]) H := hP
  try dsimp only at hw_r_1
  subst hw_r_1
  have hPc : va_P (dC, dI) vwCl [] H := nilP
  have hFc := frZ hS hA
  refine va_calli (va_runS (As := [.int (stL nr wd n)]) (rest := []) ⟨hx, hb, hml, hown, hts⟩ (c_J6_bitCount_0f7a4 l dC dI cI cF tr (H).size (stL nr wd n)) (va_cwS 1 hts gX0_countStanding_J6_bitCount_0f7a4 rfl rfl rfl (by decide +kernel) ⟨Nat.le_of_ble_eq_true rfl, Nat.le_of_ble_eq_true rfl⟩) ⟨cBl, (cPre hPc hK hN)⟩ rfl rfl hl.1 rfl (lv_room (Nat.le_of_ble_eq_true rfl)) dX0_countStanding_8 ⟨(Nat.le_of_ble_eq_true rfl), (Nat.le_of_ble_eq_true rfl)⟩) hS (fun q _ h => hFc q h) hFc (fun r_2 u t H1 locs ht hvm hw_r_2 hB hz1 hk1 hS => ?_)
  refine W.widen (k := 0) (n := 0) (Nat.le_refl _) (Nat.le_refl _) ?_
  have hP := keepP hP hk1
  have hR := keepP hR hk1
  generalize H1 = H at hP hR hS ⊢
  have hP : va_P (dC, dI) vwCl ([]) H := hP
  try dsimp only at hw_r_2
  subst hw_r_2
  refine W.widen (k := 0) (n := 0) (by omega) (by omega) ?_
  exact W.iret (v := bcF (stL nr wd n)) hx hb hr (fun t ht hW => ⟨⟨bcF (stL nr wd n), (), rfl, (by first | (simp []; done) | contradiction), trivial⟩, hS.F ht⟩) hS.2.2 dX0_countStanding_11

set_option maxHeartbeats 4000000 in
set_option maxRecDepth 100000 in
theorem c_X0_fallingWith (l : Launch) (dC : Nat → ClassId) (dI : Nat → Nat → Nat) (cI cF : ClassId) (tr : List (ClassId × FieldType)) (sz : Nat) (g : Nat) (n : Nat) (wd : Int32) (xn : Nat) (xf : Nat) (nr : Nat → Int32) (i : Int32) (hn : n ≤ 12) : Met l yX0_fallingWith wsX0_fallingWith ({ frames := 3, cells := 0, slots := 0, locals := 64 } : Room) (cPc dC dI ((cI, .int) :: (cF, .object RX1) :: tr) sz ([(g, .inr (iX0, [.int (nI n), .int wd, .ref xn, .ref xf])), (xn, .inl (cI, 12, .inl (nr)))]) [.ref g, .int i]) (va_Qi (fun (r : Int32) (_ : Unit) => r = bcF (stL nr wd n) - bcF (stL nr (wd ||| 1 <<< (i &&& 31)) n)) (fun _ _ => True) (va_A ([]) sz)) 0 0 (va_A ([]) sz) := by
  refine Met.ofW (cc := cX0_fallingWith) (maxL := 2) (ret := (some .int)) (by decide) rfl ?_
  intro p e s m args below meth c s₁ B hml hv
  obtain ⟨rfl, hsz, hP, hK, hN⟩ := hv
  have hx := B.exec
  have hb := B.bytes
  have hr := B.returns
  have hts := atoms_spec (ws := wsX0_fallingWith) B.pre
  have hown : s.vm.findClass RX0 = some m.cls := findClass_of_methodNamed B.named
  have hlocks := B.notSynchronized
  subst hsz
  generalize hAe : va_A [] s.heap.size = A
  have hA : ∀ q : Nat, s.heap.size ≤ q → A q := fun q h => by rw [← hAe]; exact Or.inr h
  have hS : va_S A s.heap s.heap [] := va_S.rf
  have hAn : ∀ q : Nat, q < s.heap.size → ¬ A q := fun q h => by rw [← hAe]; exact notZ h
  have hAg : ∀ q : Nat, A q → s.heap.size ≤ q := fun q h => geZ (hAe ▸ h)
  have hR0 : va_P (dC, dI) vwCl ([(g, .inr (iX0, [.int (nI n), .int wd, .ref xn, .ref xf])), (xn, .inl (cI, 12, .inl (nr)))]) s.heap := hP
  have hR : va_P (dC, dI) vwCl ([(g, .inr (iX0, [.int (nI n), .int wd, .ref xn, .ref xf])), (xn, .inl (cI, 12, .inl (nr)))]) s.heap := hP
  have hP : va_P (dC, dI) vwCl [] s.heap := fun k q h => by simp at h
  have hD : va_D A [] := ⟨fun i j p q h => by simp at h, fun k q h => by simp at h⟩
  have hl := lv_entry ([.ref g, .int i]) (n := 2) (Nat.le_of_ble_eq_true rfl)
  rw [lg_entry_eq]
  generalize (lg_sl ([.ref g, .int i]) ++ List.replicate (2 - (lg_sl ([.ref g, .int i])).length) Slot.unset).toArray = ls at hl ⊢
  have hl : lv_has ls 2 [(0, .ref g), (1, .int i)] := hl
  have hfl_34 := hts (.fieldLink RX0 34 "Greenwheels$Claims" "withdrawn" "I") (by decide +kernel)
  have hin_X0 : ∀ w ∈ u_ws RX0 TX0 4, w ∈ wsX0_fallingWith := by decide +kernel
  refine lv_aload_n hx hb dX0_fallingWith_0 rfl (lv_at hl 0 rfl) ?_
  have hPc : va_P (dC, dI) vwCl ([(g, .inr (iX0, [.int (nI n), .int wd, .ref xn, .ref xf])), (xn, .inl (cI, 12, .inl (nr)))]) _ := hR.sub [0, 1] rfl
  have hFc := frZ hS hA
  refine va_calli (va_runV (As := []) (rest := []) ⟨hx, hb, hml, hown, hts⟩ (c_X0_countStanding l dC dI cI cF tr (s.heap).size g n wd xn xf nr (by assumption)) (cwV 0 hts gX0_fallingWith_X0_countStanding rfl rfl rfl (by decide +kernel) ⟨Nat.le_of_ble_eq_true rfl, Nat.le_of_ble_eq_true rfl⟩) ⟨cBl, (va_recv hK hPc (ci := iX0) (q0 := 0) rfl rfl), (cPre hPc hK hN)⟩ rfl rfl hl.1 rfl (lv_room (Nat.le_of_ble_eq_true rfl)) dX0_fallingWith_1 ⟨(Nat.le_of_ble_eq_true rfl), (Nat.le_of_ble_eq_true rfl)⟩) hS (fun q _ h => hFc q h) hFc (fun r_1 u t H1 locs ht hvm hw_r_1 hB hz1 hk1 hS => ?_)
  refine W.widen (k := 0) (n := 0) (Nat.le_refl _) (Nat.le_refl _) ?_
  have hP := keepP hP hk1
  have hR := keepP hR hk1
  generalize H1 = H at hP hR hS ⊢
  have hP : va_P (dC, dI) vwCl ([]) H := hP
  try dsimp only at hw_r_1
  subst hw_r_1
  refine lv_aload_n hx hb dX0_fallingWith_4 rfl (lv_at hl 0 rfl) ?_
  refine lv_aload_n hx hb dX0_fallingWith_5 rfl (lv_at hl 0 rfl) ?_
  refine va_get (D := (dC, dI)) (ci := iX0) (v := .int wd) (C := RX0) (T := TX0) (N := 4) hx hb hts hin_X0 hown hK hR 0 rfl rfl 1 (by decide) hfl_34 (fun _ h9 => h9) rfl dX0_fallingWith_6 ?_
  refine lv_iconst (v := 1) hx hb dX0_fallingWith_9 (by decide) ?_
  refine lv_iload_n hx hb dX0_fallingWith_10 rfl (lv_at hl 1 rfl) ?_
  refine lv_ishl hx hb dX0_fallingWith_11 ?_
  refine lv_ior hx hb dX0_fallingWith_12 ?_
  have hPc : va_P (dC, dI) vwCl ([(g, .inr (iX0, [.int (nI n), .int wd, .ref xn, .ref xf])), (xn, .inl (cI, 12, .inl (nr)))]) _ := hR.sub [0, 1] rfl
  have hFc := frZ hS hA
  refine va_calli (va_runV (As := [.int (wd ||| (1 <<< (i &&& 31)))]) (rest := [.int (bcF (stL nr wd n))]) ⟨hx, hb, hml, hown, hts⟩ (c_X0_standingWithout l dC dI cI cF tr (H).size g n wd xn xf nr (wd ||| (1 <<< (i &&& 31))) (by assumption)) (cwV 1 hts gX0_fallingWith_X0_standingWithout rfl rfl rfl (by decide +kernel) ⟨Nat.le_of_ble_eq_true rfl, Nat.le_of_ble_eq_true rfl⟩) ⟨cBl, (va_recv hK hPc (ci := iX0) (q0 := 0) rfl rfl), (cPre hPc hK hN)⟩ rfl rfl hl.1 rfl (lv_room (Nat.le_of_ble_eq_true rfl)) dX0_fallingWith_13 ⟨(Nat.le_of_ble_eq_true rfl), (Nat.le_of_ble_eq_true rfl)⟩) hS (fun q _ h => hFc q h) hFc (fun r_2 u t H1 locs ht hvm hw_r_2 hB hz1 hk1 hS => ?_)
  refine W.widen (k := 0) (n := 0) (Nat.le_refl _) (Nat.le_refl _) ?_
  have hP := keepP hP hk1
  have hR := keepP hR hk1
  generalize H1 = H at hP hR hS ⊢
  have hP : va_P (dC, dI) vwCl ([]) H := hP
  try dsimp only at hw_r_2
  subst hw_r_2
  have hPc : va_P (dC, dI) vwCl [] H := nilP
  have hFc := frZ hS hA
  refine va_calli (va_runS (As := [.int (stL nr (wd ||| (1 <<< (i &&& 31))) n)]) (rest := [.int (bcF (stL nr wd n))]) ⟨hx, hb, hml, hown, hts⟩ (c_J6_bitCount_0f7a4 l dC dI cI cF tr (H).size (stL nr (wd ||| (1 <<< (i &&& 31))) n)) (va_cwS 1 hts gX0_fallingWith_J6_bitCount_0f7a4 rfl rfl rfl (by decide +kernel) ⟨Nat.le_of_ble_eq_true rfl, Nat.le_of_ble_eq_true rfl⟩) ⟨cBl, (cPre hPc hK hN)⟩ rfl rfl hl.1 rfl (lv_room (Nat.le_of_ble_eq_true rfl)) dX0_fallingWith_16 ⟨(Nat.le_of_ble_eq_true rfl), (Nat.le_of_ble_eq_true rfl)⟩) hS (fun q _ h => hFc q h) hFc (fun r_3 u t H1 locs ht hvm hw_r_3 hB hz1 hk1 hS => ?_)
  refine W.widen (k := 0) (n := 0) (Nat.le_refl _) (Nat.le_refl _) ?_
  have hP := keepP hP hk1
  have hR := keepP hR hk1
  generalize H1 = H at hP hR hS ⊢
  have hP : va_P (dC, dI) vwCl ([]) H := hP
  try dsimp only at hw_r_3
  subst hw_r_3
  refine lv_isub hx hb dX0_fallingWith_19 ?_
  refine W.widen (k := 0) (n := 0) (by omega) (by omega) ?_
  exact W.iret (v := (bcF (stL nr wd n)) - (bcF (stL nr (wd ||| (1 <<< (i &&& 31))) n))) hx hb hr (fun t ht hW => ⟨⟨(bcF (stL nr wd n)) - (bcF (stL nr (wd ||| (1 <<< (i &&& 31))) n)), (), rfl, (by first | (simp []; done) | contradiction), trivial⟩, hS.F ht⟩) hS.2.2 dX0_fallingWith_20

set_option maxHeartbeats 4000000 in
set_option maxRecDepth 100000 in
theorem c_X0_areConsistent (l : Launch) (dC : Nat → ClassId) (dI : Nat → Nat → Nat) (cI cF : ClassId) (tr : List (ClassId × FieldType)) (sz : Nat) (g : Nat) (n : Nat) (wd : Int32) (xn : Nat) (xf : Nat) (nr : Nat → Int32) (nf : Nat → Int32) (hn : n ≤ 12) : Met l yX0_areConsistent wsX0_areConsistent ({ frames := 2, cells := 0, slots := 0, locals := 44 } : Room) (cPc dC dI ((cI, .int) :: (cF, .object RX1) :: tr) sz ([(g, .inr (iX0, [.int (nI n), .int wd, .ref xn, .ref xf])), (xn, .inl (cI, 12, .inl (nr))), (xf, .inl (cI, 12, .inl (nf)))]) [.ref g]) (va_Qi (fun (r : Int32) (_ : Unit) => r = acnL (stL nr wd n) wd nf n 0) (fun _ _ => True) (va_A ([]) sz)) 0 0 (va_A ([]) sz) := by
  refine Met.ofW (cc := cX0_areConsistent) (maxL := 4) (ret := (some .boolean)) (by decide) rfl ?_
  intro p e s m args below meth c s₁ B hml hv
  obtain ⟨rfl, hsz, hP, hK, hN⟩ := hv
  have hx := B.exec
  have hb := B.bytes
  have hr := B.returns
  have hts := atoms_spec (ws := wsX0_areConsistent) B.pre
  have hown : s.vm.findClass RX0 = some m.cls := findClass_of_methodNamed B.named
  have hlocks := B.notSynchronized
  subst hsz
  generalize hAe : va_A [] s.heap.size = A
  have hA : ∀ q : Nat, s.heap.size ≤ q → A q := fun q h => by rw [← hAe]; exact Or.inr h
  have hS : va_S A s.heap s.heap [] := va_S.rf
  have hAn : ∀ q : Nat, q < s.heap.size → ¬ A q := fun q h => by rw [← hAe]; exact notZ h
  have hAg : ∀ q : Nat, A q → s.heap.size ≤ q := fun q h => geZ (hAe ▸ h)
  have hR0 : va_P (dC, dI) vwCl ([(g, .inr (iX0, [.int (nI n), .int wd, .ref xn, .ref xf])), (xn, .inl (cI, 12, .inl (nr))), (xf, .inl (cI, 12, .inl (nf)))]) s.heap := hP
  have hR : va_P (dC, dI) vwCl ([(g, .inr (iX0, [.int (nI n), .int wd, .ref xn, .ref xf])), (xn, .inl (cI, 12, .inl (nr))), (xf, .inl (cI, 12, .inl (nf)))]) s.heap := hP
  have hP : va_P (dC, dI) vwCl [] s.heap := fun k q h => by simp at h
  have hD : va_D A [] := ⟨fun i j p q h => by simp at h, fun k q h => by simp at h⟩
  have hl := lv_entry ([.ref g]) (n := 4) (Nat.le_of_ble_eq_true rfl)
  rw [lg_entry_eq]
  generalize (lg_sl ([.ref g]) ++ List.replicate (4 - (lg_sl ([.ref g])).length) Slot.unset).toArray = ls at hl ⊢
  have hl : lv_has ls 4 [(0, .ref g)] := hl
  have hfl_34 := hts (.fieldLink RX0 34 "Greenwheels$Claims" "withdrawn" "I") (by decide +kernel)
  have hin_X0 : ∀ w ∈ u_ws RX0 TX0 4, w ∈ wsX0_areConsistent := by decide +kernel
  have hfl_18 := hts (.fieldLink RX0 18 "Greenwheels$Claims" "count" "I") (by decide +kernel)
  have hfl_15 := hts (.fieldLink RX0 15 "Greenwheels$Claims" "nearAndFar" "[I") (by decide +kernel)
  have hw_iniX5 := hts (.initialized RX5) (by decide +kernel)
  have hw_staX5_at := hts (.static yX5_at) (by decide +kernel)
  have hw_staX5_isIn := hts (.static yX5_isIn) (by decide +kernel)
  refine lv_aload_n hx hb dX0_areConsistent_0 rfl (lv_at hl 0 rfl) ?_
  refine lv_aload_n hx hb dX0_areConsistent_1 rfl (lv_at hl 0 rfl) ?_
  refine va_get (D := (dC, dI)) (ci := iX0) (v := .int wd) (C := RX0) (T := TX0) (N := 4) hx hb hts hin_X0 hown hK hR 0 rfl rfl 1 (by decide) hfl_34 (fun _ h9 => h9) rfl dX0_areConsistent_2 ?_
  have hPc : va_P (dC, dI) vwCl ([(g, .inr (iX0, [.int (nI n), .int wd, .ref xn, .ref xf])), (xn, .inl (cI, 12, .inl (nr)))]) _ := hR.sub [0, 1] rfl
  have hFc := frZ hS hA
  refine va_calli (va_runV (As := [.int wd]) (rest := []) ⟨hx, hb, hml, hown, hts⟩ (c_X0_standingWithout l dC dI cI cF tr (s.heap).size g n wd xn xf nr wd (by assumption)) (cwV 1 hts gX0_areConsistent_X0_standingWithout rfl rfl rfl (by decide +kernel) ⟨Nat.le_of_ble_eq_true rfl, Nat.le_of_ble_eq_true rfl⟩) ⟨cBl, (va_recv hK hPc (ci := iX0) (q0 := 0) rfl rfl), (cPre hPc hK hN)⟩ rfl rfl hl.1 rfl (lv_room (Nat.le_of_ble_eq_true rfl)) dX0_areConsistent_5 ⟨(Nat.le_of_ble_eq_true rfl), (Nat.le_of_ble_eq_true rfl)⟩) hS (fun q _ h => hFc q h) hFc (fun r_1 u t H1 locs ht hvm hw_r_1 hB hz1 hk1 hS => ?_)
  refine W.widen (k := 0) (n := 0) (Nat.le_refl _) (Nat.le_refl _) ?_
  have hP := keepP hP hk1
  have hR := keepP hR hk1
  generalize H1 = H at hP hR hS ⊢
  have hP : va_P (dC, dI) vwCl ([]) H := hP
  try dsimp only at hw_r_1
  subst hw_r_1
  refine lv_istore_n (lv' := [(1, .int (stL nr wd n)), (0, .ref g)]) hx hb dX0_areConsistent_8 rfl hl (by decide) rfl (fun ls hl => ?_)
  refine lv_iconst (v := 0) hx hb dX0_areConsistent_9 (by decide) ?_
  refine lv_istore_n (lv' := [(2, .int 0), (1, .int (stL nr wd n)), (0, .ref g)]) hx hb dX0_areConsistent_10 rfl hl (by decide) rfl (fun ls hl => ?_)
  have K11 : ∀ (NN : Nat), ∀ (k : Nat), (n - k) < NN → (k ≤ n) → (acnL (stL nr wd n) wd nf (n - k) k = acnL (stL nr wd n) wd nf n 0) → ∀ (H : Heap) (locs : List Loc) (ls : Array Slot), va_P (dC, dI) vwCl ([]) H → va_S A s.heap H locs → lv_has ls 4 [(0, .ref g), (1, .int (stL nr wd n)), (2, .int (nI k))] → W p l e (headSpec wsX0_areConsistent ({ frames := 2, cells := 0, slots := 0, locals := 44 } : Room)).room s m #[Value.ref g] below meth c H locs (0) (0) (MQ below (va_Qi (fun (r : Int32) (_ : Unit) => r = acnL (stL nr wd n) wd nf n 0) (fun _ _ => True) A) #[Value.ref g] s 0 0 A) (F0 m 11 ls []) := by
    intro NN
    induction NN with
    | zero =>
      intro k hmu hk hacc H locs ls hP hS hl
      exact absurd hmu (Nat.not_lt_zero _)
    | succ NN ih11 =>
      intro k hmu hk hacc H locs ls hP hS hl
      have hR := keepR hR0 hS hAn
      refine lv_iload_n hx hb dX0_areConsistent_11 rfl (lv_at hl 2 rfl) ?_
      refine lv_aload_n hx hb dX0_areConsistent_12 rfl (lv_at hl 0 rfl) ?_
      refine va_get (D := (dC, dI)) (ci := iX0) (v := .int (nI n)) (C := RX0) (T := TX0) (N := 4) hx hb hts hin_X0 hown hK hR 0 rfl rfl 0 (by decide) hfl_18 (fun _ h9 => h9) rfl dX0_areConsistent_13 ?_
      refine lv_icmp_ge (tgt := 62) hx hb dX0_areConsistent_16 (by decide) (fun c_2 => ?_) (fun c_2 => ?_)
      · have hke : n ≤ k := leK (by omega) (by omega) c_2
        have hkn : k = n := by omega
        refine lv_iconst (v := 1) hx hb dX0_areConsistent_62 (by decide) ?_
        refine W.widen (k := 0) (n := 0) (by omega) (by omega) ?_
        exact W.zret (v := 1) hx hb hr (by first | rfl | simp [narrow] | assumption) (fun t ht hW => ⟨⟨1, (), rfl, (by rw [← hacc, hkn, Nat.sub_self]; rfl), trivial⟩, hS.F ht⟩) hS.2.2 dX0_areConsistent_63
      · have hkl : k < n := ltK (by omega) (by omega) c_2
        refine lv_aload_n hx hb dX0_areConsistent_19 rfl (lv_at hl 0 rfl) ?_
        refine va_get (D := (dC, dI)) (ci := iX0) (v := .ref xf) (C := RX0) (T := TX0) (N := 4) hx hb hts hin_X0 hown hK hR 0 rfl rfl 3 (by decide) hfl_15 (fun _ h9 => h9) rfl dX0_areConsistent_20 ?_
        refine lv_iload_n hx hb dX0_areConsistent_23 rfl (lv_at hl 2 rfl) ?_
        have hPc : va_P (dC, dI) vwCl ([(xf, .inl (cI, 12, .inl (nf)))]) _ := hR.sub [2] rfl
        have hFc := frZ hS hA
        refine va_calli (va_runSN (host := RX5) (As := [.ref xf, .int (nI k)]) (rest := []) ⟨hx, hb, hml, hown, hts⟩ (c_X5_at l dC dI cI cF tr (H).size xf 12 nf (nI k) (by decide)) ⟨va_cnB 2 hts gX0_areConsistent_X5_at_n26 rfl rfl rfl (nwAt hN (RX0, 26, yX5_at) (by decide +kernel)) hw_iniX5 (by decide +kernel) ⟨Nat.le_of_ble_eq_true rfl, Nat.le_of_ble_eq_true rfl⟩, hw_staX5_at, trivial⟩ ⟨cBl, (cPre hPc hK hN)⟩ rfl rfl hl.1 rfl (lv_room (Nat.le_of_ble_eq_true rfl)) dX0_areConsistent_24 ⟨(Nat.le_of_ble_eq_true rfl), (Nat.le_of_ble_eq_true rfl)⟩) hS (fun q _ h => hFc q h) hFc (fun r_3 u t H1 locs ht hvm hw_r_3 hB hz1 hk1 hS => ?_)
        refine W.widen (k := 0) (n := 0) (Nat.le_refl _) (Nat.le_refl _) ?_
        have hP := keepP hP hk1
        have hR := keepP hR hk1
        generalize H1 = H at hP hR hS ⊢
        have hP : va_P (dC, dI) vwCl ([]) H := hP
        try dsimp only at hw_r_3
        subst hw_r_3
        refine lv_iconst (v := 1) hx hb dX0_areConsistent_27 (by decide) ?_
        refine lv_iload_n hx hb dX0_areConsistent_28 rfl (lv_at hl 2 rfl) ?_
        refine lv_ishl hx hb dX0_areConsistent_29 ?_
        refine lv_ior hx hb dX0_areConsistent_30 ?_
        refine lv_aload_n hx hb dX0_areConsistent_31 rfl (lv_at hl 0 rfl) ?_
        refine va_get (D := (dC, dI)) (ci := iX0) (v := .int wd) (C := RX0) (T := TX0) (N := 4) hx hb hts hin_X0 hown hK hR 0 rfl rfl 1 (by decide) hfl_34 (fun _ h9 => h9) rfl dX0_areConsistent_32 ?_
        refine lv_iand hx hb dX0_areConsistent_35 ?_
        refine lv_if_ne (tgt := 43) hx hb dX0_areConsistent_36 (by decide) (fun c_4 => ?_) (fun c_4 => ?_)
        · refine lv_iconst (v := 0) hx hb dX0_areConsistent_43 (by decide) ?_
          refine lv_istore_n (lv' := [(3, .int 0), (0, .ref g), (1, .int (stL nr wd n)), (2, .int (nI k))]) hx hb dX0_areConsistent_44 rfl hl (by decide) rfl (fun ls hl => ?_)
          refine lv_iload_n hx hb dX0_areConsistent_45 rfl (lv_at hl 2 rfl) ?_
          refine lv_iload_n hx hb dX0_areConsistent_46 rfl (lv_at hl 3 rfl) ?_
          have hPc : va_P (dC, dI) vwCl [] H := nilP
          have hFc := frZ hS hA
          refine va_calli (va_runSN (host := RX5) (As := [.int (stL nr wd n), .int (nI k)]) (rest := []) ⟨hx, hb, hml, hown, hts⟩ (c_X5_isIn l dC dI cI cF tr (H).size (stL nr wd n) (nI k)) ⟨va_cnB 2 hts gX0_areConsistent_X5_isIn_n22 rfl rfl rfl (nwAt hN (RX0, 22, yX5_isIn) (by decide +kernel)) hw_iniX5 (by decide +kernel) ⟨Nat.le_of_ble_eq_true rfl, Nat.le_of_ble_eq_true rfl⟩, hw_staX5_isIn, trivial⟩ ⟨cBl, (cPre hPc hK hN)⟩ rfl rfl hl.1 rfl (lv_room (Nat.le_of_ble_eq_true rfl)) dX0_areConsistent_47 ⟨(Nat.le_of_ble_eq_true rfl), (Nat.le_of_ble_eq_true rfl)⟩) hS (fun q _ h => hFc q h) hFc (fun r_5 u t H1 locs ht hvm hw_r_5 hB hz1 hk1 hS => ?_)
          refine W.widen (k := 0) (n := 0) (Nat.le_refl _) (Nat.le_refl _) ?_
          have hP := keepP hP hk1
          have hR := keepP hR hk1
          generalize H1 = H at hP hR hS ⊢
          have hP : va_P (dC, dI) vwCl ([]) H := hP
          try dsimp only at hw_r_5
          subst hw_r_5
          refine lv_iload_n hx hb dX0_areConsistent_50 rfl (lv_at hl 0 rfl) ?_
          refine lv_icmp_eq (tgt := 56) hx hb dX0_areConsistent_51 (by decide) (fun c_6 => ?_) (fun c_6 => ?_)
          · refine lv_iinc (v := nI (k + 1)) (lv' := [(2, .int (nI (k + 1))), (3, .int 0), (0, .ref g), (1, .int (stL nr wd n))]) hx hb dX0_areConsistent_56 hl (k := 3) rfl (nI_1 k) (by decide) rfl (fun ls hl => ?_)
            refine lv_goto (tgt := 11) hx hb dX0_areConsistent_59 (by decide) ?_
            refine W.widen (k := 0) (n := 0) (by omega) (by omega) ?_
            exact ih11 (k + 1) (by omega) hkl (by rw [← hacc, show n - k = (n - (k + 1)) + 1 by omega]; simp [acnL, c_4, c_6]) _ _ ls hP hS (lv_sub hl [2, 3, 0] rfl)
          · refine lv_iconst (v := 0) hx hb dX0_areConsistent_54 (by decide) ?_
            refine W.widen (k := 0) (n := 0) (by omega) (by omega) ?_
            exact W.zret (v := 0) hx hb hr (by first | rfl | simp [narrow] | assumption) (fun t ht hW => ⟨⟨0, (), rfl, (by rw [← hacc, show n - k = (n - (k + 1)) + 1 by omega]; simp [acnL, c_4, c_6]), trivial⟩, hS.F ht⟩) hS.2.2 dX0_areConsistent_55
        · refine lv_iconst (v := 1) hx hb dX0_areConsistent_39 (by decide) ?_
          refine lv_goto (tgt := 44) hx hb dX0_areConsistent_40 (by decide) ?_
          refine lv_istore_n (lv' := [(3, .int 1), (0, .ref g), (1, .int (stL nr wd n)), (2, .int (nI k))]) hx hb dX0_areConsistent_44 rfl hl (by decide) rfl (fun ls hl => ?_)
          refine lv_iload_n hx hb dX0_areConsistent_45 rfl (lv_at hl 2 rfl) ?_
          refine lv_iload_n hx hb dX0_areConsistent_46 rfl (lv_at hl 3 rfl) ?_
          have hPc : va_P (dC, dI) vwCl [] H := nilP
          have hFc := frZ hS hA
          refine va_calli (va_runSN (host := RX5) (As := [.int (stL nr wd n), .int (nI k)]) (rest := []) ⟨hx, hb, hml, hown, hts⟩ (c_X5_isIn l dC dI cI cF tr (H).size (stL nr wd n) (nI k)) ⟨va_cnB 2 hts gX0_areConsistent_X5_isIn_n22 rfl rfl rfl (nwAt hN (RX0, 22, yX5_isIn) (by decide +kernel)) hw_iniX5 (by decide +kernel) ⟨Nat.le_of_ble_eq_true rfl, Nat.le_of_ble_eq_true rfl⟩, hw_staX5_isIn, trivial⟩ ⟨cBl, (cPre hPc hK hN)⟩ rfl rfl hl.1 rfl (lv_room (Nat.le_of_ble_eq_true rfl)) dX0_areConsistent_47 ⟨(Nat.le_of_ble_eq_true rfl), (Nat.le_of_ble_eq_true rfl)⟩) hS (fun q _ h => hFc q h) hFc (fun r_7 u t H1 locs ht hvm hw_r_7 hB hz1 hk1 hS => ?_)
          refine W.widen (k := 0) (n := 0) (Nat.le_refl _) (Nat.le_refl _) ?_
          have hP := keepP hP hk1
          have hR := keepP hR hk1
          generalize H1 = H at hP hR hS ⊢
          have hP : va_P (dC, dI) vwCl ([]) H := hP
          try dsimp only at hw_r_7
          subst hw_r_7
          refine lv_iload_n hx hb dX0_areConsistent_50 rfl (lv_at hl 0 rfl) ?_
          refine lv_icmp_eq (tgt := 56) hx hb dX0_areConsistent_51 (by decide) (fun c_8 => ?_) (fun c_8 => ?_)
          · refine lv_iinc (v := nI (k + 1)) (lv' := [(2, .int (nI (k + 1))), (3, .int 1), (0, .ref g), (1, .int (stL nr wd n))]) hx hb dX0_areConsistent_56 hl (k := 3) rfl (nI_1 k) (by decide) rfl (fun ls hl => ?_)
            refine lv_goto (tgt := 11) hx hb dX0_areConsistent_59 (by decide) ?_
            refine W.widen (k := 0) (n := 0) (by omega) (by omega) ?_
            exact ih11 (k + 1) (by omega) hkl (by rw [← hacc, show n - k = (n - (k + 1)) + 1 by omega]; simp [acnL, c_4, c_8]) _ _ ls hP hS (lv_sub hl [2, 3, 0] rfl)
          · refine lv_iconst (v := 0) hx hb dX0_areConsistent_54 (by decide) ?_
            refine W.widen (k := 0) (n := 0) (by omega) (by omega) ?_
            exact W.zret (v := 0) hx hb hr (by first | rfl | simp [narrow] | assumption) (fun t ht hW => ⟨⟨0, (), rfl, (by rw [← hacc, show n - k = (n - (k + 1)) + 1 by omega]; simp [acnL, c_4, c_8]), trivial⟩, hS.F ht⟩) hS.2.2 dX0_areConsistent_55
  refine W.widen (k := 0) (n := 0) (by omega) (by omega) ?_
  exact K11 (n - 0 + 1) 0 (by omega) (Nat.zero_le _) rfl _ _ ls hP hS (lv_sub hl [2, 1, 0] rfl)
