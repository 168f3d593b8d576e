/-! fractions -/
def frU (u l : Int64) : Int64 := if cdF u l ≤ 1 then u else u / cdF u l
def frL (u l : Int64) : Int64 := if cdF u l ≤ 1 then l else l / cdF u l
def fmF (x y : Int64) : Int64 := if 0 ≤ x ^^^ y then x - x / y * y else if x - x / y * y = 0 then x - x / y * y else x - x / y * y + y
def wwU (u l : Int64) : Int64 := if l ≤ 0 then u else frU (fmF u l) l
def wwL (u l : Int64) : Int64 := if l ≤ 0 then l else frL (fmF u l) l
def ceF (u l : Int64) (k : Int32) : Int32 := if l ≤ 0 then 0 else (u * k.toInt64 / l).toInt32
def bcS (x : Int32) (k : Int32) : Int32 := (x.toUInt32 >>> (k.toUInt32 &&& Int32.toUInt32 31)).toInt32
def bc1 (x : Int32) : Int32 := x - (bcS x 1 &&& 1431655765)
def bc2 (x : Int32) : Int32 := (x &&& 858993459) + (bcS x 2 &&& 858993459)
def bc3 (x : Int32) : Int32 := (x + bcS x 4) &&& 252645135
def bc4 (x : Int32) : Int32 := x + bcS x 8
def bc5 (x : Int32) : Int32 := x + bcS x 16
def bcF (x : Int32) : Int32 := bc5 (bc4 (bc3 (bc2 (bc1 x)))) &&& 63
theorem neOfLe {x : Int64} (h : ¬ x ≤ 1) : ¬ x = 0 := fun z => h (by rw [z]; decide)
theorem neOfLe0 {x : Int64} (h : ¬ x ≤ 0) : ¬ x = 0 := fun z => h (by rw [z]; decide)

set_option maxHeartbeats 4000000 in
set_option maxRecDepth 100000 in
theorem c_J9_floorMod_f86c9 (l : Launch) (dC : Nat → ClassId) (dI : Nat → Nat → Nat) (cI cF : ClassId) (tr : List (ClassId × FieldType)) (sz : Nat) (x : Int64) (y : Int64) (hy : ¬ y = 0) : Met l yJ9_floorMod_f86c9 wsJ9_floorMod_f86c9 ({ frames := 0, cells := 0, slots := 0, locals := 0 } : Room) (cPc dC dI ((cI, .int) :: (cF, .object RX1) :: tr) sz ([]) [.long x, .long y]) (va_Ql (fun (r : Int64) (_ : Unit) => r = fmF x y) (fun _ _ => True) (va_A ([]) sz)) 0 0 (va_A ([]) sz) := by
  refine ofWF (cc := cJ9_floorMod_f86c9) (maxL := 6) (ret := (some .long)) (by decide +kernel) rfl ?_
  intro p e s m args below meth c s₁ B hml hv
  obtain ⟨rfl, hsz, hP, hK, hN⟩ := hv
  have hx := B.exec
  have hb := B.bytes
  have hr := B.returns
  have hts := atoms_spec (ws := wsJ9_floorMod_f86c9) B.pre
  have hown : s.vm.findClass RJ9 = some m.cls := findClass_of_methodNamed B.named
  have hlocks := B.notSynchronized
  subst hsz
  generalize hAe : va_A [] s.heap.size = A
  have hA : ∀ q : Nat, s.heap.size ≤ q → A q := fun q h => by rw [← hAe]; exact Or.inr h
  have hS : va_S A s.heap s.heap [] := va_S.rf
  have hAn : ∀ q : Nat, q < s.heap.size → ¬ A q := fun q h => by rw [← hAe]; exact notZ h
  have hAg : ∀ q : Nat, A q → s.heap.size ≤ q := fun q h => geZ (hAe ▸ h)
  have hR0 : va_P (dC, dI) vwCl ([]) s.heap := hP
  have hR : va_P (dC, dI) vwCl ([]) s.heap := hP
  have hP : va_P (dC, dI) vwCl [] s.heap := fun k q h => by simp at h
  have hD : va_D A [] := ⟨fun i j p q h => by simp at h, fun k q h => by simp at h⟩
  have hl := lv_entry ([.long x, .long y]) (n := 6) (Nat.le_of_ble_eq_true rfl)
  rw [lg_entry_eq]
  generalize (lg_sl ([.long x, .long y]) ++ List.replicate (6 - (lg_sl ([.long x, .long y])).length) Slot.unset).toArray = ls at hl ⊢
  have hl : lv_has ls 6 [(0, .long x), (2, .long y)] := hl
  refine lv_lload_n hx hb dJ9_floorMod_f86c9_0 rfl (lv_at hl 0 rfl) ?_
  refine lv_lload_n hx hb dJ9_floorMod_f86c9_1 rfl (lv_at hl 1 rfl) ?_
  refine lv_lrem hx hb dJ9_floorMod_f86c9_2 (by assumption) ?_
  refine lv_lstore (lv' := [(4, .long (x - x / y * y)), (0, .long x), (2, .long y)]) hx hb dJ9_floorMod_f86c9_3 hl (by decide) rfl (fun ls hl => ?_)
  refine lv_lload_n hx hb dJ9_floorMod_f86c9_5 rfl (lv_at hl 1 rfl) ?_
  refine lv_lload_n hx hb dJ9_floorMod_f86c9_6 rfl (lv_at hl 2 rfl) ?_
  refine lv_lxor hx hb dJ9_floorMod_f86c9_7 ?_
  refine lv_lconst (v := 0) hx hb dJ9_floorMod_f86c9_8 (by decide) ?_
  refine W.lcmp hx hb dJ9_floorMod_f86c9_9 ?_
  refine lv_if_ge (tgt := 25) hx hb dJ9_floorMod_f86c9_10 (by decide) (fun c_1 => ?_) (fun c_1 => ?_)
  · rw [lg_cmp_ge] at c_1
    refine lv_lload hx hb dJ9_floorMod_f86c9_25 (lv_at hl 0 rfl) ?_
    refine W.widen (k := 0) (n := 0) (by omega) (by omega) ?_
    exact W.lret (v := x - x / y * y) hx hb hr (fun t ht hW => ⟨⟨x - x / y * y, (), rfl, (by first | (simp [fmF, c_1]; done) | contradiction), trivial⟩, hS.F ht⟩) hS.2.2 dJ9_floorMod_f86c9_27
  · rw [lg_cmp_ge] at c_1
    refine lv_lload hx hb dJ9_floorMod_f86c9_13 (lv_at hl 0 rfl) ?_
    refine lv_lconst (v := 0) hx hb dJ9_floorMod_f86c9_15 (by decide) ?_
    refine W.lcmp hx hb dJ9_floorMod_f86c9_16 ?_
    refine lv_if_eq (tgt := 25) hx hb dJ9_floorMod_f86c9_17 (by decide) (fun c_2 => ?_) (fun c_2 => ?_)
    · rw [lg_cmp_eq] at c_2
      refine lv_lload hx hb dJ9_floorMod_f86c9_25 (lv_at hl 0 rfl) ?_
      refine W.widen (k := 0) (n := 0) (by omega) (by omega) ?_
      exact W.lret (v := x - x / y * y) hx hb hr (fun t ht hW => ⟨⟨x - x / y * y, (), rfl, (by first | (simp [fmF, c_1, c_2]; done) | contradiction), trivial⟩, hS.F ht⟩) hS.2.2 dJ9_floorMod_f86c9_27
    · rw [lg_cmp_eq] at c_2
      refine lv_lload hx hb dJ9_floorMod_f86c9_20 (lv_at hl 0 rfl) ?_
      refine lv_lload_n hx hb dJ9_floorMod_f86c9_22 rfl (lv_at hl 2 rfl) ?_
      refine lv_ladd hx hb dJ9_floorMod_f86c9_23 ?_
      refine W.widen (k := 0) (n := 0) (by omega) (by omega) ?_
      exact W.lret (v := (x - x / y * y) + y) hx hb hr (fun t ht hW => ⟨⟨(x - x / y * y) + y, (), rfl, (by first | (simp [fmF, c_1, c_2]; done) | contradiction), trivial⟩, hS.F ht⟩) hS.2.2 dJ9_floorMod_f86c9_24

set_option maxHeartbeats 4000000 in
set_option maxRecDepth 100000 in
theorem c_J6_bitCount_0f7a4 (l : Launch) (dC : Nat → ClassId) (dI : Nat → Nat → Nat) (cI cF : ClassId) (tr : List (ClassId × FieldType)) (sz : Nat) (x : Int32) : Met l yJ6_bitCount_0f7a4 wsJ6_bitCount_0f7a4 ({ frames := 0, cells := 0, slots := 0, locals := 0 } : Room) (cPc dC dI ((cI, .int) :: (cF, .object RX1) :: tr) sz ([]) [.int x]) (va_Qi (fun (r : Int32) (_ : Unit) => r = bcF x) (fun _ _ => True) (va_A ([]) sz)) 0 0 (va_A ([]) sz) := by
  refine ofWF (cc := cJ6_bitCount_0f7a4) (maxL := 1) (ret := (some .int)) (by decide +kernel) rfl ?_
  intro p e s m args below meth c s₁ B hml hv
  obtain ⟨rfl, hsz, hP, hK, hN⟩ := hv
  have hx := B.exec
  have hb := B.bytes
  have hr := B.returns
  have hts := atoms_spec (ws := wsJ6_bitCount_0f7a4) B.pre
  have hown : s.vm.findClass RJ6 = some m.cls := findClass_of_methodNamed B.named
  have hlocks := B.notSynchronized
  subst hsz
  generalize hAe : va_A [] s.heap.size = A
  have hA : ∀ q : Nat, s.heap.size ≤ q → A q := fun q h => by rw [← hAe]; exact Or.inr h
  have hS : va_S A s.heap s.heap [] := va_S.rf
  have hAn : ∀ q : Nat, q < s.heap.size → ¬ A q := fun q h => by rw [← hAe]; exact notZ h
  have hAg : ∀ q : Nat, A q → s.heap.size ≤ q := fun q h => geZ (hAe ▸ h)
  have hR0 : va_P (dC, dI) vwCl ([]) s.heap := hP
  have hR : va_P (dC, dI) vwCl ([]) s.heap := hP
  have hP : va_P (dC, dI) vwCl [] s.heap := fun k q h => by simp at h
  have hD : va_D A [] := ⟨fun i j p q h => by simp at h, fun k q h => by simp at h⟩
  have hl := lv_entry ([.int x]) (n := 1) (Nat.le_of_ble_eq_true rfl)
  rw [lg_entry_eq]
  generalize (lg_sl ([.int x]) ++ List.replicate (1 - (lg_sl ([.int x])).length) Slot.unset).toArray = ls at hl ⊢
  have hl : lv_has ls 1 [(0, .int x)] := hl
  have hw_k265 := hts (.constant RJ6 265 (1431655765)) (by decide +kernel)
  have hw_k266 := hts (.constant RJ6 266 (858993459)) (by decide +kernel)
  have hw_k267 := hts (.constant RJ6 267 (252645135)) (by decide +kernel)
  refine lv_iload_n hx hb dJ6_bitCount_0f7a4_0 rfl (lv_at hl 0 rfl) ?_
  refine lv_iload_n hx hb dJ6_bitCount_0f7a4_1 rfl (lv_at hl 0 rfl) ?_
  refine lv_iconst (v := 1) hx hb dJ6_bitCount_0f7a4_2 (by decide) ?_
  refine lv_iushr hx hb dJ6_bitCount_0f7a4_3 rfl ?_
  refine lv_ldcw hx hb hown hw_k265 dJ6_bitCount_0f7a4_4 ?_
  refine lv_iand hx hb dJ6_bitCount_0f7a4_7 ?_
  refine lv_isub hx hb dJ6_bitCount_0f7a4_8 ?_
  refine lv_topi (fun x1 ex1 => ?_)
  refine lv_istore_n (lv' := [(0, .int x1)]) hx hb dJ6_bitCount_0f7a4_9 rfl hl (by decide) rfl (fun ls hl => ?_)
  refine lv_iload_n hx hb dJ6_bitCount_0f7a4_10 rfl (lv_at hl 0 rfl) ?_
  refine lv_ldcw hx hb hown hw_k266 dJ6_bitCount_0f7a4_11 ?_
  refine lv_iand hx hb dJ6_bitCount_0f7a4_14 ?_
  refine lv_iload_n hx hb dJ6_bitCount_0f7a4_15 rfl (lv_at hl 0 rfl) ?_
  refine lv_iconst (v := 2) hx hb dJ6_bitCount_0f7a4_16 (by decide) ?_
  refine lv_iushr hx hb dJ6_bitCount_0f7a4_17 rfl ?_
  refine lv_ldcw hx hb hown hw_k266 dJ6_bitCount_0f7a4_18 ?_
  refine lv_iand hx hb dJ6_bitCount_0f7a4_21 ?_
  refine lv_iadd hx hb dJ6_bitCount_0f7a4_22 ?_
  refine lv_topi (fun x2 ex2 => ?_)
  refine lv_istore_n (lv' := [(0, .int x2)]) hx hb dJ6_bitCount_0f7a4_23 rfl hl (by decide) rfl (fun ls hl => ?_)
  refine lv_iload_n hx hb dJ6_bitCount_0f7a4_24 rfl (lv_at hl 0 rfl) ?_
  refine lv_iload_n hx hb dJ6_bitCount_0f7a4_25 rfl (lv_at hl 0 rfl) ?_
  refine lv_iconst (v := 4) hx hb dJ6_bitCount_0f7a4_26 (by decide) ?_
  refine lv_iushr hx hb dJ6_bitCount_0f7a4_27 rfl ?_
  refine lv_iadd hx hb dJ6_bitCount_0f7a4_28 ?_
  refine lv_ldcw hx hb hown hw_k267 dJ6_bitCount_0f7a4_29 ?_
  refine lv_iand hx hb dJ6_bitCount_0f7a4_32 ?_
  refine lv_topi (fun x3 ex3 => ?_)
  refine lv_istore_n (lv' := [(0, .int x3)]) hx hb dJ6_bitCount_0f7a4_33 rfl hl (by decide) rfl (fun ls hl => ?_)
  refine lv_iload_n hx hb dJ6_bitCount_0f7a4_34 rfl (lv_at hl 0 rfl) ?_
  refine lv_iload_n hx hb dJ6_bitCount_0f7a4_35 rfl (lv_at hl 0 rfl) ?_
  refine lv_bipush (v := 8) hx hb dJ6_bitCount_0f7a4_36 (by decide) ?_
  refine lv_iushr hx hb dJ6_bitCount_0f7a4_38 rfl ?_
  refine lv_iadd hx hb dJ6_bitCount_0f7a4_39 ?_
  refine lv_topi (fun x4 ex4 => ?_)
  refine lv_istore_n (lv' := [(0, .int x4)]) hx hb dJ6_bitCount_0f7a4_40 rfl hl (by decide) rfl (fun ls hl => ?_)
  refine lv_iload_n hx hb dJ6_bitCount_0f7a4_41 rfl (lv_at hl 0 rfl) ?_
  refine lv_iload_n hx hb dJ6_bitCount_0f7a4_42 rfl (lv_at hl 0 rfl) ?_
  refine lv_bipush (v := 16) hx hb dJ6_bitCount_0f7a4_43 (by decide) ?_
  refine lv_iushr hx hb dJ6_bitCount_0f7a4_45 rfl ?_
  refine lv_iadd hx hb dJ6_bitCount_0f7a4_46 ?_
  refine lv_topi (fun x5 ex5 => ?_)
  refine lv_istore_n (lv' := [(0, .int x5)]) hx hb dJ6_bitCount_0f7a4_47 rfl hl (by decide) rfl (fun ls hl => ?_)
  refine lv_iload_n hx hb dJ6_bitCount_0f7a4_48 rfl (lv_at hl 0 rfl) ?_
  refine lv_bipush (v := 63) hx hb dJ6_bitCount_0f7a4_49 (by decide) ?_
  refine lv_iand hx hb dJ6_bitCount_0f7a4_51 ?_
  refine W.widen (k := 0) (n := 0) (by omega) (by omega) ?_
  exact W.iret (v := x5 &&& 63) hx hb hr (fun t ht hW => ⟨⟨x5 &&& 63, (), rfl, (by rw [ex5, ex4, ex3, ex2, ex1]; rfl), trivial⟩, hS.F ht⟩) hS.2.2 dJ6_bitCount_0f7a4_52

set_option maxHeartbeats 4000000 in
set_option maxRecDepth 100000 in
theorem c_X1_init (l : Launch) (dC : Nat → ClassId) (dI : Nat → Nat → Nat) (cI cF : ClassId) (tr : List (ClassId × FieldType)) (sz : Nat) (h : Nat) (x0 : Int64) (y0 : Int64) (x : Int64) (y : Int64) : Met l yX1_init wsX1_init ({ frames := 1, cells := 0, slots := 0, locals := 30 } : Room) (cPd dC dI ((cI, .int) :: (cF, .object RX1) :: tr) sz ([(h, .inr (iX1, [.long x0, .long y0]))]) [.ref h, .long x, .long y]) (va_Qv (fun _ : Unit => True) (fun _ t => va_P (dC, dI) vwCl ([(h, .inr (iX1, [.long (frU x y), .long (frL x y)]))]) t.heap ∧ va_D (va_A ([(h, .inr (iX1, [.long x0, .long y0]))]) sz) ([(h, .inr (iX1, [.long (frU x y), .long (frL x y)]))])) (va_A ([(h, .inr (iX1, [.long x0, .long y0]))]) sz)) 0 0 (va_A ([(h, .inr (iX1, [.long x0, .long y0]))]) sz) := by
  refine Met.ofW (cc := cX1_init) (maxL := 7) (ret := none) (by decide) rfl ?_
  intro p e s m args below meth c s₁ B hml hv
  obtain ⟨rfl, hsz, hP, hK, hN, hD0⟩ := hv
  have hx := B.exec
  have hb := B.bytes
  have hr := B.returns
  have hts := atoms_spec (ws := wsX1_init) B.pre
  have hown : s.vm.findClass RX1 = some m.cls := findClass_of_methodNamed B.named
  have hlocks := B.notSynchronized
  have hin : meth.name = "<init>" := (name_of_methodNamed B.named B.method).1
  subst hsz
  have hD := hD0.self (sz := s.heap.size)
  generalize hAe : va_A ([(h, .inr (iX1, [.long x0, .long y0]))]) s.heap.size = A at hD ⊢
  have hA : ∀ q : Nat, s.heap.size ≤ q → A q := fun q h => by rw [← hAe]; exact Or.inr h
  have hS : va_S A s.heap s.heap [] := va_S.rf
  have hP : va_P (dC, dI) vwCl ([(h, .inr (iX1, [.long x0, .long y0]))]) s.heap := hP
  have hl := lv_entry ([.ref h, .long x, .long y]) (n := 7) (Nat.le_of_ble_eq_true rfl)
  rw [lg_entry_eq]
  generalize (lg_sl ([.ref h, .long x, .long y]) ++ List.replicate (7 - (lg_sl ([.ref h, .long x, .long y])).length) Slot.unset).toArray = ls at hl ⊢
  have hl : lv_has ls 7 [(0, .ref h), (1, .long x), (3, .long y)] := hl
  have hw_oi_l := hts (.methodLink RX1 1 objectInit) (by decide +kernel)
  have hw_oi_i := hts (.instanceMethod objectInit) (by decide +kernel)
  have hw_oi_c := hts (.code objectInit ⟨#[0xb1]⟩ 1 none) (by decide +kernel)
  have hw_iniX5 := hts (.initialized RX5) (by decide +kernel)
  have hw_staX5_commonDivisor := hts (.static yX5_commonDivisor) (by decide +kernel)
  have hfl_13 := hts (.fieldLink RX1 13 "Greenwheels$Fraction" "upper" "J") (by decide +kernel)
  have hin_X1 : ∀ w ∈ u_ws RX1 TX1 2, w ∈ wsX1_init := by decide +kernel
  have hfl_19 := hts (.fieldLink RX1 19 "Greenwheels$Fraction" "lower" "J") (by decide +kernel)
  refine lv_aload_n hx hb dX1_init_0 rfl (lv_at hl 0 rfl) ?_
  refine W.objInit hx hb hown hw_oi_l hw_oi_i hw_oi_c rfl (by rw [hml]; exact hl.1) rfl dX1_init_1 (Nat.le_of_ble_eq_true rfl) (Nat.le_of_ble_eq_true rfl) ?_
  refine W.eq (g2 := F0 m 4 ls []) rfl ?_
  refine lv_lload_n hx hb dX1_init_4 rfl (lv_at hl 1 rfl) ?_
  refine lv_lload_n hx hb dX1_init_5 rfl (lv_at hl 2 rfl) ?_
  have hPc : va_P (dC, dI) vwCl [] s.heap := nilP
  have hFc := frZ hS hA
  refine va_calll (va_runSN (host := RX5) (As := [.long x, .long y]) (rest := []) ⟨hx, hb, hml, hown, hts⟩ (c_X5_commonDivisor l dC dI cI cF tr (s.heap).size x y) ⟨va_cnB 2 hts gX1_init_X5_commonDivisor_n7 rfl rfl rfl (nwAt hN (RX1, 7, yX5_commonDivisor) (by decide +kernel)) hw_iniX5 (by decide +kernel) ⟨Nat.le_of_ble_eq_true rfl, Nat.le_of_ble_eq_true rfl⟩, hw_staX5_commonDivisor, trivial⟩ ⟨cBl, (cPre hPc hK hN)⟩ rfl rfl hl.1 rfl (lv_room (Nat.le_of_ble_eq_true rfl)) dX1_init_6 ⟨(Nat.le_of_ble_eq_true rfl), (Nat.le_of_ble_eq_true rfl)⟩) hS (fun q _ h => hFc q h) hFc (fun r_1 u t H1 locs ht hvm hw_r_1 hB hz1 hk1 hS => ?_)
  refine W.widen (k := 0) (n := 0) (Nat.le_refl _) (Nat.le_refl _) ?_
  have hP := keepP hP hk1
  generalize H1 = H at hP hS ⊢
  have hP : va_P (dC, dI) vwCl ([(h, .inr (iX1, [.long x0, .long y0]))]) H := hP
  try dsimp only at hw_r_1
  subst hw_r_1
  refine lv_lstore (lv' := [(5, .long (cdF x y)), (0, .ref h), (1, .long x), (3, .long y)]) hx hb dX1_init_9 hl (by decide) rfl (fun ls hl => ?_)
  refine lv_aload_n hx hb dX1_init_11 rfl (lv_at hl 1 rfl) ?_
  refine lv_lload hx hb dX1_init_12 (lv_at hl 0 rfl) ?_
  refine lv_lconst (v := 1) hx hb dX1_init_14 (by decide) ?_
  refine W.lcmp hx hb dX1_init_15 ?_
  refine lv_if_le (tgt := 26) hx hb dX1_init_16 (by decide) (fun c_2 => ?_) (fun c_2 => ?_)
  · rw [lg_cmp_le] at c_2
    refine lv_lload_n hx hb dX1_init_26 rfl (lv_at hl 2 rfl) ?_
    refine va_putF (D := (dC, dI)) (ci := iX1) (v := .long x) (ty := .long) (C := RX1) (T := TX1) (N := 2) hx hb hts hin_X1 tyX1 tyX1_ok nmX1 hown hK hP hD hS 0 rfl rfl 0 (by decide) hfl_13 (fun _ h9 => h9) rfl hin rfl (by decide +kernel) rfl rfl (Nat.le_of_ble_eq_true rfl) dX1_init_27 (fun H locs hP hD hS => ?_)
    have hP : va_P (dC, dI) vwCl ([(h, .inr (iX1, [.long x, .long y0]))]) H := hP
    have hD : va_D A ([(h, .inr (iX1, [.long x, .long y0]))]) := hD
    refine lv_aload_n hx hb dX1_init_30 rfl (lv_at hl 1 rfl) ?_
    refine lv_lload hx hb dX1_init_31 (lv_at hl 0 rfl) ?_
    refine lv_lconst (v := 1) hx hb dX1_init_33 (by decide) ?_
    refine W.lcmp hx hb dX1_init_34 ?_
    refine lv_if_le (tgt := 45) hx hb dX1_init_35 (by decide) (fun c_3 => ?_) (fun c_3 => ?_)
    · rw [lg_cmp_le] at c_3
      refine lv_lload_n hx hb dX1_init_45 rfl (lv_at hl 3 rfl) ?_
      refine va_putF (D := (dC, dI)) (ci := iX1) (v := .long y) (ty := .long) (C := RX1) (T := TX1) (N := 2) hx hb hts hin_X1 tyX1 tyX1_ok nmX1 hown hK hP hD hS 0 rfl rfl 1 (by decide) hfl_19 (fun _ h9 => h9) rfl hin rfl (by decide +kernel) rfl rfl (Nat.le_of_ble_eq_true rfl) dX1_init_46 (fun H locs hP hD hS => ?_)
      have hP : va_P (dC, dI) vwCl ([(h, .inr (iX1, [.long x, .long y]))]) H := hP
      have hD : va_D A ([(h, .inr (iX1, [.long x, .long y]))]) := hD
      refine W.widen (k := 0) (n := 0) (by omega) (by omega) ?_
      have eq_4 : ([(h, .inr (iX1, [.long x, .long y]))] : va_W) = [(h, .inr (iX1, [.long (frU x y), .long (frL x y)]))] := (by first | rfl | (simp [frU, frL, c_2, c_3]; done) | contradiction)
      rw [eq_4] at hP hD
      exact W.vret hx hb hr (fun t ht hW => ⟨⟨(), rfl, trivial, ⟨by rw [ht]; exact hP, hAe ▸ hD⟩⟩, hS.F ht⟩) hS.2.2 dX1_init_49
    · rw [lg_cmp_le] at c_3
      refine lv_lload_n hx hb dX1_init_38 rfl (lv_at hl 3 rfl) ?_
      refine lv_lload hx hb dX1_init_39 (lv_at hl 0 rfl) ?_
      refine lv_ldiv hx hb dX1_init_41 (neOfLe c_3) ?_
      refine lv_goto (tgt := 46) hx hb dX1_init_42 (by decide) ?_
      refine va_putF (D := (dC, dI)) (ci := iX1) (v := .long (y / (cdF x y))) (ty := .long) (C := RX1) (T := TX1) (N := 2) hx hb hts hin_X1 tyX1 tyX1_ok nmX1 hown hK hP hD hS 0 rfl rfl 1 (by decide) hfl_19 (fun _ h9 => h9) rfl hin rfl (by decide +kernel) rfl rfl (Nat.le_of_ble_eq_true rfl) dX1_init_46 (fun H locs hP hD hS => ?_)
      have hP : va_P (dC, dI) vwCl ([(h, .inr (iX1, [.long x, .long (y / (cdF x y))]))]) H := hP
      have hD : va_D A ([(h, .inr (iX1, [.long x, .long (y / (cdF x y))]))]) := hD
      refine W.widen (k := 0) (n := 0) (by omega) (by omega) ?_
      have eq_5 : ([(h, .inr (iX1, [.long x, .long (y / (cdF x y))]))] : va_W) = [(h, .inr (iX1, [.long (frU x y), .long (frL x y)]))] := (by first | rfl | (simp [frU, frL, c_2, c_3]; done) | contradiction)
      rw [eq_5] at hP hD
      exact W.vret hx hb hr (fun t ht hW => ⟨⟨(), rfl, trivial, ⟨by rw [ht]; exact hP, hAe ▸ hD⟩⟩, hS.F ht⟩) hS.2.2 dX1_init_49
  · rw [lg_cmp_le] at c_2
    refine lv_lload_n hx hb dX1_init_19 rfl (lv_at hl 2 rfl) ?_
    refine lv_lload hx hb dX1_init_20 (lv_at hl 0 rfl) ?_
    refine lv_ldiv hx hb dX1_init_22 (neOfLe c_2) ?_
    refine lv_goto (tgt := 27) hx hb dX1_init_23 (by decide) ?_
    refine va_putF (D := (dC, dI)) (ci := iX1) (v := .long (x / (cdF x y))) (ty := .long) (C := RX1) (T := TX1) (N := 2) hx hb hts hin_X1 tyX1 tyX1_ok nmX1 hown hK hP hD hS 0 rfl rfl 0 (by decide) hfl_13 (fun _ h9 => h9) rfl hin rfl (by decide +kernel) rfl rfl (Nat.le_of_ble_eq_true rfl) dX1_init_27 (fun H locs hP hD hS => ?_)
    have hP : va_P (dC, dI) vwCl ([(h, .inr (iX1, [.long (x / (cdF x y)), .long y0]))]) H := hP
    have hD : va_D A ([(h, .inr (iX1, [.long (x / (cdF x y)), .long y0]))]) := hD
    refine lv_aload_n hx hb dX1_init_30 rfl (lv_at hl 1 rfl) ?_
    refine lv_lload hx hb dX1_init_31 (lv_at hl 0 rfl) ?_
    refine lv_lconst (v := 1) hx hb dX1_init_33 (by decide) ?_
    refine W.lcmp hx hb dX1_init_34 ?_
    refine lv_if_le (tgt := 45) hx hb dX1_init_35 (by decide) (fun c_6 => ?_) (fun c_6 => ?_)
    · rw [lg_cmp_le] at c_6
      refine lv_lload_n hx hb dX1_init_45 rfl (lv_at hl 3 rfl) ?_
      refine va_putF (D := (dC, dI)) (ci := iX1) (v := .long y) (ty := .long) (C := RX1) (T := TX1) (N := 2) hx hb hts hin_X1 tyX1 tyX1_ok nmX1 hown hK hP hD hS 0 rfl rfl 1 (by decide) hfl_19 (fun _ h9 => h9) rfl hin rfl (by decide +kernel) rfl rfl (Nat.le_of_ble_eq_true rfl) dX1_init_46 (fun H locs hP hD hS => ?_)
      have hP : va_P (dC, dI) vwCl ([(h, .inr (iX1, [.long (x / (cdF x y)), .long y]))]) H := hP
      have hD : va_D A ([(h, .inr (iX1, [.long (x / (cdF x y)), .long y]))]) := hD
      refine W.widen (k := 0) (n := 0) (by omega) (by omega) ?_
      have eq_7 : ([(h, .inr (iX1, [.long (x / (cdF x y)), .long y]))] : va_W) = [(h, .inr (iX1, [.long (frU x y), .long (frL x y)]))] := (by first | rfl | (simp [frU, frL, c_2, c_6]; done) | contradiction)
      rw [eq_7] at hP hD
      exact W.vret hx hb hr (fun t ht hW => ⟨⟨(), rfl, trivial, ⟨by rw [ht]; exact hP, hAe ▸ hD⟩⟩, hS.F ht⟩) hS.2.2 dX1_init_49
    · rw [lg_cmp_le] at c_6
      refine lv_lload_n hx hb dX1_init_38 rfl (lv_at hl 3 rfl) ?_
      refine lv_lload hx hb dX1_init_39 (lv_at hl 0 rfl) ?_
      refine lv_ldiv hx hb dX1_init_41 (neOfLe c_6) ?_
      refine lv_goto (tgt := 46) hx hb dX1_init_42 (by decide) ?_
      refine va_putF (D := (dC, dI)) (ci := iX1) (v := .long (y / (cdF x y))) (ty := .long) (C := RX1) (T := TX1) (N := 2) hx hb hts hin_X1 tyX1 tyX1_ok nmX1 hown hK hP hD hS 0 rfl rfl 1 (by decide) hfl_19 (fun _ h9 => h9) rfl hin rfl (by decide +kernel) rfl rfl (Nat.le_of_ble_eq_true rfl) dX1_init_46 (fun H locs hP hD hS => ?_)
      have hP : va_P (dC, dI) vwCl ([(h, .inr (iX1, [.long (x / (cdF x y)), .long (y / (cdF x y))]))]) H := hP
      have hD : va_D A ([(h, .inr (iX1, [.long (x / (cdF x y)), .long (y / (cdF x y))]))]) := hD
      refine W.widen (k := 0) (n := 0) (by omega) (by omega) ?_
      have eq_8 : ([(h, .inr (iX1, [.long (x / (cdF x y)), .long (y / (cdF x y))]))] : va_W) = [(h, .inr (iX1, [.long (frU x y), .long (frL x y)]))] := (by first | rfl | (simp [frU, frL, c_2, c_6]; done) | contradiction)
      rw [eq_8] at hP hD
      exact W.vret hx hb hr (fun t ht hW => ⟨⟨(), rfl, trivial, ⟨by rw [ht]; exact hP, hAe ▸ hD⟩⟩, hS.F ht⟩) hS.2.2 dX1_init_49

set_option maxHeartbeats 4000000 in
set_option maxRecDepth 100000 in
theorem c_X1_times (l : Launch) (dC : Nat → ClassId) (dI : Nat → Nat → Nat) (cI cF : ClassId) (tr : List (ClassId × FieldType)) (sz : Nat) (h : Nat) (x : Int64) (y : Int64) (z : Int64) (w : Int64) : Met l yX1_times wsX1_times ({ frames := 2, cells := 1, slots := 2, locals := 56 } : Room) (cPc dC dI ((cI, .int) :: (cF, .object RX1) :: tr) sz ([(h, .inr (iX1, [.long x, .long y]))]) [.ref h, .long z, .long w]) (va_Qr (fun _ : Unit => True) (fun _ a t => va_P (dC, dI) vwCl [(a, .inr (iX1, [.long (frU (x * z) (y * w)), .long (frL (x * z) (y * w))]))] t.heap ∧ sz ≤ a) (va_A ([]) sz)) 1 2 (va_A ([]) sz) := by
  refine Met.ofW (cc := cX1_times) (maxL := 5) (ret := (some (.object "Greenwheels$Fraction"))) (by decide) rfl ?_
  intro p e s m args below meth c s₁ B hml hv
  obtain ⟨rfl, hsz, hP, hK, hN⟩ := hv
  have hx := B.exec
  have hb := B.bytes
  have hr := B.returns
  have hts := atoms_spec (ws := wsX1_times) B.pre
  have hown : s.vm.findClass RX1 = some m.cls := findClass_of_methodNamed B.named
  have hlocks := B.notSynchronized
  subst hsz
  generalize hAe : va_A [] s.heap.size = A
  have hA : ∀ q : Nat, s.heap.size ≤ q → A q := fun q h => by rw [← hAe]; exact Or.inr h
  have hS : va_S A s.heap s.heap [] := va_S.rf
  have hAn : ∀ q : Nat, q < s.heap.size → ¬ A q := fun q h => by rw [← hAe]; exact notZ h
  have hAg : ∀ q : Nat, A q → s.heap.size ≤ q := fun q h => geZ (hAe ▸ h)
  have hR0 : va_P (dC, dI) vwCl ([(h, .inr (iX1, [.long x, .long y]))]) s.heap := hP
  have hR : va_P (dC, dI) vwCl ([(h, .inr (iX1, [.long x, .long y]))]) s.heap := hP
  have hP : va_P (dC, dI) vwCl [] s.heap := fun k q h => by simp at h
  have hD : va_D A [] := ⟨fun i j p q h => by simp at h, fun k q h => by simp at h⟩
  have hl := lv_entry ([.ref h, .long z, .long w]) (n := 5) (Nat.le_of_ble_eq_true rfl)
  rw [lg_entry_eq]
  generalize (lg_sl ([.ref h, .long z, .long w]) ++ List.replicate (5 - (lg_sl ([.ref h, .long z, .long w])).length) Slot.unset).toArray = ls at hl ⊢
  have hl : lv_has ls 5 [(0, .ref h), (1, .long z), (3, .long w)] := hl
  have hin_X1 : ∀ w ∈ u_ws RX1 TX1 2, w ∈ wsX1_times := by decide +kernel
  have hw_cl14 := hts (.classLink RX1 14 RX1) (by decide +kernel)
  have hw_insX1 := hts (.instantiable RX1 2) (by decide +kernel)
  have hw_iniX1 := hts (.initialized RX1) (by decide +kernel)
  have hfl_13 := hts (.fieldLink RX1 13 "Greenwheels$Fraction" "upper" "J") (by decide +kernel)
  have hfl_19 := hts (.fieldLink RX1 19 "Greenwheels$Fraction" "lower" "J") (by decide +kernel)
  have hw_ml22 := hts (.methodLink RX1 22 yX1_init) (by decide +kernel)
  have hw_imX1_init := hts (.instanceMethod yX1_init) (by decide +kernel)
  refine va_new (D := (dC, dI)) (ci := iX1) (fs := [.long 0, .long 0]) (C := RX1) (T := TX1) (N := 2) hx hb hts hin_X1 tyX1 tyX1_ok hown hw_cl14 hw_insX1 hw_iniX1 hK hP hD hS hA rfl (fun j hj => by rcases (show j = 0 ∨ j = 1 by omega) with rfl | rfl <;> rfl) (Nat.le_of_ble_eq_true rfl) (Nat.le_of_ble_eq_true rfl) dX1_times_0 (fun q_1 H hP hD hS => ?_)
  have hP : va_P (dC, dI) vwCl ([(q_1, .inr (iX1, [.long 0, .long 0]))]) H := hP
  have hD : va_D A ([(q_1, .inr (iX1, [.long 0, .long 0]))]) := hD
  have hR := keepR hR0 hS hAn
  refine lv_dup hx hb dX1_times_3 rfl ?_
  refine lv_aload_n hx hb dX1_times_4 rfl (lv_at hl 0 rfl) ?_
  refine va_get (D := (dC, dI)) (ci := iX1) (v := .long x) (C := RX1) (T := TX1) (N := 2) hx hb hts hin_X1 hown hK hR 0 rfl rfl 0 (by decide) hfl_13 (fun _ h9 => h9) rfl dX1_times_5 ?_
  refine lv_lload_n hx hb dX1_times_8 rfl (lv_at hl 1 rfl) ?_
  refine lv_lmul hx hb dX1_times_9 ?_
  refine lv_aload_n hx hb dX1_times_10 rfl (lv_at hl 0 rfl) ?_
  refine va_get (D := (dC, dI)) (ci := iX1) (v := .long y) (C := RX1) (T := TX1) (N := 2) hx hb hts hin_X1 hown hK hR 0 rfl rfl 1 (by decide) hfl_19 (fun _ h9 => h9) rfl dX1_times_11 ?_
  refine lv_lload_n hx hb dX1_times_14 rfl (lv_at hl 2 rfl) ?_
  refine lv_lmul hx hb dX1_times_15 ?_
  have hPc : va_P (dC, dI) vwCl ([(q_1, .inr (iX1, [.long 0, .long 0]))]) _ := hP.sub [0] rfl
  have hDc : va_D (fun _ => True) ([(q_1, .inr (iX1, [.long 0, .long 0]))]) := (hD.sub (ws' := [(q_1, .inr (iX1, [.long 0, .long 0]))]) [0] (by decide) rfl).weaken (fun _ _ _ _ => trivial)
  have hFc := va_free (wc := [(q_1, .inr (iX1, [.long 0, .long 0]))]) hD hS hA [0] rfl
  refine va_callv (va_runI (As := [.long (x * z), .long (y * w)]) (rest := [.ref q_1]) ⟨hx, hb, hml, hown, hts⟩ (c_X1_init l dC dI cI cF tr (H).size q_1 0 0 (x * z) (y * w)) (cwI 2 hts gX1_times_X1_init rfl rfl rfl hw_iniX1 hw_ml22 hw_imX1_init rfl (by decide +kernel) ⟨Nat.le_of_ble_eq_true rfl, Nat.le_of_ble_eq_true rfl⟩) ⟨cDbl, (cDpre hPc hK hN hDc)⟩ rfl rfl hl.1 rfl (lv_room (Nat.le_of_ble_eq_true rfl)) dX1_times_16 ⟨(Nat.le_of_ble_eq_true rfl), (Nat.le_of_ble_eq_true rfl)⟩) hS (fun q _ h => hFc q h) hFc (fun u t H1 locs ht hvm hw_r_2 hB hz1 hk1 hS => ?_)
  refine W.widen (k := 1) (n := 2) (Nat.le_refl _) (Nat.le_refl _) ?_
  obtain ⟨hP1, hD1⟩ := hB
  rw [ht] at hP1
  obtain ⟨hP, hD⟩ := va_join (wr := []) (w1 := [(q_1, .inr (iX1, [.long (frU (x * z) (y * w)), .long (frL (x * z) (y * w))]))]) hP hD [0] [] rfl rfl (by decide) (by decide) hk1 hFc hP1 hD1
  have hD := hD.sub (ws' := [(q_1, .inr (iX1, [.long (frU (x * z) (y * w)), .long (frL (x * z) (y * w))]))]) [0] (by decide) rfl
  have hP : va_P (dC, dI) vwCl ([(q_1, .inr (iX1, [.long (frU (x * z) (y * w)), .long (frL (x * z) (y * w))]))]) H1 := hP.sub [0] rfl
  have hR := keepR hR0 hS hAn
  generalize H1 = H at hP hR hS ⊢
  have hP : va_P (dC, dI) vwCl ([(q_1, .inr (iX1, [.long (frU (x * z) (y * w)), .long (frL (x * z) (y * w))]))]) H := hP
  have hD : va_D A ([(q_1, .inr (iX1, [.long (frU (x * z) (y * w)), .long (frL (x * z) (y * w))]))]) := hD
  try dsimp only at hw_r_2
  refine W.widen (k := 1) (n := 2) (by omega) (by omega) ?_
  exact W.aret (v := .ref q_1) hx hb hr (Or.inl ⟨_, rfl⟩) (Or.inr ⟨_, rfl⟩) (fun t ht hW => ⟨⟨(), q_1, rfl, trivial, (by show va_P (dC, dI) vwCl ([(q_1, .inr (iX1, [.long (frU (x * z) (y * w)), .long (frL (x * z) (y * w))]))]) t.heap; rw [ht]; exact hP.sub [0] rfl), hAg _ (hD.2 0 _ rfl)⟩, hS.F ht⟩) hS.2.2 dX1_times_19

set_option maxHeartbeats 4000000 in
set_option maxRecDepth 100000 in
theorem c_X1_withoutWhole (l : Launch) (dC : Nat → ClassId) (dI : Nat → Nat → Nat) (cI cF : ClassId) (tr : List (ClassId × FieldType)) (sz : Nat) (h : Nat) (x : Int64) (y : Int64) : Met l yX1_withoutWhole wsX1_withoutWhole ({ frames := 2, cells := 1, slots := 2, locals := 56 } : Room) (cPc dC dI ((cI, .int) :: (cF, .object RX1) :: tr) sz ([(h, .inr (iX1, [.long x, .long y]))]) [.ref h]) (va_Qr (fun _ : Unit => True) (fun _ a t => va_P (dC, dI) vwCl [(a, .inr (iX1, [.long (wwU x y), .long (wwL x y)]))] t.heap) (va_A ([]) sz)) 1 2 (va_A ([]) sz) := by
  refine Met.ofW (cc := cX1_withoutWhole) (maxL := 1) (ret := (some (.object "Greenwheels$Fraction"))) (by decide) rfl ?_
  intro p e s m args below meth c s₁ B hml hv
  obtain ⟨rfl, hsz, hP, hK, hN⟩ := hv
  have hx := B.exec
  have hb := B.bytes
  have hr := B.returns
  have hts := atoms_spec (ws := wsX1_withoutWhole) B.pre
  have hown : s.vm.findClass RX1 = some m.cls := findClass_of_methodNamed B.named
  have hlocks := B.notSynchronized
  subst hsz
  generalize hAe : va_A [] s.heap.size = A
  have hA : ∀ q : Nat, s.heap.size ≤ q → A q := fun q h => by rw [← hAe]; exact Or.inr h
  have hS : va_S A s.heap s.heap [] := va_S.rf
  have hAn : ∀ q : Nat, q < s.heap.size → ¬ A q := fun q h => by rw [← hAe]; exact notZ h
  have hAg : ∀ q : Nat, A q → s.heap.size ≤ q := fun q h => geZ (hAe ▸ h)
  have hR0 : va_P (dC, dI) vwCl ([(h, .inr (iX1, [.long x, .long y]))]) s.heap := hP
  have hR : va_P (dC, dI) vwCl ([(h, .inr (iX1, [.long x, .long y]))]) s.heap := hP
  have hP : va_P (dC, dI) vwCl [] s.heap := fun k q h => by simp at h
  have hD : va_D A [] := ⟨fun i j p q h => by simp at h, fun k q h => by simp at h⟩
  have hl := lv_entry ([.ref h]) (n := 1) (Nat.le_of_ble_eq_true rfl)
  rw [lg_entry_eq]
  generalize (lg_sl ([.ref h]) ++ List.replicate (1 - (lg_sl ([.ref h])).length) Slot.unset).toArray = ls at hl ⊢
  have hl : lv_has ls 1 [(0, .ref h)] := hl
  have hfl_19 := hts (.fieldLink RX1 19 "Greenwheels$Fraction" "lower" "J") (by decide +kernel)
  have hin_X1 : ∀ w ∈ u_ws RX1 TX1 2, w ∈ wsX1_withoutWhole := by decide +kernel
  have hw_cl14 := hts (.classLink RX1 14 RX1) (by decide +kernel)
  have hw_insX1 := hts (.instantiable RX1 2) (by decide +kernel)
  have hw_iniX1 := hts (.initialized RX1) (by decide +kernel)
  have hfl_13 := hts (.fieldLink RX1 13 "Greenwheels$Fraction" "upper" "J") (by decide +kernel)
  have hw_ml22 := hts (.methodLink RX1 22 yX1_init) (by decide +kernel)
  have hw_imX1_init := hts (.instanceMethod yX1_init) (by decide +kernel)
  refine lv_aload_n hx hb dX1_withoutWhole_0 rfl (lv_at hl 0 rfl) ?_
  refine va_get (D := (dC, dI)) (ci := iX1) (v := .long y) (C := RX1) (T := TX1) (N := 2) hx hb hts hin_X1 hown hK hR 0 rfl rfl 1 (by decide) hfl_19 (fun _ h9 => h9) rfl dX1_withoutWhole_1 ?_
  refine lv_lconst (v := 0) hx hb dX1_withoutWhole_4 (by decide) ?_
  refine W.lcmp hx hb dX1_withoutWhole_5 ?_
  refine lv_if_le (tgt := 34) hx hb dX1_withoutWhole_6 (by decide) (fun c_1 => ?_) (fun c_1 => ?_)
  · rw [lg_cmp_le] at c_1
    refine lv_aload_n hx hb dX1_withoutWhole_34 rfl (lv_at hl 0 rfl) ?_
    refine W.widen (k := 1) (n := 2) (by omega) (by omega) ?_
    have eq_2 : ([(h, .inr (iX1, [.long x, .long y]))] : va_W) = [(h, .inr (iX1, [.long (wwU x y), .long (wwL x y)]))] := (by simp [wwU, wwL, c_1])
    exact W.aret (v := .ref h) hx hb hr (Or.inl ⟨_, rfl⟩) (Or.inr ⟨_, rfl⟩) (fun t ht hW => ⟨⟨(), h, rfl, trivial, (by show va_P (dC, dI) vwCl ([(h, .inr (iX1, [.long (wwU x y), .long (wwL x y)]))]) t.heap; rw [ht]; exact eq_2 ▸ (hR.sub (ws' := [(h, .inr (iX1, [.long x, .long y]))]) [0] rfl))⟩, hS.F ht⟩) hS.2.2 dX1_withoutWhole_35
  · rw [lg_cmp_le] at c_1
    refine va_new (D := (dC, dI)) (ci := iX1) (fs := [.long 0, .long 0]) (C := RX1) (T := TX1) (N := 2) hx hb hts hin_X1 tyX1 tyX1_ok hown hw_cl14 hw_insX1 hw_iniX1 hK hP hD hS hA rfl (fun j hj => by rcases (show j = 0 ∨ j = 1 by omega) with rfl | rfl <;> rfl) (Nat.le_of_ble_eq_true rfl) (Nat.le_of_ble_eq_true rfl) dX1_withoutWhole_9 (fun q_3 H hP hD hS => ?_)
    have hP : va_P (dC, dI) vwCl ([(q_3, .inr (iX1, [.long 0, .long 0]))]) H := hP
    have hD : va_D A ([(q_3, .inr (iX1, [.long 0, .long 0]))]) := hD
    have hR := keepR hR0 hS hAn
    refine lv_dup hx hb dX1_withoutWhole_12 rfl ?_
    refine lv_aload_n hx hb dX1_withoutWhole_13 rfl (lv_at hl 0 rfl) ?_
    refine va_get (D := (dC, dI)) (ci := iX1) (v := .long x) (C := RX1) (T := TX1) (N := 2) hx hb hts hin_X1 hown hK hR 0 rfl rfl 0 (by decide) hfl_13 (fun _ h9 => h9) rfl dX1_withoutWhole_14 ?_
    refine lv_aload_n hx hb dX1_withoutWhole_17 rfl (lv_at hl 0 rfl) ?_
    refine va_get (D := (dC, dI)) (ci := iX1) (v := .long y) (C := RX1) (T := TX1) (N := 2) hx hb hts hin_X1 hown hK hR 0 rfl rfl 1 (by decide) hfl_19 (fun _ h9 => h9) rfl dX1_withoutWhole_18 ?_
    have hPc : va_P (dC, dI) vwCl [] H := nilP
    have hFc := frZ hS hA
    refine va_calll (va_runS (As := [.long x, .long y]) (rest := [.ref q_3, .ref q_3]) ⟨hx, hb, hml, hown, hts⟩ (c_J9_floorMod_f86c9 l dC dI cI cF tr (H).size x y (neOfLe0 c_1)) (va_cwS 2 hts gX1_withoutWhole_J9_floorMod_f86c9 rfl rfl rfl (by decide +kernel) ⟨Nat.le_of_ble_eq_true rfl, Nat.le_of_ble_eq_true rfl⟩) ⟨cBl, (cPre hPc hK hN)⟩ rfl rfl hl.1 rfl (lv_room (Nat.le_of_ble_eq_true rfl)) dX1_withoutWhole_21 ⟨(Nat.le_of_ble_eq_true rfl), (Nat.le_of_ble_eq_true rfl)⟩) hS (fun q _ h => hFc q h) hFc (fun r_4 u t H1 locs ht hvm hw_r_4 hB hz1 hk1 hS => ?_)
    refine W.widen (k := 1) (n := 2) (Nat.le_refl _) (Nat.le_refl _) ?_
    have hP := keepP hP hk1
    have hR := keepP hR hk1
    generalize H1 = H at hP hR hS ⊢
    have hP : va_P (dC, dI) vwCl ([(q_3, .inr (iX1, [.long 0, .long 0]))]) H := hP
    try dsimp only at hw_r_4
    subst hw_r_4
    refine lv_aload_n hx hb dX1_withoutWhole_24 rfl (lv_at hl 0 rfl) ?_
    refine va_get (D := (dC, dI)) (ci := iX1) (v := .long y) (C := RX1) (T := TX1) (N := 2) hx hb hts hin_X1 hown hK hR 0 rfl rfl 1 (by decide) hfl_19 (fun _ h9 => h9) rfl dX1_withoutWhole_25 ?_
    have hPc : va_P (dC, dI) vwCl ([(q_3, .inr (iX1, [.long 0, .long 0]))]) _ := hP.sub [0] rfl
    have hDc : va_D (fun _ => True) ([(q_3, .inr (iX1, [.long 0, .long 0]))]) := (hD.sub (ws' := [(q_3, .inr (iX1, [.long 0, .long 0]))]) [0] (by decide) rfl).weaken (fun _ _ _ _ => trivial)
    have hFc := va_free (wc := [(q_3, .inr (iX1, [.long 0, .long 0]))]) hD hS hA [0] rfl
    refine va_callv (va_runI (As := [.long (fmF x y), .long y]) (rest := [.ref q_3]) ⟨hx, hb, hml, hown, hts⟩ (c_X1_init l dC dI cI cF tr (H).size q_3 0 0 (fmF x y) y) (cwI 2 hts gX1_withoutWhole_X1_init rfl rfl rfl hw_iniX1 hw_ml22 hw_imX1_init rfl (by decide +kernel) ⟨Nat.le_of_ble_eq_true rfl, Nat.le_of_ble_eq_true rfl⟩) ⟨cDbl, (cDpre hPc hK hN hDc)⟩ rfl rfl hl.1 rfl (lv_room (Nat.le_of_ble_eq_true rfl)) dX1_withoutWhole_28 ⟨(Nat.le_of_ble_eq_true rfl), (Nat.le_of_ble_eq_true rfl)⟩) hS (fun q _ h => hFc q h) hFc (fun u t H1 locs ht hvm hw_r_5 hB hz1 hk1 hS => ?_)
    refine W.widen (k := 1) (n := 2) (Nat.le_refl _) (Nat.le_refl _) ?_
    obtain ⟨hP1, hD1⟩ := hB
    rw [ht] at hP1
    obtain ⟨hP, hD⟩ := va_join (wr := []) (w1 := [(q_3, .inr (iX1, [.long (frU (fmF x y) y), .long (frL (fmF x y) y)]))]) hP hD [0] [] rfl rfl (by decide) (by decide) hk1 hFc hP1 hD1
    have hD := hD.sub (ws' := [(q_3, .inr (iX1, [.long (frU (fmF x y) y), .long (frL (fmF x y) y)]))]) [0] (by decide) rfl
    have hP : va_P (dC, dI) vwCl ([(q_3, .inr (iX1, [.long (frU (fmF x y) y), .long (frL (fmF x y) y)]))]) H1 := hP.sub [0] rfl
    have hR := keepR hR0 hS hAn
    generalize H1 = H at hP hR hS ⊢
    have hP : va_P (dC, dI) vwCl ([(q_3, .inr (iX1, [.long (frU (fmF x y) y), .long (frL (fmF x y) y)]))]) H := hP
    have hD : va_D A ([(q_3, .inr (iX1, [.long (frU (fmF x y) y), .long (frL (fmF x y) y)]))]) := hD
    try dsimp only at hw_r_5
    refine lv_goto (tgt := 35) hx hb dX1_withoutWhole_31 (by decide) ?_
    refine W.widen (k := 1) (n := 2) (by omega) (by omega) ?_
    have eq_6 : ([(q_3, .inr (iX1, [.long (frU (fmF x y) y), .long (frL (fmF x y) y)]))] : va_W) = [(q_3, .inr (iX1, [.long (wwU x y), .long (wwL x y)]))] := (by simp [wwU, wwL, c_1])
    exact W.aret (v := .ref q_3) hx hb hr (Or.inl ⟨_, rfl⟩) (Or.inr ⟨_, rfl⟩) (fun t ht hW => ⟨⟨(), q_3, rfl, trivial, (by show va_P (dC, dI) vwCl ([(q_3, .inr (iX1, [.long (wwU x y), .long (wwL x y)]))]) t.heap; rw [ht]; exact eq_6 ▸ (hP.sub (ws' := [(q_3, .inr (iX1, [.long (frU (fmF x y) y), .long (frL (fmF x y) y)]))]) [0] rfl))⟩, hS.F ht⟩) hS.2.2 dX1_withoutWhole_35

set_option maxHeartbeats 4000000 in
set_option maxRecDepth 100000 in
theorem c_X1_cellOf (l : Launch) (dC : Nat → ClassId) (dI : Nat → Nat → Nat) (cI cF : ClassId) (tr : List (ClassId × FieldType)) (sz : Nat) (h : Nat) (x : Int64) (y : Int64) (k : Int32) : Met l yX1_cellOf wsX1_cellOf ({ frames := 0, cells := 0, slots := 0, locals := 0 } : Room) (cPc dC dI ((cI, .int) :: (cF, .object RX1) :: tr) sz ([(h, .inr (iX1, [.long x, .long y]))]) [.ref h, .int k]) (va_Qi (fun (r : Int32) (_ : Unit) => r = ceF x y k) (fun _ _ => True) (va_A ([]) sz)) 0 0 (va_A ([]) sz) := by
  refine Met.ofW (cc := cX1_cellOf) (maxL := 2) (ret := (some .int)) (by decide) rfl ?_
  intro p e s m args below meth c s₁ B hml hv
  obtain ⟨rfl, hsz, hP, hK, hN⟩ := hv
  have hx := B.exec
  have hb := B.bytes
  have hr := B.returns
  have hts := atoms_spec (ws := wsX1_cellOf) B.pre
  have hown : s.vm.findClass RX1 = some m.cls := findClass_of_methodNamed B.named
  have hlocks := B.notSynchronized
  subst hsz
  generalize hAe : va_A [] s.heap.size = A
  have hA : ∀ q : Nat, s.heap.size ≤ q → A q := fun q h => by rw [← hAe]; exact Or.inr h
  have hS : va_S A s.heap s.heap [] := va_S.rf
  have hAn : ∀ q : Nat, q < s.heap.size → ¬ A q := fun q h => by rw [← hAe]; exact notZ h
  have hAg : ∀ q : Nat, A q → s.heap.size ≤ q := fun q h => geZ (hAe ▸ h)
  have hR0 : va_P (dC, dI) vwCl ([(h, .inr (iX1, [.long x, .long y]))]) s.heap := hP
  have hR : va_P (dC, dI) vwCl ([(h, .inr (iX1, [.long x, .long y]))]) s.heap := hP
  have hP : va_P (dC, dI) vwCl [] s.heap := fun k q h => by simp at h
  have hD : va_D A [] := ⟨fun i j p q h => by simp at h, fun k q h => by simp at h⟩
  have hl := lv_entry ([.ref h, .int k]) (n := 2) (Nat.le_of_ble_eq_true rfl)
  rw [lg_entry_eq]
  generalize (lg_sl ([.ref h, .int k]) ++ List.replicate (2 - (lg_sl ([.ref h, .int k])).length) Slot.unset).toArray = ls at hl ⊢
  have hl : lv_has ls 2 [(0, .ref h), (1, .int k)] := hl
  have hfl_19 := hts (.fieldLink RX1 19 "Greenwheels$Fraction" "lower" "J") (by decide +kernel)
  have hin_X1 : ∀ w ∈ u_ws RX1 TX1 2, w ∈ wsX1_cellOf := by decide +kernel
  have hfl_13 := hts (.fieldLink RX1 13 "Greenwheels$Fraction" "upper" "J") (by decide +kernel)
  refine lv_aload_n hx hb dX1_cellOf_0 rfl (lv_at hl 0 rfl) ?_
  refine va_get (D := (dC, dI)) (ci := iX1) (v := .long y) (C := RX1) (T := TX1) (N := 2) hx hb hts hin_X1 hown hK hR 0 rfl rfl 1 (by decide) hfl_19 (fun _ h9 => h9) rfl dX1_cellOf_1 ?_
  refine lv_lconst (v := 0) hx hb dX1_cellOf_4 (by decide) ?_
  refine W.lcmp hx hb dX1_cellOf_5 ?_
  refine lv_if_le (tgt := 25) hx hb dX1_cellOf_6 (by decide) (fun c_1 => ?_) (fun c_1 => ?_)
  · rw [lg_cmp_le] at c_1
    refine lv_iconst (v := 0) hx hb dX1_cellOf_25 (by decide) ?_
    refine W.widen (k := 0) (n := 0) (by omega) (by omega) ?_
    exact W.iret (v := 0) hx hb hr (fun t ht hW => ⟨⟨0, (), rfl, (by first | (simp [ceF, c_1]; done) | contradiction), trivial⟩, hS.F ht⟩) hS.2.2 dX1_cellOf_26
  · rw [lg_cmp_le] at c_1
    refine lv_aload_n hx hb dX1_cellOf_9 rfl (lv_at hl 0 rfl) ?_
    refine va_get (D := (dC, dI)) (ci := iX1) (v := .long x) (C := RX1) (T := TX1) (N := 2) hx hb hts hin_X1 hown hK hR 0 rfl rfl 0 (by decide) hfl_13 (fun _ h9 => h9) rfl dX1_cellOf_10 ?_
    refine lv_iload_n hx hb dX1_cellOf_13 rfl (lv_at hl 1 rfl) ?_
    refine lv_i2l hx hb dX1_cellOf_14 rfl ?_
    refine lv_lmul hx hb dX1_cellOf_15 ?_
    refine lv_aload_n hx hb dX1_cellOf_16 rfl (lv_at hl 0 rfl) ?_
    refine va_get (D := (dC, dI)) (ci := iX1) (v := .long y) (C := RX1) (T := TX1) (N := 2) hx hb hts hin_X1 hown hK hR 0 rfl rfl 1 (by decide) hfl_19 (fun _ h9 => h9) rfl dX1_cellOf_17 ?_
    refine lv_ldiv hx hb dX1_cellOf_20 (neOfLe0 c_1) ?_
    refine lv_l2i hx hb dX1_cellOf_21 rfl ?_
    refine lv_goto (tgt := 26) hx hb dX1_cellOf_22 (by decide) ?_
    refine W.widen (k := 0) (n := 0) (by omega) (by omega) ?_
    exact W.iret (v := ((x * k.toInt64) / y).toInt32) hx hb hr (fun t ht hW => ⟨⟨((x * k.toInt64) / y).toInt32, (), rfl, (by first | (simp [ceF, c_1]; done) | contradiction), trivial⟩, hS.F ht⟩) hS.2.2 dX1_cellOf_26

set_option maxHeartbeats 4000000 in
set_option maxRecDepth 100000 in
theorem c_X1_isSameAs (l : Launch) (dC : Nat → ClassId) (dI : Nat → Nat → Nat) (cI cF : ClassId) (tr : List (ClassId × FieldType)) (sz : Nat) (h : Nat) (x : Int64) (y : Int64) (g : Nat) (z : Int64) (w : Int64) : Met l yX1_isSameAs wsX1_isSameAs ({ frames := 0, cells := 0, slots := 0, locals := 0 } : Room) (cPc dC dI ((cI, .int) :: (cF, .object RX1) :: tr) sz ([(h, .inr (iX1, [.long x, .long y])), (g, .inr (iX1, [.long z, .long w]))]) [.ref h, .ref g]) (va_Qi (fun (r : Int32) (_ : Unit) => r = if x = z ∧ y = w then 1 else 0) (fun _ _ => True) (va_A ([]) sz)) 0 0 (va_A ([]) sz) := by
  refine Met.ofW (cc := cX1_isSameAs) (maxL := 2) (ret := (some .boolean)) (by decide) rfl ?_
  intro p e s m args below meth c s₁ B hml hv
  obtain ⟨rfl, hsz, hP, hK, hN⟩ := hv
  have hx := B.exec
  have hb := B.bytes
  have hr := B.returns
  have hts := atoms_spec (ws := wsX1_isSameAs) B.pre
  have hown : s.vm.findClass RX1 = some m.cls := findClass_of_methodNamed B.named
  have hlocks := B.notSynchronized
  subst hsz
  generalize hAe : va_A [] s.heap.size = A
  have hA : ∀ q : Nat, s.heap.size ≤ q → A q := fun q h => by rw [← hAe]; exact Or.inr h
  have hS : va_S A s.heap s.heap [] := va_S.rf
  have hAn : ∀ q : Nat, q < s.heap.size → ¬ A q := fun q h => by rw [← hAe]; exact notZ h
  have hAg : ∀ q : Nat, A q → s.heap.size ≤ q := fun q h => geZ (hAe ▸ h)
  have hR0 : va_P (dC, dI) vwCl ([(h, .inr (iX1, [.long x, .long y])), (g, .inr (iX1, [.long z, .long w]))]) s.heap := hP
  have hR : va_P (dC, dI) vwCl ([(h, .inr (iX1, [.long x, .long y])), (g, .inr (iX1, [.long z, .long w]))]) s.heap := hP
  have hP : va_P (dC, dI) vwCl [] s.heap := fun k q h => by simp at h
  have hD : va_D A [] := ⟨fun i j p q h => by simp at h, fun k q h => by simp at h⟩
  have hl := lv_entry ([.ref h, .ref g]) (n := 2) (Nat.le_of_ble_eq_true rfl)
  rw [lg_entry_eq]
  generalize (lg_sl ([.ref h, .ref g]) ++ List.replicate (2 - (lg_sl ([.ref h, .ref g])).length) Slot.unset).toArray = ls at hl ⊢
  have hl : lv_has ls 2 [(0, .ref h), (1, .ref g)] := hl
  have hfl_13 := hts (.fieldLink RX1 13 "Greenwheels$Fraction" "upper" "J") (by decide +kernel)
  have hin_X1 : ∀ w ∈ u_ws RX1 TX1 2, w ∈ wsX1_isSameAs := by decide +kernel
  have hfl_19 := hts (.fieldLink RX1 19 "Greenwheels$Fraction" "lower" "J") (by decide +kernel)
  refine lv_aload_n hx hb dX1_isSameAs_0 rfl (lv_at hl 0 rfl) ?_
  refine va_get (D := (dC, dI)) (ci := iX1) (v := .long x) (C := RX1) (T := TX1) (N := 2) hx hb hts hin_X1 hown hK hR 0 rfl rfl 0 (by decide) hfl_13 (fun _ h9 => h9) rfl dX1_isSameAs_1 ?_
  refine lv_aload_n hx hb dX1_isSameAs_4 rfl (lv_at hl 1 rfl) ?_
  refine va_get (D := (dC, dI)) (ci := iX1) (v := .long z) (C := RX1) (T := TX1) (N := 2) hx hb hts hin_X1 hown hK hR 1 rfl rfl 0 (by decide) hfl_13 (fun _ h9 => h9) rfl dX1_isSameAs_5 ?_
  refine W.lcmp hx hb dX1_isSameAs_8 ?_
  refine lv_if_ne (tgt := 28) hx hb dX1_isSameAs_9 (by decide) (fun c_1 => ?_) (fun c_1 => ?_)
  · rw [lg_cmp_eq] at c_1
    refine lv_iconst (v := 0) hx hb dX1_isSameAs_28 (by decide) ?_
    refine W.widen (k := 0) (n := 0) (by omega) (by omega) ?_
    exact W.zret (v := 0) hx hb hr (by first | rfl | simp [narrow] | assumption) (fun t ht hW => ⟨⟨0, (), rfl, (by first | (simp [c_1]; done) | contradiction), trivial⟩, hS.F ht⟩) hS.2.2 dX1_isSameAs_29
  · rw [lg_cmp_eq] at c_1
    refine lv_aload_n hx hb dX1_isSameAs_12 rfl (lv_at hl 0 rfl) ?_
    refine va_get (D := (dC, dI)) (ci := iX1) (v := .long y) (C := RX1) (T := TX1) (N := 2) hx hb hts hin_X1 hown hK hR 0 rfl rfl 1 (by decide) hfl_19 (fun _ h9 => h9) rfl dX1_isSameAs_13 ?_
    refine lv_aload_n hx hb dX1_isSameAs_16 rfl (lv_at hl 1 rfl) ?_
    refine va_get (D := (dC, dI)) (ci := iX1) (v := .long w) (C := RX1) (T := TX1) (N := 2) hx hb hts hin_X1 hown hK hR 1 rfl rfl 1 (by decide) hfl_19 (fun _ h9 => h9) rfl dX1_isSameAs_17 ?_
    refine W.lcmp hx hb dX1_isSameAs_20 ?_
    refine lv_if_ne (tgt := 28) hx hb dX1_isSameAs_21 (by decide) (fun c_2 => ?_) (fun c_2 => ?_)
    · rw [lg_cmp_eq] at c_2
      refine lv_iconst (v := 0) hx hb dX1_isSameAs_28 (by decide) ?_
      refine W.widen (k := 0) (n := 0) (by omega) (by omega) ?_
      exact W.zret (v := 0) hx hb hr (by first | rfl | simp [narrow] | assumption) (fun t ht hW => ⟨⟨0, (), rfl, (by first | (simp [c_1, c_2]; done) | contradiction), trivial⟩, hS.F ht⟩) hS.2.2 dX1_isSameAs_29
    · rw [lg_cmp_eq] at c_2
      refine lv_iconst (v := 1) hx hb dX1_isSameAs_24 (by decide) ?_
      refine lv_goto (tgt := 29) hx hb dX1_isSameAs_25 (by decide) ?_
      refine W.widen (k := 0) (n := 0) (by omega) (by omega) ?_
      exact W.zret (v := 1) hx hb hr (by first | rfl | simp [narrow] | assumption) (fun t ht hW => ⟨⟨1, (), rfl, (by first | (simp [c_1, c_2]; done) | contradiction), trivial⟩, hS.F ht⟩) hS.2.2 dX1_isSameAs_29

set_option maxHeartbeats 4000000 in
set_option maxRecDepth 100000 in
theorem c_X1_isOppositeOf (l : Launch) (dC : Nat → ClassId) (dI : Nat → Nat → Nat) (cI cF : ClassId) (tr : List (ClassId × FieldType)) (sz : Nat) (h : Nat) (x : Int64) (y : Int64) (g : Nat) (z : Int64) (w : Int64) : Met l yX1_isOppositeOf wsX1_isOppositeOf ({ frames := 0, cells := 0, slots := 0, locals := 0 } : Room) (cPc dC dI ((cI, .int) :: (cF, .object RX1) :: tr) sz ([(h, .inr (iX1, [.long x, .long y])), (g, .inr (iX1, [.long z, .long w]))]) [.ref h, .ref g]) (va_Qi (fun (r : Int32) (_ : Unit) => r = if x = -z ∧ y = w then 1 else 0) (fun _ _ => True) (va_A ([]) sz)) 0 0 (va_A ([]) sz) := by
  refine Met.ofW (cc := cX1_isOppositeOf) (maxL := 2) (ret := (some .boolean)) (by decide) rfl ?_
  intro p e s m args below meth c s₁ B hml hv
  obtain ⟨rfl, hsz, hP, hK, hN⟩ := hv
  have hx := B.exec
  have hb := B.bytes
  have hr := B.returns
  have hts := atoms_spec (ws := wsX1_isOppositeOf) B.pre
  have hown : s.vm.findClass RX1 = some m.cls := findClass_of_methodNamed B.named
  have hlocks := B.notSynchronized
  subst hsz
  generalize hAe : va_A [] s.heap.size = A
  have hA : ∀ q : Nat, s.heap.size ≤ q → A q := fun q h => by rw [← hAe]; exact Or.inr h
  have hS : va_S A s.heap s.heap [] := va_S.rf
  have hAn : ∀ q : Nat, q < s.heap.size → ¬ A q := fun q h => by rw [← hAe]; exact notZ h
  have hAg : ∀ q : Nat, A q → s.heap.size ≤ q := fun q h => geZ (hAe ▸ h)
  have hR0 : va_P (dC, dI) vwCl ([(h, .inr (iX1, [.long x, .long y])), (g, .inr (iX1, [.long z, .long w]))]) s.heap := hP
  have hR : va_P (dC, dI) vwCl ([(h, .inr (iX1, [.long x, .long y])), (g, .inr (iX1, [.long z, .long w]))]) s.heap := hP
  have hP : va_P (dC, dI) vwCl [] s.heap := fun k q h => by simp at h
  have hD : va_D A [] := ⟨fun i j p q h => by simp at h, fun k q h => by simp at h⟩
  have hl := lv_entry ([.ref h, .ref g]) (n := 2) (Nat.le_of_ble_eq_true rfl)
  rw [lg_entry_eq]
  generalize (lg_sl ([.ref h, .ref g]) ++ List.replicate (2 - (lg_sl ([.ref h, .ref g])).length) Slot.unset).toArray = ls at hl ⊢
  have hl : lv_has ls 2 [(0, .ref h), (1, .ref g)] := hl
  have hfl_13 := hts (.fieldLink RX1 13 "Greenwheels$Fraction" "upper" "J") (by decide +kernel)
  have hin_X1 : ∀ w ∈ u_ws RX1 TX1 2, w ∈ wsX1_isOppositeOf := by decide +kernel
  have hfl_19 := hts (.fieldLink RX1 19 "Greenwheels$Fraction" "lower" "J") (by decide +kernel)
  refine lv_aload_n hx hb dX1_isOppositeOf_0 rfl (lv_at hl 0 rfl) ?_
  refine va_get (D := (dC, dI)) (ci := iX1) (v := .long x) (C := RX1) (T := TX1) (N := 2) hx hb hts hin_X1 hown hK hR 0 rfl rfl 0 (by decide) hfl_13 (fun _ h9 => h9) rfl dX1_isOppositeOf_1 ?_
  refine lv_aload_n hx hb dX1_isOppositeOf_4 rfl (lv_at hl 1 rfl) ?_
  refine va_get (D := (dC, dI)) (ci := iX1) (v := .long z) (C := RX1) (T := TX1) (N := 2) hx hb hts hin_X1 hown hK hR 1 rfl rfl 0 (by decide) hfl_13 (fun _ h9 => h9) rfl dX1_isOppositeOf_5 ?_
  refine lv_lneg hx hb dX1_isOppositeOf_8 ?_
  refine W.lcmp hx hb dX1_isOppositeOf_9 ?_
  refine lv_if_ne (tgt := 29) hx hb dX1_isOppositeOf_10 (by decide) (fun c_1 => ?_) (fun c_1 => ?_)
  · rw [lg_cmp_eq] at c_1
    refine lv_iconst (v := 0) hx hb dX1_isOppositeOf_29 (by decide) ?_
    refine W.widen (k := 0) (n := 0) (by omega) (by omega) ?_
    exact W.zret (v := 0) hx hb hr (by first | rfl | simp [narrow] | assumption) (fun t ht hW => ⟨⟨0, (), rfl, (by first | (simp [c_1]; done) | contradiction), trivial⟩, hS.F ht⟩) hS.2.2 dX1_isOppositeOf_30
  · rw [lg_cmp_eq] at c_1
    refine lv_aload_n hx hb dX1_isOppositeOf_13 rfl (lv_at hl 0 rfl) ?_
    refine va_get (D := (dC, dI)) (ci := iX1) (v := .long y) (C := RX1) (T := TX1) (N := 2) hx hb hts hin_X1 hown hK hR 0 rfl rfl 1 (by decide) hfl_19 (fun _ h9 => h9) rfl dX1_isOppositeOf_14 ?_
    refine lv_aload_n hx hb dX1_isOppositeOf_17 rfl (lv_at hl 1 rfl) ?_
    refine va_get (D := (dC, dI)) (ci := iX1) (v := .long w) (C := RX1) (T := TX1) (N := 2) hx hb hts hin_X1 hown hK hR 1 rfl rfl 1 (by decide) hfl_19 (fun _ h9 => h9) rfl dX1_isOppositeOf_18 ?_
    refine W.lcmp hx hb dX1_isOppositeOf_21 ?_
    refine lv_if_ne (tgt := 29) hx hb dX1_isOppositeOf_22 (by decide) (fun c_2 => ?_) (fun c_2 => ?_)
    · rw [lg_cmp_eq] at c_2
      refine lv_iconst (v := 0) hx hb dX1_isOppositeOf_29 (by decide) ?_
      refine W.widen (k := 0) (n := 0) (by omega) (by omega) ?_
      exact W.zret (v := 0) hx hb hr (by first | rfl | simp [narrow] | assumption) (fun t ht hW => ⟨⟨0, (), rfl, (by first | (simp [c_1, c_2]; done) | contradiction), trivial⟩, hS.F ht⟩) hS.2.2 dX1_isOppositeOf_30
    · rw [lg_cmp_eq] at c_2
      refine lv_iconst (v := 1) hx hb dX1_isOppositeOf_25 (by decide) ?_
      refine lv_goto (tgt := 30) hx hb dX1_isOppositeOf_26 (by decide) ?_
      refine W.widen (k := 0) (n := 0) (by omega) (by omega) ?_
      exact W.zret (v := 1) hx hb hr (by first | rfl | simp [narrow] | assumption) (fun t ht hW => ⟨⟨1, (), rfl, (by first | (simp [c_1, c_2]; done) | contradiction), trivial⟩, hS.F ht⟩) hS.2.2 dX1_isOppositeOf_30

set_option maxHeartbeats 4000000 in
set_option maxRecDepth 100000 in
theorem c_X1_told (l : Launch) (dC : Nat → ClassId) (dI : Nat → Nat → Nat) (cI cF : ClassId) (tr : List (ClassId × FieldType)) (sz : Nat) (h : Nat) (x : Int64) (y : Int64) (b : Int32) : Met l yX1_told wsX1_told ({ frames := 0, cells := 0, slots := 0, locals := 0 } : Room) (cPc dC dI ((cI, .int) :: (cF, .object RX1) :: tr) sz ([(h, .inr (iX1, [.long x, .long y]))]) [.ref h, .int b]) (va_Ql (fun (r : Int64) (_ : Unit) => r = if b = 0 then y else x) (fun _ _ => True) (va_A ([]) sz)) 0 0 (va_A ([]) sz) := by
  refine Met.ofW (cc := cX1_told) (maxL := 2) (ret := (some .long)) (by decide) rfl ?_
  intro p e s m args below meth c s₁ B hml hv
  obtain ⟨rfl, hsz, hP, hK, hN⟩ := hv
  have hx := B.exec
  have hb := B.bytes
  have hr := B.returns
  have hts := atoms_spec (ws := wsX1_told) B.pre
  have hown : s.vm.findClass RX1 = some m.cls := findClass_of_methodNamed B.named
  have hlocks := B.notSynchronized
  subst hsz
  generalize hAe : va_A [] s.heap.size = A
  have hA : ∀ q : Nat, s.heap.size ≤ q → A q := fun q h => by rw [← hAe]; exact Or.inr h
  have hS : va_S A s.heap s.heap [] := va_S.rf
  have hAn : ∀ q : Nat, q < s.heap.size → ¬ A q := fun q h => by rw [← hAe]; exact notZ h
  have hAg : ∀ q : Nat, A q → s.heap.size ≤ q := fun q h => geZ (hAe ▸ h)
  have hR0 : va_P (dC, dI) vwCl ([(h, .inr (iX1, [.long x, .long y]))]) s.heap := hP
  have hR : va_P (dC, dI) vwCl ([(h, .inr (iX1, [.long x, .long y]))]) s.heap := hP
  have hP : va_P (dC, dI) vwCl [] s.heap := fun k q h => by simp at h
  have hD : va_D A [] := ⟨fun i j p q h => by simp at h, fun k q h => by simp at h⟩
  have hl := lv_entry ([.ref h, .int b]) (n := 2) (Nat.le_of_ble_eq_true rfl)
  rw [lg_entry_eq]
  generalize (lg_sl ([.ref h, .int b]) ++ List.replicate (2 - (lg_sl ([.ref h, .int b])).length) Slot.unset).toArray = ls at hl ⊢
  have hl : lv_has ls 2 [(0, .ref h), (1, .int b)] := hl
  have hfl_19 := hts (.fieldLink RX1 19 "Greenwheels$Fraction" "lower" "J") (by decide +kernel)
  have hin_X1 : ∀ w ∈ u_ws RX1 TX1 2, w ∈ wsX1_told := by decide +kernel
  have hfl_13 := hts (.fieldLink RX1 13 "Greenwheels$Fraction" "upper" "J") (by decide +kernel)
  refine lv_iload_n hx hb dX1_told_0 rfl (lv_at hl 1 rfl) ?_
  refine lv_if_eq (tgt := 11) hx hb dX1_told_1 (by decide) (fun c_1 => ?_) (fun c_1 => ?_)
  · refine lv_aload_n hx hb dX1_told_11 rfl (lv_at hl 0 rfl) ?_
    refine va_get (D := (dC, dI)) (ci := iX1) (v := .long y) (C := RX1) (T := TX1) (N := 2) hx hb hts hin_X1 hown hK hR 0 rfl rfl 1 (by decide) hfl_19 (fun _ h9 => h9) rfl dX1_told_12 ?_
    refine W.widen (k := 0) (n := 0) (by omega) (by omega) ?_
    exact W.lret (v := y) hx hb hr (fun t ht hW => ⟨⟨y, (), rfl, (by first | (simp [c_1]; done) | contradiction), trivial⟩, hS.F ht⟩) hS.2.2 dX1_told_15
  · refine lv_aload_n hx hb dX1_told_4 rfl (lv_at hl 0 rfl) ?_
    refine va_get (D := (dC, dI)) (ci := iX1) (v := .long x) (C := RX1) (T := TX1) (N := 2) hx hb hts hin_X1 hown hK hR 0 rfl rfl 0 (by decide) hfl_13 (fun _ h9 => h9) rfl dX1_told_5 ?_
    refine lv_goto (tgt := 15) hx hb dX1_told_8 (by decide) ?_
    refine W.widen (k := 0) (n := 0) (by omega) (by omega) ?_
    exact W.lret (v := x) hx hb hr (fun t ht hW => ⟨⟨x, (), rfl, (by first | (simp [c_1]; done) | contradiction), trivial⟩, hS.F ht⟩) hS.2.2 dX1_told_15
