/-! what throws -/
/-- the texts of the exceptions, and the two statics that a new exception reads, apart from A -/
def XE (A : Nat → Prop) (U : State) (H : Heap) : Prop := (∃ a, vk_R RX5 278 "there is no such number" a U) ∧ (∃ a, vk_R RX5 285 "the argument is not allowed" a U) ∧ (∃ a, vk_R RX5 290 "there is no room for more" a U) ∧ vx_Zq Bundle.tN "UNASSIGNED_STACK" Bundle.steD A U H ∧ vx_Zq Bundle.tN "SUPPRESSED_SENTINEL" Bundle.listD A U H
theorem XE.kept {A : Nat → Prop} {U : State} {H0 H : Heap} {locs : List Loc} (h : XE A U H0) (hS : va_S A H0 H locs) : XE A U H := ⟨h.1, h.2.1, h.2.2.1, h.2.2.2.1.kept hS.2.1, h.2.2.2.2.kept hS.2.1⟩
theorem XE.go {A B : Nat → Prop} {s U : State} {H : Heap} (h : XE A s H) (hW : s.WarmedH U.vm) (hAB : ∀ q, B q → A q) : XE B U H := by
  obtain ⟨⟨a, ha⟩, ⟨b, hb⟩, ⟨d, hd⟩, h1, h2⟩ := h
  exact ⟨⟨a, ha.warm hW⟩, ⟨b, hb.warm hW⟩, ⟨d, hd.warm hW⟩, (h1.moved hW.alike).narrow hAB, (h2.moved hW.alike).narrow hAB⟩
theorem XE.call {A : Nat → Prop} {U : State} {H : Heap} {g : JFrame} {mk : MethodId} {a : Array Value} (h : XE A U H) : XE A (U.calling g mk a) H := by
  obtain ⟨⟨a, ha⟩, ⟨b, hb⟩, ⟨d, hd⟩, h1, h2⟩ := h
  exact ⟨⟨a, ha.same rfl⟩, ⟨b, hb.same rfl⟩, ⟨d, hd.same rfl⟩, h1.moved (Vm.Alike.refl U.vm), h2.moved (Vm.Alike.refl U.vm)⟩
def cXc (dC : Nat → ClassId) (dI : Nat → Nat → Nat) (tys : List (ClassId × FieldType)) (sz : Nat) (ws : va_W) (A0 : Nat → Prop) (av : List Value) : Array Value → State → Prop := va_Pc av (fun U => U.heap.size = sz ∧ va_P (dC, dI) vwCl ws U.heap ∧ va_K (dC, dI) vwCl tys U ∧ NW U ∧ XE A0 U U.heap)
def cXd (dC : Nat → ClassId) (dI : Nat → Nat → Nat) (tys : List (ClassId × FieldType)) (sz : Nat) (ws : va_W) (A0 : Nat → Prop) (av : List Value) : Array Value → State → Prop := va_Pc av (fun U => U.heap.size = sz ∧ va_P (dC, dI) vwCl ws U.heap ∧ va_K (dC, dI) vwCl tys U ∧ NW U ∧ XE A0 U U.heap ∧ va_D (fun _ => True) ws)
section XB
variable {dC : Nat → ClassId} {dI : Nat → Nat → Nat} {tys : List (ClassId × FieldType)} {sz : Nat} {ws : va_W} {av : List Value} {s : State} {H H0 H1 : Heap} {A B : Nat → Prop} {locs : List Loc}
theorem cXbl : FrameBlind (cXc dC dI tys sz ws B av) := fun a U g mk q => by
  obtain ⟨q0, q1, qP, qK, qN, qX⟩ := q
  exact ⟨q0, q1, qP, va_K.moved (u := U) (U := U.calling g mk a) (Vm.Alike.refl U.vm) qK, NW.call qN, XE.call qX⟩
theorem cXdbl : FrameBlind (cXd dC dI tys sz ws B av) := fun a U g mk q => by
  obtain ⟨q0, q1, qP, qK, qN, qX, qD⟩ := q
  exact ⟨q0, q1, qP, va_K.moved (u := U) (U := U.calling g mk a) (Vm.Alike.refl U.vm) qK, NW.call qN, XE.call qX, qD⟩
theorem cXpre (hP : va_P (dC, dI) vwCl ws H) (hK : va_K (dC, dI) vwCl tys s) (hN : NW s) (hX : XE A s H) (hAB : ∀ q, B q → A q) : ∀ U : State, U.heap = H → s.WarmedH U.vm → cXc dC dI tys H.size ws B av av.toArray U := fun U hU hW => ⟨rfl, by rw [hU], by rw [hU]; exact hP, va_K.moved hW.alike hK, NW.warm hW hN, by rw [hU]; exact hX.go hW hAB⟩
theorem cXdpre (hP : va_P (dC, dI) vwCl ws H) (hK : va_K (dC, dI) vwCl tys s) (hN : NW s) (hX : XE A s H) (hAB : ∀ q, B q → A q) (hD : va_D (fun _ => True) ws) : ∀ U : State, U.heap = H → s.WarmedH U.vm → cXd dC dI tys H.size ws B av av.toArray U := fun U hU hW => ⟨rfl, by rw [hU], by rw [hU]; exact hP, va_K.moved hW.alike hK, NW.warm hW hN, by rw [hU]; exact hX.go hW hAB, hD⟩
end XB
theorem exNone {p : Prop} [Decidable p] {x : String} (h : (if p then some x else none) = none) : ¬ p := fun q => by rw [if_pos q] at h; cases h
theorem exSome {p : Prop} [Decidable p] {x E : String} (h : (if p then some x else none) = some E) : p ∧ x = E := by
  by_cases q : p
  · rw [if_pos q] at h
    exact ⟨q, Option.some.inj h⟩
  · rw [if_neg q] at h
    cases h
/-- a method that does not throw here -/
theorem vx_plain {l : Launch} {y : MethodName} {ws : List Cond} {rm : Room} {Pc : Array Value → State → Prop} {Qc : Array Value → State → Outcome → State → Prop} {XC : String → State → State → Prop} {mc ms : Nat} {free : Addr → Prop} (h : vx_Met l y ws rm Pc Qc XC mc ms free) (hx : ∀ E st t, ¬ XC E st t) : Met l y ws rm Pc Qc mc ms free := by
  intro p e ha hc hk s m args below hf happ hP hK
  obtain ⟨n, o, h1, h2, h3, h4⟩ := h p e ha hc hk s m args below hf happ hP hK
  refine ⟨n, o, h1, h2, h3, ?_⟩
  rcases h4 with h4 | ⟨q, -, E, ce, L, hxc, -⟩
  · exact h4
  · exact absurd hxc (hx E _ _)

set_option maxHeartbeats 4000000 in
set_option maxRecDepth 100000 in
theorem c_X5_demandIndex (l : Launch) (dC : Nat → ClassId) (dI : Nat → Nat → Nat) (cI cF : ClassId) (tr : List (ClassId × FieldType)) (sz : Nat) (hfl : l.stackTraces = false) (b : Int32) : vx_Met l yX5_demandIndex wsX5_demandIndex ({ frames := 6, cells := 1, slots := 6, locals := 82 } : Room) (cXc dC dI ((cI, .int) :: (cF, .object RX1) :: tr) sz ([]) (va_A ([]) sz) [.int b]) (va_Qv (fun _ : Unit => (if b = 0 then some xI else none) = none) (fun _ _ => True) (va_A ([]) sz)) (vx_X (fun _ : Unit => True) (fun E _ t => (if b = 0 then some xI else none) = some E) (va_A ([]) sz)) 1 6 (va_A ([]) sz) := by
  refine vx_ofW (cc := cX5_demandIndex) (maxL := 1) (ret := none) (by decide) rfl ?_
  intro p e s m args below meth c s₁ B hml hET hv
  obtain ⟨rfl, hsz, hP, hK, hN, hXE0⟩ := hv
  have hx := B.exec
  have hb := B.bytes
  have hr := B.returns
  have hts := atoms_spec (ws := wsX5_demandIndex) B.pre
  have hown : s.vm.findClass RX5 = some m.cls := findClass_of_methodNamed B.named
  have hlocks := B.notSynchronized
  subst hsz
  generalize hAe : va_A [] s.heap.size = A at hXE0 ⊢
  have hA : ∀ q : Nat, s.heap.size ≤ q → A q := fun q h => by rw [← hAe]; exact Or.inr h
  have hS : va_S A s.heap s.heap [] := va_S.rf
  have hAn : ∀ q : Nat, q < s.heap.size → ¬ A q := fun q h => by rw [← hAe]; exact notZ h
  have hAg : ∀ q : Nat, A q → s.heap.size ≤ q := fun q h => geZ (hAe ▸ h)
  have hR0 : va_P (dC, dI) vwCl ([]) s.heap := hP
  have hR : va_P (dC, dI) vwCl ([]) s.heap := hP
  have hP : va_P (dC, dI) vwCl [] s.heap := fun k q h => by simp at h
  have hD : va_D A [] := ⟨fun i j p q h => by simp at h, fun k q h => by simp at h⟩
  have hl := lv_entry ([.int b]) (n := 1) (Nat.le_of_ble_eq_true rfl)
  rw [lg_entry_eq]
  generalize (lg_sl ([.int b]) ++ List.replicate (1 - (lg_sl ([.int b])).length) Slot.unset).toArray = ls at hl ⊢
  have hl : lv_has ls 1 [(0, .int b)] := hl
  refine lv_iload_n hx hb dX5_demandIndex_0 rfl (lv_at hl 0 rfl) ?_
  refine lv_if_ne (tgt := 15) hx hb dX5_demandIndex_1 (by decide) (fun c_1 => ?_) (fun c_1 => ?_)
  · refine W.widen (k := 1) (n := 6) (by omega) (by omega) ?_
    refine vx_ret ?_
    exact W.vret hx hb hr (fun t ht hW => ⟨⟨(), rfl, (by simp [c_1]), trivial⟩, hS.F ht⟩) hS.2.2 dX5_demandIndex_15
  · obtain ⟨sa9, hsa9⟩ := hXE0.1
    refine vx_throwSW (own := RX5) (cls := xI) (text := "there is no such number") (names := ["java/lang/RuntimeException", "java/lang/Exception"]) (ik := 276) (is := 278) (ic := 280) (A := A) hx hb hfl hown (by decide +kernel) (by decide +kernel) (hts (.classLink RX5 276 xI) (by decide +kernel)) (hts (.initialized xI) (by decide +kernel)) hsa9 (vx_hat (B := [.castable xI xI, .declares (Bundle.initS "java/lang/RuntimeException"), .declares (Bundle.initS "java/lang/Exception"), .declares (Bundle.initS Bundle.tN)]) (fun w hw => hts w (List.mem_cons_of_mem _ (List.mem_append_right _ hw))) (by decide +kernel) (vx_c (va_Nw.use rfl (hN.2.2.1 xI (by decide))) (vx_c (va_Nw.use rfl (hN.2.2.2 _ (List.mem_of_getElem? (i := 0) rfl))) (vx_c (va_Nw.use rfl (hN.2.2.2 _ (List.mem_of_getElem? (i := 1) rfl))) (vx_c (va_Nw.use rfl (hN.2.2.2 _ (List.mem_of_getElem? (i := 2) rfl))) vx_n))))) (by decide +kernel) hXE0.2.2.2.1 hXE0.2.2.2.2 hS (hl.1.trans hml.symm) dX5_demandIndex_4 dX5_demandIndex_7 dX5_demandIndex_8 dX5_demandIndex_11 dX5_demandIndex_14 (fun x hx9 => (hET x hx9).elim) (Nat.le_of_ble_eq_true rfl) (Nat.le_of_ble_eq_true rfl) (Nat.le_of_ble_eq_true rfl) (Nat.le_of_ble_eq_true rfl) hlocks (fun t hvm hz hq => ⟨(), trivial, (by simp [c_1]), Nat.le_trans hS.1 hz, fun q h1 h2 => (hq q (Nat.lt_of_lt_of_le h1 hS.1)).trans (hS.2.1 q h1 h2)⟩) hS.2.2 (by decide) (by decide)

set_option maxHeartbeats 4000000 in
set_option maxRecDepth 100000 in
theorem c_X5_demandArgument (l : Launch) (dC : Nat → ClassId) (dI : Nat → Nat → Nat) (cI cF : ClassId) (tr : List (ClassId × FieldType)) (sz : Nat) (hfl : l.stackTraces = false) (b : Int32) : vx_Met l yX5_demandArgument wsX5_demandArgument ({ frames := 6, cells := 1, slots := 6, locals := 82 } : Room) (cXc dC dI ((cI, .int) :: (cF, .object RX1) :: tr) sz ([]) (va_A ([]) sz) [.int b]) (va_Qv (fun _ : Unit => (if b = 0 then some xA else none) = none) (fun _ _ => True) (va_A ([]) sz)) (vx_X (fun _ : Unit => True) (fun E _ t => (if b = 0 then some xA else none) = some E) (va_A ([]) sz)) 1 6 (va_A ([]) sz) := by
  refine vx_ofW (cc := cX5_demandArgument) (maxL := 1) (ret := none) (by decide) rfl ?_
  intro p e s m args below meth c s₁ B hml hET hv
  obtain ⟨rfl, hsz, hP, hK, hN, hXE0⟩ := hv
  have hx := B.exec
  have hb := B.bytes
  have hr := B.returns
  have hts := atoms_spec (ws := wsX5_demandArgument) B.pre
  have hown : s.vm.findClass RX5 = some m.cls := findClass_of_methodNamed B.named
  have hlocks := B.notSynchronized
  subst hsz
  generalize hAe : va_A [] s.heap.size = A at hXE0 ⊢
  have hA : ∀ q : Nat, s.heap.size ≤ q → A q := fun q h => by rw [← hAe]; exact Or.inr h
  have hS : va_S A s.heap s.heap [] := va_S.rf
  have hAn : ∀ q : Nat, q < s.heap.size → ¬ A q := fun q h => by rw [← hAe]; exact notZ h
  have hAg : ∀ q : Nat, A q → s.heap.size ≤ q := fun q h => geZ (hAe ▸ h)
  have hR0 : va_P (dC, dI) vwCl ([]) s.heap := hP
  have hR : va_P (dC, dI) vwCl ([]) s.heap := hP
  have hP : va_P (dC, dI) vwCl [] s.heap := fun k q h => by simp at h
  have hD : va_D A [] := ⟨fun i j p q h => by simp at h, fun k q h => by simp at h⟩
  have hl := lv_entry ([.int b]) (n := 1) (Nat.le_of_ble_eq_true rfl)
  rw [lg_entry_eq]
  generalize (lg_sl ([.int b]) ++ List.replicate (1 - (lg_sl ([.int b])).length) Slot.unset).toArray = ls at hl ⊢
  have hl : lv_has ls 1 [(0, .int b)] := hl
  refine lv_iload_n hx hb dX5_demandArgument_0 rfl (lv_at hl 0 rfl) ?_
  refine lv_if_ne (tgt := 15) hx hb dX5_demandArgument_1 (by decide) (fun c_1 => ?_) (fun c_1 => ?_)
  · refine W.widen (k := 1) (n := 6) (by omega) (by omega) ?_
    refine vx_ret ?_
    exact W.vret hx hb hr (fun t ht hW => ⟨⟨(), rfl, (by simp [c_1]), trivial⟩, hS.F ht⟩) hS.2.2 dX5_demandArgument_15
  · obtain ⟨sa9, hsa9⟩ := hXE0.2.1
    refine vx_throwSW (own := RX5) (cls := xA) (text := "the argument is not allowed") (names := ["java/lang/RuntimeException", "java/lang/Exception"]) (ik := 283) (is := 285) (ic := 287) (A := A) hx hb hfl hown (by decide +kernel) (by decide +kernel) (hts (.classLink RX5 283 xA) (by decide +kernel)) (hts (.initialized xA) (by decide +kernel)) hsa9 (vx_hat (B := [.castable xA xA, .declares (Bundle.initS "java/lang/RuntimeException"), .declares (Bundle.initS "java/lang/Exception"), .declares (Bundle.initS Bundle.tN)]) (fun w hw => hts w (List.mem_cons_of_mem _ (List.mem_append_right _ hw))) (by decide +kernel) (vx_c (va_Nw.use rfl (hN.2.2.1 xA (by decide))) (vx_c (va_Nw.use rfl (hN.2.2.2 _ (List.mem_of_getElem? (i := 0) rfl))) (vx_c (va_Nw.use rfl (hN.2.2.2 _ (List.mem_of_getElem? (i := 1) rfl))) (vx_c (va_Nw.use rfl (hN.2.2.2 _ (List.mem_of_getElem? (i := 2) rfl))) vx_n))))) (by decide +kernel) hXE0.2.2.2.1 hXE0.2.2.2.2 hS (hl.1.trans hml.symm) dX5_demandArgument_4 dX5_demandArgument_7 dX5_demandArgument_8 dX5_demandArgument_11 dX5_demandArgument_14 (fun x hx9 => (hET x hx9).elim) (Nat.le_of_ble_eq_true rfl) (Nat.le_of_ble_eq_true rfl) (Nat.le_of_ble_eq_true rfl) (Nat.le_of_ble_eq_true rfl) hlocks (fun t hvm hz hq => ⟨(), trivial, (by simp [c_1]), Nat.le_trans hS.1 hz, fun q h1 h2 => (hq q (Nat.lt_of_lt_of_le h1 hS.1)).trans (hS.2.1 q h1 h2)⟩) hS.2.2 (by decide) (by decide)

set_option maxHeartbeats 4000000 in
set_option maxRecDepth 100000 in
theorem c_X5_demandState (l : Launch) (dC : Nat → ClassId) (dI : Nat → Nat → Nat) (cI cF : ClassId) (tr : List (ClassId × FieldType)) (sz : Nat) (hfl : l.stackTraces = false) (b : Int32) : vx_Met l yX5_demandState wsX5_demandState ({ frames := 6, cells := 1, slots := 6, locals := 82 } : Room) (cXc dC dI ((cI, .int) :: (cF, .object RX1) :: tr) sz ([]) (va_A ([]) sz) [.int b]) (va_Qv (fun _ : Unit => (if b = 0 then some xS else none) = none) (fun _ _ => True) (va_A ([]) sz)) (vx_X (fun _ : Unit => True) (fun E _ t => (if b = 0 then some xS else none) = some E) (va_A ([]) sz)) 1 6 (va_A ([]) sz) := by
  refine vx_ofW (cc := cX5_demandState) (maxL := 1) (ret := none) (by decide) rfl ?_
  intro p e s m args below meth c s₁ B hml hET hv
  obtain ⟨rfl, hsz, hP, hK, hN, hXE0⟩ := hv
  have hx := B.exec
  have hb := B.bytes
  have hr := B.returns
  have hts := atoms_spec (ws := wsX5_demandState) B.pre
  have hown : s.vm.findClass RX5 = some m.cls := findClass_of_methodNamed B.named
  have hlocks := B.notSynchronized
  subst hsz
  generalize hAe : va_A [] s.heap.size = A at hXE0 ⊢
  have hA : ∀ q : Nat, s.heap.size ≤ q → A q := fun q h => by rw [← hAe]; exact Or.inr h
  have hS : va_S A s.heap s.heap [] := va_S.rf
  have hAn : ∀ q : Nat, q < s.heap.size → ¬ A q := fun q h => by rw [← hAe]; exact notZ h
  have hAg : ∀ q : Nat, A q → s.heap.size ≤ q := fun q h => geZ (hAe ▸ h)
  have hR0 : va_P (dC, dI) vwCl ([]) s.heap := hP
  have hR : va_P (dC, dI) vwCl ([]) s.heap := hP
  have hP : va_P (dC, dI) vwCl [] s.heap := fun k q h => by simp at h
  have hD : va_D A [] := ⟨fun i j p q h => by simp at h, fun k q h => by simp at h⟩
  have hl := lv_entry ([.int b]) (n := 1) (Nat.le_of_ble_eq_true rfl)
  rw [lg_entry_eq]
  generalize (lg_sl ([.int b]) ++ List.replicate (1 - (lg_sl ([.int b])).length) Slot.unset).toArray = ls at hl ⊢
  have hl : lv_has ls 1 [(0, .int b)] := hl
  refine lv_iload_n hx hb dX5_demandState_0 rfl (lv_at hl 0 rfl) ?_
  refine lv_if_ne (tgt := 15) hx hb dX5_demandState_1 (by decide) (fun c_1 => ?_) (fun c_1 => ?_)
  · refine W.widen (k := 1) (n := 6) (by omega) (by omega) ?_
    refine vx_ret ?_
    exact W.vret hx hb hr (fun t ht hW => ⟨⟨(), rfl, (by simp [c_1]), trivial⟩, hS.F ht⟩) hS.2.2 dX5_demandState_15
  · obtain ⟨sa9, hsa9⟩ := hXE0.2.2.1
    refine vx_throwSW (own := RX5) (cls := xS) (text := "there is no room for more") (names := ["java/lang/RuntimeException", "java/lang/Exception"]) (ik := 288) (is := 290) (ic := 292) (A := A) hx hb hfl hown (by decide +kernel) (by decide +kernel) (hts (.classLink RX5 288 xS) (by decide +kernel)) (hts (.initialized xS) (by decide +kernel)) hsa9 (vx_hat (B := [.castable xS xS, .declares (Bundle.initS "java/lang/RuntimeException"), .declares (Bundle.initS "java/lang/Exception"), .declares (Bundle.initS Bundle.tN)]) (fun w hw => hts w (List.mem_cons_of_mem _ (List.mem_append_right _ hw))) (by decide +kernel) (vx_c (va_Nw.use rfl (hN.2.2.1 xS (by decide))) (vx_c (va_Nw.use rfl (hN.2.2.2 _ (List.mem_of_getElem? (i := 0) rfl))) (vx_c (va_Nw.use rfl (hN.2.2.2 _ (List.mem_of_getElem? (i := 1) rfl))) (vx_c (va_Nw.use rfl (hN.2.2.2 _ (List.mem_of_getElem? (i := 2) rfl))) vx_n))))) (by decide +kernel) hXE0.2.2.2.1 hXE0.2.2.2.2 hS (hl.1.trans hml.symm) dX5_demandState_4 dX5_demandState_7 dX5_demandState_8 dX5_demandState_11 dX5_demandState_14 (fun x hx9 => (hET x hx9).elim) (Nat.le_of_ble_eq_true rfl) (Nat.le_of_ble_eq_true rfl) (Nat.le_of_ble_eq_true rfl) (Nat.le_of_ble_eq_true rfl) hlocks (fun t hvm hz hq => ⟨(), trivial, (by simp [c_1]), Nat.le_trans hS.1 hz, fun q h1 h2 => (hq q (Nat.lt_of_lt_of_le h1 hS.1)).trans (hS.2.1 q h1 h2)⟩) hS.2.2 (by decide) (by decide)

set_option maxHeartbeats 4000000 in
set_option maxRecDepth 100000 in
theorem c_X5_demandAxle (l : Launch) (dC : Nat → ClassId) (dI : Nat → Nat → Nat) (cI cF : ClassId) (tr : List (ClassId × FieldType)) (sz : Nat) (hfl : l.stackTraces = false) (i : Int32) : vx_Met l yX5_demandAxle wsX5_demandAxle ({ frames := 7, cells := 1, slots := 6, locals := 102 } : Room) (cXc dC dI ((cI, .int) :: (cF, .object RX1) :: tr) sz ([]) (va_A ([]) sz) [.int i]) (va_Qv (fun _ : Unit => (if withinF i 0 6 = 0 then some xI else none) = none) (fun _ _ => True) (va_A ([]) sz)) (vx_X (fun _ : Unit => True) (fun E _ t => (if withinF i 0 6 = 0 then some xI else none) = some E) (va_A ([]) sz)) 1 6 (va_A ([]) sz) := by
  refine vx_ofW (cc := cX5_demandAxle) (maxL := 1) (ret := none) (by decide) rfl ?_
  intro p e s m args below meth c s₁ B hml hET hv
  obtain ⟨rfl, hsz, hP, hK, hN, hXE0⟩ := hv
  have hx := B.exec
  have hb := B.bytes
  have hr := B.returns
  have hts := atoms_spec (ws := wsX5_demandAxle) B.pre
  have hown : s.vm.findClass RX5 = some m.cls := findClass_of_methodNamed B.named
  have hlocks := B.notSynchronized
  subst hsz
  generalize hAe : va_A [] s.heap.size = A at hXE0 ⊢
  have hA : ∀ q : Nat, s.heap.size ≤ q → A q := fun q h => by rw [← hAe]; exact Or.inr h
  have hS : va_S A s.heap s.heap [] := va_S.rf
  have hAn : ∀ q : Nat, q < s.heap.size → ¬ A q := fun q h => by rw [← hAe]; exact notZ h
  have hAg : ∀ q : Nat, A q → s.heap.size ≤ q := fun q h => geZ (hAe ▸ h)
  have hR0 : va_P (dC, dI) vwCl ([]) s.heap := hP
  have hR : va_P (dC, dI) vwCl ([]) s.heap := hP
  have hP : va_P (dC, dI) vwCl [] s.heap := fun k q h => by simp at h
  have hD : va_D A [] := ⟨fun i j p q h => by simp at h, fun k q h => by simp at h⟩
  have hl := lv_entry ([.int i]) (n := 1) (Nat.le_of_ble_eq_true rfl)
  rw [lg_entry_eq]
  generalize (lg_sl ([.int i]) ++ List.replicate (1 - (lg_sl ([.int i])).length) Slot.unset).toArray = ls at hl ⊢
  have hl : lv_has ls 1 [(0, .int i)] := hl
  refine lv_iload_n hx hb dX5_demandAxle_0 rfl (lv_at hl 0 rfl) ?_
  refine lv_iconst (v := 0) hx hb dX5_demandAxle_1 (by decide) ?_
  refine lv_bipush (v := 6) hx hb dX5_demandAxle_2 (by decide) ?_
  have hPc : va_P (dC, dI) vwCl [] s.heap := nilP
  have hFc := frZ hS hA
  refine va_calli (va_runS (As := [.int i, .int 0, .int 6]) (rest := []) ⟨hx, hb, hml, hown, hts⟩ (c_X5_isWithin l dC dI cI cF tr (s.heap).size i 0 6) (va_cwS 3 hts gX5_demandAxle_X5_isWithin rfl rfl rfl (by decide +kernel) ⟨Nat.le_of_ble_eq_true rfl, Nat.le_of_ble_eq_true rfl⟩) ⟨cBl, (cPre hPc hK hN)⟩ rfl rfl hl.1 rfl (lv_room (Nat.le_of_ble_eq_true rfl)) dX5_demandAxle_4 ⟨(Nat.le_of_ble_eq_true rfl), (Nat.le_of_ble_eq_true rfl)⟩) hS (fun q _ h => hFc q h) hFc (fun r_1 u t H1 locs ht hvm hw_r_1 hB hz1 hk1 hS => ?_)
  refine W.widen (k := 0) (n := 0) (Nat.le_refl _) (Nat.le_refl _) ?_
  have hP := keepP hP hk1
  have hR := keepP hR hk1
  generalize H1 = H at hP hR hS ⊢
  have hP : va_P (dC, dI) vwCl ([]) H := hP
  try dsimp only at hw_r_1
  subst hw_r_1
  have hPc : va_P (dC, dI) vwCl [] H := nilP
  have hFc := frZ hS hA
  refine vx_callv (vx_runS (As := [.int (withinF i 0 6)]) (rest := []) ⟨hx, hb, hml, hown, hts⟩ (c_X5_demandIndex l dC dI cI cF tr (H).size hfl (withinF i 0 6)) (va_cwS 1 hts gX5_demandAxle_X5_demandIndex rfl rfl rfl (by decide +kernel) ⟨Nat.le_of_ble_eq_true rfl, Nat.le_of_ble_eq_true rfl⟩) ⟨cXbl, (cXpre hPc hK hN (hXE0.kept hS) hFc)⟩ rfl rfl hl.1 rfl (lv_room (Nat.le_of_ble_eq_true rfl)) dX5_demandAxle_7 ⟨(Nat.le_of_ble_eq_true rfl), (Nat.le_of_ble_eq_true rfl)⟩) hS (fun q _ h => hFc q h) hFc (fun q _ h => hFc q h) (fun E9 ce9 q9 u9 t9 H9 locs9 ht9 hvm9 hpx9 hBX9 hz9 hk9 hS9 hce9 hcv9 hcl9 => ?_) (fun u t H1 locs ht hvm hw_r_2 hB hz1 hk1 hS => ?_)
  · obtain ⟨hp9, rfl⟩ := exSome hBX9
    exact vx_out (fun x hx9 => (hET x hx9).elim) hlocks hce9 hcv9 hcl9 (fun t ht hvm => ⟨(), trivial, (by first | (simp [hp9]; done) | exact absurd hp9 (by decide)), hS9.F (ht.trans rfl)⟩) hS9.2.2 (by omega) (by omega)
  refine W.widen (k := 1) (n := 6) (by omega) (by omega) ?_
  have hP := keepP hP hk1
  have hR := keepP hR hk1
  generalize H1 = H at hP hR hS ⊢
  have hP : va_P (dC, dI) vwCl ([]) H := hP
  try dsimp only at hw_r_2
  have hn_3 := hw_r_2
  have hn_3 := exNone hn_3
  refine W.widen (k := 1) (n := 6) (by omega) (by omega) ?_
  refine vx_ret ?_
  exact W.vret hx hb hr (fun t ht hW => ⟨⟨(), rfl, (by simp [hn_3]), trivial⟩, hS.F ht⟩) hS.2.2 dX5_demandAxle_10
