abbrev iX0 : Nat := 0
abbrev iX1 : Nat := 1
abbrev iX2 : Nat := 2
abbrev iX3 : Nat := 3
abbrev iX4 : Nat := 4
abbrev iX5 : Nat := 5
/-! what all contracts share: the start of a method, calls that change nothing of their caller's, fractions in a pool -/
def nestL : List (String × Nat × MethodName) := [(RX0, 22, yX5_isIn), (RX0, 26, yX5_at), (RX0, 30, yX5_put), (RX1, 7, yX5_commonDivisor), (RX2, 48, yX5_put), (RX2, 52, yX5_at), (RX2, 63, yX5_isIn), (RX2, 99, yX5_commonDivisor), (RX3, 37, yX5_at), (RX3, 45, yX5_put)]
/-- the links to a nest mate's private methods -/
abbrev xI : String := "java/lang/IndexOutOfBoundsException"
abbrev xA : String := "java/lang/IllegalArgumentException"
abbrev xS : String := "java/lang/IllegalStateException"
def NW (U : State) : Prop := (∀ q ∈ nestL, va_Nw (.methodLinkNest q.1 q.2.1 q.2.2 RX5) U) ∧ va_AO RX1 U ∧ (∀ E ∈ [xI, xA, xS], va_Nw (.castable E E) U) ∧ ∀ E ∈ (["java/lang/RuntimeException", "java/lang/Exception", Bundle.tN] : List String), va_Nw (.declares (Bundle.initS E)) U
theorem NW.warm {s U : State} (hW : s.WarmedH U.vm) (h : NW s) : NW U := ⟨fun q hq => va_Nw.warmM hW (h.1 q hq), va_AO.moved hW.alike h.2.1, fun E hE => va_Nw.warmC hW (h.2.2.1 E hE), fun E hE => va_Nw.warmD hW (h.2.2.2 E hE)⟩
theorem NW.call {U : State} {g : JFrame} {mk : MethodId} {a : Array Value} (h : NW U) : NW (U.calling g mk a) := ⟨fun q hq => va_Nw.same rfl rfl (h.1 q hq), va_AO.moved (Vm.Alike.refl U.vm) h.2.1, fun E hE => va_Nw.same rfl rfl (h.2.2.1 E hE), fun E hE => va_Nw.same rfl rfl (h.2.2.2 E hE)⟩
theorem nwAt {U : State} (h : NW U) (q : String × Nat × MethodName) (hq : q ∈ nestL) : va_Nw (.methodLinkNest q.1 q.2.1 q.2.2 RX5) U := h.1 q hq
theorem aoAt {U : State} (h : NW U) : va_AO RX1 U := h.2.1
theorem raEq {U : State} {cA cB : ClassId} {ty : FieldType} (h1 : va_RA U cA ty) (h2 : va_RA U cB ty) : cA = cB := by
  cases ty with
  | object C =>
    obtain ⟨_, _, _, _, _, q1⟩ := h1
    obtain ⟨_, _, _, _, _, q2⟩ := h2
    exact Option.some.inj (q1.symm.trans q2)
  | _ => exact Option.some.inj (Eq.trans (Eq.symm h1) h2)
theorem tyEq {D : va_G} {cl : List vw_C} {tys : List (ClassId × FieldType)} {s : State} {cA cB : ClassId} {ty : FieldType} (h1 : va_K D cl (tys ++ [(cA, ty)]) s) (h2 : va_K D cl tys s) (k : Nat) (hk : tys[k]? = some (cB, ty)) : cA = cB := raEq (h1.2 tys.length (cA, ty) (by simp)).2 (h2.2 k _ hk).2
def cPc (dC : Nat → ClassId) (dI : Nat → Nat → Nat) (tys : List (ClassId × FieldType)) (sz : Nat) (ws : va_W) (av : List Value) : Array Value → State → Prop := va_Pc av (fun U => U.heap.size = sz ∧ va_P (dC, dI) vwCl ws U.heap ∧ va_K (dC, dI) vwCl tys U ∧ NW U)
def cPd (dC : Nat → ClassId) (dI : Nat → Nat → Nat) (tys : List (ClassId × FieldType)) (sz : Nat) (ws : va_W) (av : List Value) : Array Value → State → Prop := va_Pc av (fun U => U.heap.size = sz ∧ va_P (dC, dI) vwCl ws U.heap ∧ va_K (dC, dI) vwCl tys U ∧ NW U ∧ va_D (fun _ => True) ws)
/-- a method of a JDK class of which some other methods are native -/
theorem ofWF {l : Launch} {y : MethodName} {ws ws' : List Cond} {rm : Room} {Pc : Array Value → State → Prop} {Qc : Array Value → State → Outcome → State → Prop} {mc ms : Nat} {free : Addr → Prop} {cc : ByteArray} {maxL : Nat} {ret : Option FieldType}
    (hy : plainFor y = true) (hw : ws = Cond.code y cc maxL ret :: ws')
    (body : ∀ p e s m args below meth c s₁, BodyLoose p l y (headSpec ws rm) cc maxL ret e s m args below meth c s₁ → c.maxLocals = maxL → Pc args s →
      W p l e (headSpec ws rm).room s m args below meth c s.heap [] 0 0 (MQ below Qc args s mc ms free) (entryFrame m args maxL)) : Met l y ws rm Pc Qc mc ms free := by
  refine MetFree.of_bodySF (code := cc) (maxLocals := maxL) (ret := ret) hy ?_ ?_
  · intro args s m h hn
    obtain ⟨meth, c, h1, h2, h3, h4, h5, h6, -, -⟩ := Cond.code_spec hn (atoms_spec (ws := ws) h _ (by rw [hw]; exact List.mem_cons_self))
    exact ⟨meth, c, h1, h2, h3, h4, h5, h6⟩
  · intro p e s m args below meth c s₁ B hml hP _
    have hh0 : s₁.heap = s.heap := by rw [B.state]; rfl
    obtain ⟨t, a1, o, b1, b2, b3⟩ := body p e s m args below meth c s₁ B hml hP s₁ hh0 (Stand.of_body B)
    exact ⟨t, o, a1, b1, b2, ⟨b3.1, b3.2⟩⟩
section CB
variable {dC : Nat → ClassId} {dI : Nat → Nat → Nat} {tys : List (ClassId × FieldType)} {sz : Nat} {ws : va_W} {av : List Value} {s : State} {H H0 H1 : Heap} {A : Nat → Prop} {locs : List Loc}
theorem cBl : FrameBlind (cPc dC dI tys sz ws av) := fun a U g mk q => by
  obtain ⟨q0, q1, qP, qK, qN⟩ := q
  exact ⟨q0, q1, qP, va_K.moved (u := U) (U := U.calling g mk a) (Vm.Alike.refl U.vm) qK, NW.call qN⟩
theorem cDbl : FrameBlind (cPd dC dI tys sz ws av) := fun a U g mk q => by
  obtain ⟨q0, q1, qP, qK, qN, qD⟩ := q
  exact ⟨q0, q1, qP, va_K.moved (u := U) (U := U.calling g mk a) (Vm.Alike.refl U.vm) qK, NW.call qN, qD⟩
theorem cPre (hP : va_P (dC, dI) vwCl ws H) (hK : va_K (dC, dI) vwCl tys s) (hN : NW s) : ∀ U : State, U.heap = H → s.WarmedH U.vm → cPc dC dI tys H.size ws av av.toArray U := fun U hU hW => ⟨rfl, by rw [hU], by rw [hU]; exact hP, va_K.moved hW.alike hK, NW.warm hW hN⟩
theorem cDpre (hP : va_P (dC, dI) vwCl ws H) (hK : va_K (dC, dI) vwCl tys s) (hN : NW s) (hD : va_D (fun _ => True) ws) : ∀ U : State, U.heap = H → s.WarmedH U.vm → cPd dC dI tys H.size ws av av.toArray U := fun U hU hW => ⟨rfl, by rw [hU], by rw [hU]; exact hP, va_K.moved hW.alike hK, NW.warm hW hN, hD⟩
theorem frZ (hS : va_S A H0 H locs) (hA : ∀ q : Nat, H0.size ≤ q → A q) : ∀ q, va_A [] H.size q → A q := by
  intro q h
  rcases h with ⟨k, e, h⟩ | h
  · simp at h
  · exact hA q (Nat.le_trans hS.1 h)
theorem keepP (h : va_P (dC, dI) vwCl ws H) (hk : ∀ q : Nat, q < H.size → ¬ va_A [] H.size q → H1[q]? = H[q]?) : va_P (dC, dI) vwCl ws H1 := h.kept fun k q hq => hk q.1 (h k q hq).lt (by
  intro z
  rcases z with ⟨k, e, z⟩ | z
  · simp at z
  · exact absurd (h _ q hq).lt (Nat.not_lt.mpr z))
theorem notZ {n q : Nat} (h : q < n) : ¬ va_A [] n q := by
  intro z
  rcases z with ⟨k, e, z⟩ | z
  · simp at z
  · exact absurd h (Nat.not_lt.mpr z)
theorem geZ {n q : Nat} (z : va_A [] n q) : n ≤ q := by
  rcases z with ⟨k, e, z⟩ | z
  · simp at z
  · exact z
theorem keepR (h : va_P (dC, dI) vwCl ws H0) (hS : va_S A H0 H locs) (hn : ∀ q : Nat, q < H0.size → ¬ A q) : va_P (dC, dI) vwCl ws H := h.kept fun k q hq => hS.2.1 q.1 (h k q hq).lt (hn _ (h k q hq).lt)
theorem nilP : va_P (dC, dI) vwCl [] H := fun k q h => by simp at h
theorem rfOr (r : Option Nat) : va_rf r = .null ∨ ∃ a, va_rf r = .ref a := by
  cases r with
  | none => exact Or.inl rfl
  | some a => exact Or.inr ⟨a, rfl⟩
theorem leK {a b : Nat} (ha : a < 2 ^ 31) (hb : b < 2 ^ 31) (c : nI a ≤ nI b) : a ≤ b := (nI_leI ha hb).mp c
theorem ltK {a b : Nat} (ha : a < 2 ^ 31) (hb : b < 2 ^ 31) (c : ¬ nI a ≤ nI b) : b < a := Nat.lt_of_not_le fun h => c ((nI_leI ha hb).mpr h)
def absI (x : Int32) : Int32 := if 0 ≤ x then x else 0 - x
/-- the fractions of a pool, by their addresses -/
def fe (v : Nat → Int64 × Int64) : Nat → va_E := fun a => .inr (iX1, [.long (v a).1, .long (v a).2])
theorem poolP {X : va_W} {LP : List Nat} {v : Nat → Int64 × Int64} (h : va_P (dC, dI) vwCl (X ++ va_pl LP (fe v)) H) {a : Nat} (ha : a ∈ LP) : va_P (dC, dI) vwCl [(a, .inr (iX1, [.long (v a).1, .long (v a).2]))] H := by
  obtain ⟨k, hk⟩ := va_pl_get (X := X) (f := fe v) ha
  intro i q hq
  match i, hq with
  | 0, hq => cases hq; exact h k _ hk
  | i + 1, hq => simp at hq
/-- what a call has made joins the world -/
theorem pushD {W : va_W} {r : Nat} {e : va_E} (hD : va_D A W) (hP : va_P (dC, dI) vwCl W H) (h : H.size ≤ r) (hr : A r) : va_D A (W ++ [(r, e)]) := by
  refine va_D.app hD ⟨fun i j p q hi hj _ => ?_, fun k q hq => ?_⟩ (fun i j p q hi hj z => ?_)
  · have h1 := (List.getElem?_eq_some_iff.mp hi).1
    have h2 := (List.getElem?_eq_some_iff.mp hj).1
    simp at h1 h2
    omega
  · have h1 := List.mem_of_getElem? hq
    simp at h1
    rw [h1]
    exact hr
  · have h1 := (hP i p hi).lt
    have h2 := List.mem_of_getElem? hj
    simp at h2
    rw [h2] at z
    simp at z
    omega
theorem pushE {X : va_W} {LP : List Nat} {v : Nat → Int64 × Int64} {r : Nat} {u w : Int64} (h : r ∉ LP) : (X ++ va_pl LP (fe v)) ++ [(r, .inr (iX1, [.long u, .long w]))] = X ++ va_pl (LP ++ [r]) (fe (va_up v r (u, w))) := by
  rw [List.append_assoc, va_pl_push h]
  refine congrArg (X ++ ·) (va_pl_congr fun a => ?_)
  by_cases ha : a = r
  · subst ha
    simp [va_up, fe]
  · simp [va_up, fe, ha]
theorem freshL {X : va_W} {LP : List Nat} {v : Nat → Int64 × Int64} {r : Nat} (hP : va_P (dC, dI) vwCl (X ++ va_pl LP (fe v)) H) (h : H.size ≤ r) : r ∉ LP := va_pl_fresh hP h
end CB

/-! the class's small static methods -/
def atF (n : Nat) (f : Nat → Int32) (i : Int32) : Int32 := if i < 0 then 0 else if nI n ≤ i then 0 else f i.toNatClampNeg
def putF (n : Nat) (f : Nat → Int32) (i x : Int32) : Nat → Int32 := if i < 0 then f else if nI n ≤ i then f else upd f i.toNatClampNeg x
def isInF (s m : Int32) : Int32 := if (s >>> (m &&& 31)) &&& 1 = 1 then 1 else 0
def withinF (v a b : Int32) : Int32 := if v < a then 0 else if b < v then 0 else 1
def cdL : Nat → Int64 → Int64 → Int64
  | 0, a, _ => a
  | k + 1, a, b => if b = 0 then a else cdL k b (a - a / b * b)
def cdF (x y : Int64) : Int64 := cdL 1000 (if x < 0 then -x else x) (if y < 0 then -y else y)
theorem ab0 {x : Int64} (c : 0 ≤ x) : x = if x < 0 then -x else x := (if_neg (Int64.not_lt.mpr c)).symm
theorem ab1 {x : Int64} (c : ¬ 0 ≤ x) : -x = if x < 0 then -x else x := (if_pos (Int64.not_le.mp c)).symm
theorem isInF_01 (s m : Int32) : narrow .boolean (.int (isInF s m)) = .int (isInF s m) := by
  unfold isInF
  split <;> rfl
theorem vpin_of {i : Int32} {n : Nat} (hn : n < 2 ^ 31) (h0 : ¬ i < 0) (h1 : ¬ nI n ≤ i) : vp_in i n := by
  obtain ⟨j, hj, rfl⟩ := nI_of h0
  have : ¬ n ≤ j := fun h => h1 ((nI_leI hn hj).mpr h)
  exact vp_in_nI (by omega) hn

set_option maxHeartbeats 4000000 in
set_option maxRecDepth 100000 in
theorem c_X5_isWithin (l : Launch) (dC : Nat → ClassId) (dI : Nat → Nat → Nat) (cI cF : ClassId) (tr : List (ClassId × FieldType)) (sz : Nat) (v : Int32) (a : Int32) (b : Int32) : Met l yX5_isWithin wsX5_isWithin ({ frames := 0, cells := 0, slots := 0, locals := 0 } : Room) (cPc dC dI ((cI, .int) :: (cF, .object RX1) :: tr) sz ([]) [.int v, .int a, .int b]) (va_Qi (fun (r : Int32) (_ : Unit) => r = withinF v a b) (fun _ _ => True) (va_A ([]) sz)) 0 0 (va_A ([]) sz) := by
  refine Met.ofW (cc := cX5_isWithin) (maxL := 3) (ret := (some .boolean)) (by decide) rfl ?_
  intro p e s m args below meth c s₁ B hml hv
  obtain ⟨rfl, hsz, hP, hK, hN⟩ := hv
  have hx := B.exec
  have hb := B.bytes
  have hr := B.returns
  have hts := atoms_spec (ws := wsX5_isWithin) B.pre
  have hown : s.vm.findClass RX5 = some m.cls := findClass_of_methodNamed B.named
  have hlocks := B.notSynchronized
  subst hsz
  generalize hAe : va_A [] s.heap.size = A
  have hA : ∀ q : Nat, s.heap.size ≤ q → A q := fun q h => by rw [← hAe]; exact Or.inr h
  have hS : va_S A s.heap s.heap [] := va_S.rf
  have hAn : ∀ q : Nat, q < s.heap.size → ¬ A q := fun q h => by rw [← hAe]; exact notZ h
  have hAg : ∀ q : Nat, A q → s.heap.size ≤ q := fun q h => geZ (hAe ▸ h)
  have hR0 : va_P (dC, dI) vwCl ([]) s.heap := hP
  have hR : va_P (dC, dI) vwCl ([]) s.heap := hP
  have hP : va_P (dC, dI) vwCl [] s.heap := fun k q h => by simp at h
  have hD : va_D A [] := ⟨fun i j p q h => by simp at h, fun k q h => by simp at h⟩
  have hl := lv_entry ([.int v, .int a, .int b]) (n := 3) (Nat.le_of_ble_eq_true rfl)
  rw [lg_entry_eq]
  generalize (lg_sl ([.int v, .int a, .int b]) ++ List.replicate (3 - (lg_sl ([.int v, .int a, .int b])).length) Slot.unset).toArray = ls at hl ⊢
  have hl : lv_has ls 3 [(0, .int v), (1, .int a), (2, .int b)] := hl
  refine lv_iload_n hx hb dX5_isWithin_0 rfl (lv_at hl 0 rfl) ?_
  refine lv_iload_n hx hb dX5_isWithin_1 rfl (lv_at hl 1 rfl) ?_
  refine lv_icmp_lt (tgt := 14) hx hb dX5_isWithin_2 (by decide) (fun c_1 => ?_) (fun c_1 => ?_)
  · refine lv_iconst (v := 0) hx hb dX5_isWithin_14 (by decide) ?_
    refine W.widen (k := 0) (n := 0) (by omega) (by omega) ?_
    exact W.zret (v := 0) hx hb hr (by first | rfl | simp [narrow] | assumption) (fun t ht hW => ⟨⟨0, (), rfl, (by first | (simp [withinF, c_1]; done) | contradiction), trivial⟩, hS.F ht⟩) hS.2.2 dX5_isWithin_15
  · refine lv_iload_n hx hb dX5_isWithin_5 rfl (lv_at hl 0 rfl) ?_
    refine lv_iload_n hx hb dX5_isWithin_6 rfl (lv_at hl 2 rfl) ?_
    refine lv_icmp_gt (tgt := 14) hx hb dX5_isWithin_7 (by decide) (fun c_2 => ?_) (fun c_2 => ?_)
    · refine lv_iconst (v := 0) hx hb dX5_isWithin_14 (by decide) ?_
      refine W.widen (k := 0) (n := 0) (by omega) (by omega) ?_
      exact W.zret (v := 0) hx hb hr (by first | rfl | simp [narrow] | assumption) (fun t ht hW => ⟨⟨0, (), rfl, (by first | (simp [withinF, c_1, c_2]; done) | contradiction), trivial⟩, hS.F ht⟩) hS.2.2 dX5_isWithin_15
    · refine lv_iconst (v := 1) hx hb dX5_isWithin_10 (by decide) ?_
      refine lv_goto (tgt := 15) hx hb dX5_isWithin_11 (by decide) ?_
      refine W.widen (k := 0) (n := 0) (by omega) (by omega) ?_
      exact W.zret (v := 1) hx hb hr (by first | rfl | simp [narrow] | assumption) (fun t ht hW => ⟨⟨1, (), rfl, (by first | (simp [withinF, c_1, c_2]; done) | contradiction), trivial⟩, hS.F ht⟩) hS.2.2 dX5_isWithin_15

set_option maxHeartbeats 4000000 in
set_option maxRecDepth 100000 in
theorem c_X5_at (l : Launch) (dC : Nat → ClassId) (dI : Nat → Nat → Nat) (cI cF : ClassId) (tr : List (ClassId × FieldType)) (sz : Nat) (h : Nat) (n : Nat) (f : Nat → Int32) (i : Int32) (hn : n < 2 ^ 31) : Met l yX5_at wsX5_at ({ frames := 0, cells := 0, slots := 0, locals := 0 } : Room) (cPc dC dI ((cI, .int) :: (cF, .object RX1) :: tr) sz ([(h, .inl (cI, n, .inl (f)))]) [.ref h, .int i]) (va_Qi (fun (r : Int32) (_ : Unit) => r = atF n f i) (fun _ _ => True) (va_A ([]) sz)) 0 0 (va_A ([]) sz) := by
  refine Met.ofW (cc := cX5_at) (maxL := 2) (ret := (some .int)) (by decide) rfl ?_
  intro p e s m args below meth c s₁ B hml hv
  obtain ⟨rfl, hsz, hP, hK, hN⟩ := hv
  have hx := B.exec
  have hb := B.bytes
  have hr := B.returns
  have hts := atoms_spec (ws := wsX5_at) B.pre
  have hown : s.vm.findClass RX5 = some m.cls := findClass_of_methodNamed B.named
  have hlocks := B.notSynchronized
  subst hsz
  generalize hAe : va_A [] s.heap.size = A
  have hA : ∀ q : Nat, s.heap.size ≤ q → A q := fun q h => by rw [← hAe]; exact Or.inr h
  have hS : va_S A s.heap s.heap [] := va_S.rf
  have hAn : ∀ q : Nat, q < s.heap.size → ¬ A q := fun q h => by rw [← hAe]; exact notZ h
  have hAg : ∀ q : Nat, A q → s.heap.size ≤ q := fun q h => geZ (hAe ▸ h)
  have hR0 : va_P (dC, dI) vwCl ([(h, .inl (cI, n, .inl (f)))]) s.heap := hP
  have hR : va_P (dC, dI) vwCl ([(h, .inl (cI, n, .inl (f)))]) s.heap := hP
  have hP : va_P (dC, dI) vwCl [] s.heap := fun k q h => by simp at h
  have hD : va_D A [] := ⟨fun i j p q h => by simp at h, fun k q h => by simp at h⟩
  have hl := lv_entry ([.ref h, .int i]) (n := 2) (Nat.le_of_ble_eq_true rfl)
  rw [lg_entry_eq]
  generalize (lg_sl ([.ref h, .int i]) ++ List.replicate (2 - (lg_sl ([.ref h, .int i])).length) Slot.unset).toArray = ls at hl ⊢
  have hl : lv_has ls 2 [(0, .ref h), (1, .int i)] := hl
  refine lv_iload_n hx hb dX5_at_0 rfl (lv_at hl 1 rfl) ?_
  refine lv_if_lt (tgt := 16) hx hb dX5_at_1 (by decide) (fun c_1 => ?_) (fun c_1 => ?_)
  · refine lv_iconst (v := 0) hx hb dX5_at_16 (by decide) ?_
    refine W.widen (k := 0) (n := 0) (by omega) (by omega) ?_
    exact W.iret (v := 0) hx hb hr (fun t ht hW => ⟨⟨0, (), rfl, (by first | (simp [atF, c_1]; done) | contradiction), trivial⟩, hS.F ht⟩) hS.2.2 dX5_at_17
  · refine lv_iload_n hx hb dX5_at_4 rfl (lv_at hl 1 rfl) ?_
    refine lv_aload_n hx hb dX5_at_5 rfl (lv_at hl 0 rfl) ?_
    refine va_alen (D := (dC, dI)) (v := nI n) hx hb hK hR 0 0 rfl rfl rfl dX5_at_6 ?_
    refine lv_icmp_ge (tgt := 16) hx hb dX5_at_7 (by decide) (fun c_2 => ?_) (fun c_2 => ?_)
    · refine lv_iconst (v := 0) hx hb dX5_at_16 (by decide) ?_
      refine W.widen (k := 0) (n := 0) (by omega) (by omega) ?_
      exact W.iret (v := 0) hx hb hr (fun t ht hW => ⟨⟨0, (), rfl, (by first | (simp [atF, c_1, c_2]; done) | contradiction), trivial⟩, hS.F ht⟩) hS.2.2 dX5_at_17
    · refine lv_aload_n hx hb dX5_at_10 rfl (lv_at hl 0 rfl) ?_
      refine lv_iload_n hx hb dX5_at_11 rfl (lv_at hl 1 rfl) ?_
      refine va_iald (D := (dC, dI)) hx hb hK hR 0 0 rfl rfl (vpin_of hn c_1 c_2) dX5_at_12 ?_
      refine lv_goto (tgt := 17) hx hb dX5_at_13 (by decide) ?_
      refine W.widen (k := 0) (n := 0) (by omega) (by omega) ?_
      exact W.iret (v := f (i).toNatClampNeg) hx hb hr (fun t ht hW => ⟨⟨f (i).toNatClampNeg, (), rfl, (by first | (simp [atF, c_1, c_2]; done) | contradiction), trivial⟩, hS.F ht⟩) hS.2.2 dX5_at_17

set_option maxHeartbeats 4000000 in
set_option maxRecDepth 100000 in
theorem c_X5_put (l : Launch) (dC : Nat → ClassId) (dI : Nat → Nat → Nat) (cI cF : ClassId) (tr : List (ClassId × FieldType)) (sz : Nat) (h : Nat) (n : Nat) (f : Nat → Int32) (i : Int32) (x : Int32) (hn : n < 2 ^ 31) : Met l yX5_put wsX5_put ({ frames := 0, cells := 0, slots := 0, locals := 0 } : Room) (cPd dC dI ((cI, .int) :: (cF, .object RX1) :: tr) sz ([(h, .inl (cI, n, .inl (f)))]) [.ref h, .int i, .int x]) (va_Qv (fun _ : Unit => True) (fun _ t => va_P (dC, dI) vwCl ([(h, .inl (cI, n, .inl (putF n f i x)))]) t.heap ∧ va_D (va_A ([(h, .inl (cI, n, .inl (f)))]) sz) ([(h, .inl (cI, n, .inl (putF n f i x)))])) (va_A ([(h, .inl (cI, n, .inl (f)))]) sz)) 0 0 (va_A ([(h, .inl (cI, n, .inl (f)))]) sz) := by
  refine Met.ofW (cc := cX5_put) (maxL := 3) (ret := none) (by decide) rfl ?_
  intro p e s m args below meth c s₁ B hml hv
  obtain ⟨rfl, hsz, hP, hK, hN, hD0⟩ := hv
  have hx := B.exec
  have hb := B.bytes
  have hr := B.returns
  have hts := atoms_spec (ws := wsX5_put) B.pre
  have hown : s.vm.findClass RX5 = some m.cls := findClass_of_methodNamed B.named
  have hlocks := B.notSynchronized
  subst hsz
  have hD := hD0.self (sz := s.heap.size)
  generalize hAe : va_A ([(h, .inl (cI, n, .inl (f)))]) s.heap.size = A at hD ⊢
  have hA : ∀ q : Nat, s.heap.size ≤ q → A q := fun q h => by rw [← hAe]; exact Or.inr h
  have hS : va_S A s.heap s.heap [] := va_S.rf
  have hP : va_P (dC, dI) vwCl ([(h, .inl (cI, n, .inl (f)))]) s.heap := hP
  have hl := lv_entry ([.ref h, .int i, .int x]) (n := 3) (Nat.le_of_ble_eq_true rfl)
  rw [lg_entry_eq]
  generalize (lg_sl ([.ref h, .int i, .int x]) ++ List.replicate (3 - (lg_sl ([.ref h, .int i, .int x])).length) Slot.unset).toArray = ls at hl ⊢
  have hl : lv_has ls 3 [(0, .ref h), (1, .int i), (2, .int x)] := hl
  refine lv_iload_n hx hb dX5_put_0 rfl (lv_at hl 1 rfl) ?_
  refine lv_if_lt (tgt := 14) hx hb dX5_put_1 (by decide) (fun c_1 => ?_) (fun c_1 => ?_)
  · refine W.widen (k := 0) (n := 0) (by omega) (by omega) ?_
    have eq_2 : ([(h, .inl (cI, n, .inl (f)))] : va_W) = [(h, .inl (cI, n, .inl (putF n f i x)))] := (by first | rfl | (simp [putF, c_1]; done) | contradiction)
    rw [eq_2] at hP hD
    exact W.vret hx hb hr (fun t ht hW => ⟨⟨(), rfl, trivial, ⟨by rw [ht]; exact hP, hAe ▸ hD⟩⟩, hS.F ht⟩) hS.2.2 dX5_put_14
  · refine lv_iload_n hx hb dX5_put_4 rfl (lv_at hl 1 rfl) ?_
    refine lv_aload_n hx hb dX5_put_5 rfl (lv_at hl 0 rfl) ?_
    refine va_alen (D := (dC, dI)) (v := nI n) hx hb hK hP 0 0 rfl rfl rfl dX5_put_6 ?_
    refine lv_icmp_ge (tgt := 14) hx hb dX5_put_7 (by decide) (fun c_3 => ?_) (fun c_3 => ?_)
    · refine W.widen (k := 0) (n := 0) (by omega) (by omega) ?_
      have eq_4 : ([(h, .inl (cI, n, .inl (f)))] : va_W) = [(h, .inl (cI, n, .inl (putF n f i x)))] := (by first | rfl | (simp [putF, c_1, c_3]; done) | contradiction)
      rw [eq_4] at hP hD
      exact W.vret hx hb hr (fun t ht hW => ⟨⟨(), rfl, trivial, ⟨by rw [ht]; exact hP, hAe ▸ hD⟩⟩, hS.F ht⟩) hS.2.2 dX5_put_14
    · refine lv_aload_n hx hb dX5_put_10 rfl (lv_at hl 0 rfl) ?_
      refine lv_iload_n hx hb dX5_put_11 rfl (lv_at hl 1 rfl) ?_
      refine lv_iload_n hx hb dX5_put_12 rfl (lv_at hl 2 rfl) ?_
      refine va_iast (D := (dC, dI)) hx hb hK hP hD hS 0 0 rfl rfl (vpin_of hn c_1 c_3) dX5_put_13 (fun H locs hP hD hS => ?_)
      have hP : va_P (dC, dI) vwCl ([(h, .inl (cI, n, .inl (upd f (i).toNatClampNeg x)))]) H := hP
      have hD : va_D A ([(h, .inl (cI, n, .inl (upd f (i).toNatClampNeg x)))]) := hD
      refine W.widen (k := 0) (n := 0) (by omega) (by omega) ?_
      have eq_5 : ([(h, .inl (cI, n, .inl (upd f (i).toNatClampNeg x)))] : va_W) = [(h, .inl (cI, n, .inl (putF n f i x)))] := (by first | rfl | (simp [putF, c_1, c_3]; done) | contradiction)
      rw [eq_5] at hP hD
      exact W.vret hx hb hr (fun t ht hW => ⟨⟨(), rfl, trivial, ⟨by rw [ht]; exact hP, hAe ▸ hD⟩⟩, hS.F ht⟩) hS.2.2 dX5_put_14

set_option maxHeartbeats 4000000 in
set_option maxRecDepth 100000 in
theorem c_X5_isIn (l : Launch) (dC : Nat → ClassId) (dI : Nat → Nat → Nat) (cI cF : ClassId) (tr : List (ClassId × FieldType)) (sz : Nat) (x : Int32) (y : Int32) : Met l yX5_isIn wsX5_isIn ({ frames := 0, cells := 0, slots := 0, locals := 0 } : Room) (cPc dC dI ((cI, .int) :: (cF, .object RX1) :: tr) sz ([]) [.int x, .int y]) (va_Qi (fun (r : Int32) (_ : Unit) => r = isInF x y) (fun _ _ => True) (va_A ([]) sz)) 0 0 (va_A ([]) sz) := by
  refine Met.ofW (cc := cX5_isIn) (maxL := 2) (ret := (some .boolean)) (by decide) rfl ?_
  intro p e s m args below meth c s₁ B hml hv
  obtain ⟨rfl, hsz, hP, hK, hN⟩ := hv
  have hx := B.exec
  have hb := B.bytes
  have hr := B.returns
  have hts := atoms_spec (ws := wsX5_isIn) B.pre
  have hown : s.vm.findClass RX5 = some m.cls := findClass_of_methodNamed B.named
  have hlocks := B.notSynchronized
  subst hsz
  generalize hAe : va_A [] s.heap.size = A
  have hA : ∀ q : Nat, s.heap.size ≤ q → A q := fun q h => by rw [← hAe]; exact Or.inr h
  have hS : va_S A s.heap s.heap [] := va_S.rf
  have hAn : ∀ q : Nat, q < s.heap.size → ¬ A q := fun q h => by rw [← hAe]; exact notZ h
  have hAg : ∀ q : Nat, A q → s.heap.size ≤ q := fun q h => geZ (hAe ▸ h)
  have hR0 : va_P (dC, dI) vwCl ([]) s.heap := hP
  have hR : va_P (dC, dI) vwCl ([]) s.heap := hP
  have hP : va_P (dC, dI) vwCl [] s.heap := fun k q h => by simp at h
  have hD : va_D A [] := ⟨fun i j p q h => by simp at h, fun k q h => by simp at h⟩
  have hl := lv_entry ([.int x, .int y]) (n := 2) (Nat.le_of_ble_eq_true rfl)
  rw [lg_entry_eq]
  generalize (lg_sl ([.int x, .int y]) ++ List.replicate (2 - (lg_sl ([.int x, .int y])).length) Slot.unset).toArray = ls at hl ⊢
  have hl : lv_has ls 2 [(0, .int x), (1, .int y)] := hl
  refine lv_iload_n hx hb dX5_isIn_0 rfl (lv_at hl 0 rfl) ?_
  refine lv_iload_n hx hb dX5_isIn_1 rfl (lv_at hl 1 rfl) ?_
  refine lv_ishr hx hb dX5_isIn_2 ?_
  refine lv_iconst (v := 1) hx hb dX5_isIn_3 (by decide) ?_
  refine lv_iand hx hb dX5_isIn_4 ?_
  refine lv_iconst (v := 1) hx hb dX5_isIn_5 (by decide) ?_
  refine lv_icmp_ne (tgt := 13) hx hb dX5_isIn_6 (by decide) (fun c_1 => ?_) (fun c_1 => ?_)
  · refine lv_iconst (v := 0) hx hb dX5_isIn_13 (by decide) ?_
    refine W.widen (k := 0) (n := 0) (by omega) (by omega) ?_
    exact W.zret (v := 0) hx hb hr (by first | rfl | simp [narrow] | assumption) (fun t ht hW => ⟨⟨0, (), rfl, (by first | (simp [isInF, c_1]; done) | contradiction), trivial⟩, hS.F ht⟩) hS.2.2 dX5_isIn_14
  · refine lv_iconst (v := 1) hx hb dX5_isIn_9 (by decide) ?_
    refine lv_goto (tgt := 14) hx hb dX5_isIn_10 (by decide) ?_
    refine W.widen (k := 0) (n := 0) (by omega) (by omega) ?_
    exact W.zret (v := 1) hx hb hr (by first | rfl | simp [narrow] | assumption) (fun t ht hW => ⟨⟨1, (), rfl, (by first | (simp [isInF, c_1]; done) | contradiction), trivial⟩, hS.F ht⟩) hS.2.2 dX5_isIn_14

theorem cdL_step {k : Nat} {a b : Int64} (h : 0 < k) (hb : ¬ b = 0) : cdL k a b = cdL (k - 1) b (a - a / b * b) := by
  cases k with
  | zero => omega
  | succ k => simp [cdL, hb]
theorem cdPos {k : Nat} {st : Int32} (h : st = nI (1000 - k)) (c : ¬ (1000 : Int32) ≤ st) : 0 < k := by
  rcases Nat.eq_zero_or_pos k with z | z
  · subst z
    exact absurd (by rw [h]; decide) c
  · exact z
theorem cdEnd0 {k : Nat} {st : Int32} {a b : Int64} (h : st = nI (1000 - k)) (hk : k ≤ 1000) (c : (1000 : Int32) ≤ st) : cdL k a b = a := by
  have h2 : k = 0 := by
    rw [h, show (1000 : Int32) = nI 1000 from rfl, nI_leI (by omega) (by omega)] at c
    omega
  subst h2
  rfl
theorem cdEndB {k : Nat} {a b : Int64} (hb : b = 0) : cdL k a b = a := by
  cases k with
  | zero => rfl
  | succ k => simp [cdL, hb]

set_option maxHeartbeats 4000000 in
set_option maxRecDepth 100000 in
theorem c_X5_commonDivisor (l : Launch) (dC : Nat → ClassId) (dI : Nat → Nat → Nat) (cI cF : ClassId) (tr : List (ClassId × FieldType)) (sz : Nat) (x : Int64) (y : Int64) : Met l yX5_commonDivisor wsX5_commonDivisor ({ frames := 0, cells := 0, slots := 0, locals := 0 } : Room) (cPc dC dI ((cI, .int) :: (cF, .object RX1) :: tr) sz ([]) [.long x, .long y]) (va_Ql (fun (r : Int64) (_ : Unit) => r = cdF x y) (fun _ _ => True) (va_A ([]) sz)) 0 0 (va_A ([]) sz) := by
  refine Met.ofW (cc := cX5_commonDivisor) (maxL := 11) (ret := (some .long)) (by decide) rfl ?_
  intro p e s m args below meth c s₁ B hml hv
  obtain ⟨rfl, hsz, hP, hK, hN⟩ := hv
  have hx := B.exec
  have hb := B.bytes
  have hr := B.returns
  have hts := atoms_spec (ws := wsX5_commonDivisor) B.pre
  have hown : s.vm.findClass RX5 = some m.cls := findClass_of_methodNamed B.named
  have hlocks := B.notSynchronized
  subst hsz
  generalize hAe : va_A [] s.heap.size = A
  have hA : ∀ q : Nat, s.heap.size ≤ q → A q := fun q h => by rw [← hAe]; exact Or.inr h
  have hS : va_S A s.heap s.heap [] := va_S.rf
  have hAn : ∀ q : Nat, q < s.heap.size → ¬ A q := fun q h => by rw [← hAe]; exact notZ h
  have hAg : ∀ q : Nat, A q → s.heap.size ≤ q := fun q h => geZ (hAe ▸ h)
  have hR0 : va_P (dC, dI) vwCl ([]) s.heap := hP
  have hR : va_P (dC, dI) vwCl ([]) s.heap := hP
  have hP : va_P (dC, dI) vwCl [] s.heap := fun k q h => by simp at h
  have hD : va_D A [] := ⟨fun i j p q h => by simp at h, fun k q h => by simp at h⟩
  have hl := lv_entry ([.long x, .long y]) (n := 11) (Nat.le_of_ble_eq_true rfl)
  rw [lg_entry_eq]
  generalize (lg_sl ([.long x, .long y]) ++ List.replicate (11 - (lg_sl ([.long x, .long y])).length) Slot.unset).toArray = ls at hl ⊢
  have hl : lv_has ls 11 [(0, .long x), (2, .long y)] := hl
  have K12 : ∀ (a0 : Int64), (a0 = if x < 0 then -x else x) → ∀ (H : Heap) (locs : List Loc) (ls : Array Slot), va_P (dC, dI) vwCl ([]) H → va_S A s.heap H locs → lv_has ls 11 [(0, .long x), (2, .long y)] → W p l e (headSpec wsX5_commonDivisor ({ frames := 0, cells := 0, slots := 0, locals := 0 } : Room)).room s m #[Value.long x, Value.long y] below meth c H locs (0) (0) (MQ below (va_Ql (fun (r : Int64) (_ : Unit) => r = cdF x y) (fun _ _ => True) A) #[Value.long x, Value.long y] s 0 0 A) (F0 m 12 ls [.long a0]) := by
    intro a0 ha H locs ls hP hS hl
    have hR := keepR hR0 hS hAn
    have K26 : ∀ (b0 : Int64), (b0 = if y < 0 then -y else y) → ∀ (H : Heap) (locs : List Loc) (ls : Array Slot), va_P (dC, dI) vwCl ([]) H → va_S A s.heap H locs → lv_has ls 11 [(0, .long x), (2, .long y), (4, .long a0)] → W p l e (headSpec wsX5_commonDivisor ({ frames := 0, cells := 0, slots := 0, locals := 0 } : Room)).room s m #[Value.long x, Value.long y] below meth c H locs (0) (0) (MQ below (va_Ql (fun (r : Int64) (_ : Unit) => r = cdF x y) (fun _ _ => True) A) #[Value.long x, Value.long y] s 0 0 A) (F0 m 26 ls [.long b0]) := by
      intro b0 hb0 H locs ls hP hS hl
      have hR := keepR hR0 hS hAn
      refine lv_lstore (lv' := [(6, .long b0), (0, .long x), (2, .long y), (4, .long a0)]) hx hb dX5_commonDivisor_26 hl (by decide) rfl (fun ls hl => ?_)
      refine lv_iconst (v := 0) hx hb dX5_commonDivisor_28 (by decide) ?_
      refine lv_istore (lv' := [(8, .int 0), (6, .long b0), (0, .long x), (2, .long y), (4, .long a0)]) hx hb dX5_commonDivisor_29 hl (by decide) rfl (fun ls hl => ?_)
      have K31 : ∀ (NN : Nat), ∀ (k : Nat) (st : Int32) (a : Int64) (b : Int64), (k) < NN → (st = nI (1000 - k)) → (cdL k a b = cdF x y) → (k ≤ 1000) → ∀ (H : Heap) (locs : List Loc) (ls : Array Slot), va_P (dC, dI) vwCl ([]) H → va_S A s.heap H locs → lv_has ls 11 [(4, .long a), (6, .long b), (8, .int st)] → W p l e (headSpec wsX5_commonDivisor ({ frames := 0, cells := 0, slots := 0, locals := 0 } : Room)).room s m #[Value.long x, Value.long y] below meth c H locs (0) (0) (MQ below (va_Ql (fun (r : Int64) (_ : Unit) => r = cdF x y) (fun _ _ => True) A) #[Value.long x, Value.long y] s 0 0 A) (F0 m 31 ls []) := by
        intro NN
        induction NN with
        | zero =>
          intro k st a b hmu hst hcd hkk H locs ls hP hS hl
          exact absurd hmu (Nat.not_lt_zero _)
        | succ NN ih31 =>
          intro k st a b hmu hst hcd hkk H locs ls hP hS hl
          have hR := keepR hR0 hS hAn
          refine lv_iload hx hb dX5_commonDivisor_31 (lv_at hl 2 rfl) ?_
          refine lv_sipush (v := 1000) hx hb dX5_commonDivisor_33 (by decide) ?_
          refine lv_icmp_ge (tgt := 67) hx hb dX5_commonDivisor_36 (by decide) (fun c_1 => ?_) (fun c_1 => ?_)
          · refine lv_lload hx hb dX5_commonDivisor_67 (lv_at hl 0 rfl) ?_
            refine W.widen (k := 0) (n := 0) (by omega) (by omega) ?_
            exact W.lret (v := a) hx hb hr (fun t ht hW => ⟨⟨a, (), rfl, (by first | rw [← hcd, cdEnd0 hst hkk c_1] | rw [← hcd, cdEndB c_1]), trivial⟩, hS.F ht⟩) hS.2.2 dX5_commonDivisor_69
          · have hk0 : 0 < k := cdPos hst c_1
            refine lv_lload hx hb dX5_commonDivisor_39 (lv_at hl 1 rfl) ?_
            refine lv_lconst (v := 0) hx hb dX5_commonDivisor_41 (by decide) ?_
            refine W.lcmp hx hb dX5_commonDivisor_42 ?_
            refine lv_if_eq (tgt := 67) hx hb dX5_commonDivisor_43 (by decide) (fun c_2 => ?_) (fun c_2 => ?_)
            · rw [lg_cmp_eq] at c_2
              refine lv_lload hx hb dX5_commonDivisor_67 (lv_at hl 0 rfl) ?_
              refine W.widen (k := 0) (n := 0) (by omega) (by omega) ?_
              exact W.lret (v := a) hx hb hr (fun t ht hW => ⟨⟨a, (), rfl, (by first | rw [← hcd, cdEnd0 hst hkk c_2] | rw [← hcd, cdEndB c_2]), trivial⟩, hS.F ht⟩) hS.2.2 dX5_commonDivisor_69
            · rw [lg_cmp_eq] at c_2
              refine lv_lload hx hb dX5_commonDivisor_46 (lv_at hl 0 rfl) ?_
              refine lv_lload hx hb dX5_commonDivisor_48 (lv_at hl 1 rfl) ?_
              refine lv_lrem hx hb dX5_commonDivisor_50 (by assumption) ?_
              refine lv_lstore (lv' := [(9, .long (a - a / b * b)), (4, .long a), (6, .long b), (8, .int st)]) hx hb dX5_commonDivisor_51 hl (by decide) rfl (fun ls hl => ?_)
              refine lv_lload hx hb dX5_commonDivisor_53 (lv_at hl 2 rfl) ?_
              refine lv_lstore (lv' := [(4, .long b), (9, .long (a - a / b * b)), (6, .long b), (8, .int st)]) hx hb dX5_commonDivisor_55 hl (by decide) rfl (fun ls hl => ?_)
              refine lv_lload hx hb dX5_commonDivisor_57 (lv_at hl 1 rfl) ?_
              refine lv_lstore (lv' := [(6, .long (a - a / b * b)), (4, .long b), (9, .long (a - a / b * b)), (8, .int st)]) hx hb dX5_commonDivisor_59 hl (by decide) rfl (fun ls hl => ?_)
              refine lv_iinc (v := st + 1) (lv' := [(8, .int (st + 1)), (6, .long (a - a / b * b)), (4, .long b), (9, .long (a - a / b * b))]) hx hb dX5_commonDivisor_61 hl (k := 3) rfl rfl (by decide) rfl (fun ls hl => ?_)
              refine lv_goto (tgt := 31) hx hb dX5_commonDivisor_64 (by decide) ?_
              refine W.widen (k := 0) (n := 0) (by omega) (by omega) ?_
              exact ih31 (k - 1) (st + 1) b (a - a / b * b) (by omega) (by rw [hst, nI_1]; exact congrArg nI (by omega)) (by rw [← hcd]; exact (cdL_step hk0 c_2).symm) (by omega) _ _ ls hP hS (lv_sub hl [2, 1, 0] rfl)
      refine W.widen (k := 0) (n := 0) (by omega) (by omega) ?_
      exact K31 (1000 + 1) 1000 0 a0 b0 (by omega) (by rfl) (by rw [ha, hb0]; rfl) (by omega) _ _ ls hP hS (lv_sub hl [4, 1, 0] rfl)
    refine lv_lstore (lv' := [(4, .long a0), (0, .long x), (2, .long y)]) hx hb dX5_commonDivisor_12 hl (by decide) rfl (fun ls hl => ?_)
    refine lv_lload_n hx hb dX5_commonDivisor_14 rfl (lv_at hl 2 rfl) ?_
    refine lv_lconst (v := 0) hx hb dX5_commonDivisor_15 (by decide) ?_
    refine W.lcmp hx hb dX5_commonDivisor_16 ?_
    refine lv_if_ge (tgt := 25) hx hb dX5_commonDivisor_17 (by decide) (fun c_3 => ?_) (fun c_3 => ?_)
    · rw [lg_cmp_ge] at c_3
      refine lv_lload_n hx hb dX5_commonDivisor_25 rfl (lv_at hl 2 rfl) ?_
      refine W.widen (k := 0) (n := 0) (by omega) (by omega) ?_
      exact K26 y (by first | exact ab0 c_3 | exact ab1 c_3) _ _ ls hP hS (lv_sub hl [1, 2, 0] rfl)
    · rw [lg_cmp_ge] at c_3
      refine lv_lload_n hx hb dX5_commonDivisor_20 rfl (lv_at hl 2 rfl) ?_
      refine lv_lneg hx hb dX5_commonDivisor_21 ?_
      refine lv_goto (tgt := 26) hx hb dX5_commonDivisor_22 (by decide) ?_
      refine W.widen (k := 0) (n := 0) (by omega) (by omega) ?_
      exact K26 (-y) (by first | exact ab0 c_3 | exact ab1 c_3) _ _ ls hP hS (lv_sub hl [1, 2, 0] rfl)
  refine lv_lload_n hx hb dX5_commonDivisor_0 rfl (lv_at hl 0 rfl) ?_
  refine lv_lconst (v := 0) hx hb dX5_commonDivisor_1 (by decide) ?_
  refine W.lcmp hx hb dX5_commonDivisor_2 ?_
  refine lv_if_ge (tgt := 11) hx hb dX5_commonDivisor_3 (by decide) (fun c_4 => ?_) (fun c_4 => ?_)
  · rw [lg_cmp_ge] at c_4
    refine lv_lload_n hx hb dX5_commonDivisor_11 rfl (lv_at hl 0 rfl) ?_
    refine W.widen (k := 0) (n := 0) (by omega) (by omega) ?_
    exact K12 x (by first | exact ab0 c_4 | exact ab1 c_4) _ _ ls hP hS (lv_sub hl [0, 1] rfl)
  · rw [lg_cmp_ge] at c_4
    refine lv_lload_n hx hb dX5_commonDivisor_6 rfl (lv_at hl 0 rfl) ?_
    refine lv_lneg hx hb dX5_commonDivisor_7 ?_
    refine lv_goto (tgt := 12) hx hb dX5_commonDivisor_8 (by decide) ?_
    refine W.widen (k := 0) (n := 0) (by omega) (by omega) ?_
    exact K12 (-x) (by first | exact ab0 c_4 | exact ab1 c_4) _ _ ls hP hS (lv_sub hl [0, 1] rfl)
