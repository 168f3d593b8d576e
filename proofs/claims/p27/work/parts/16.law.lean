/-! the law's own small methods -/
def beF (v n : Int32) : Int32 := (v &&& 2147483647) - (v &&& 2147483647) / n * n
def ceS (L : Nat) (xs : Nat → Int32) (k : Int32) : Int32 := if nI L ≤ k then 790386105 * (k + 3) else xs k.toNatClampNeg
def raF (q : Int64 × Int64) : Nat → Int64 := vp_updL (vp_updL (fun _ => 0) 0 q.1) 1 q.2

set_option maxHeartbeats 4000000 in
set_option maxRecDepth 100000 in
theorem c_L_below (l : Launch) (dC : Nat → ClassId) (dI : Nat → Nat → Nat) (cI cF : ClassId) (tr : List (ClassId × FieldType)) (sz : Nat) (v : Int32) (n : Int32) (hn : ¬ n = 0) : Met l yL_below wsL_below ({ frames := 0, cells := 0, slots := 0, locals := 0 } : Room) (cPc dC dI ((cI, .int) :: (cF, .object RX1) :: tr) sz ([]) [.int v, .int n]) (va_Qi (fun (r : Int32) (_ : Unit) => r = beF v n) (fun _ _ => True) (va_A ([]) sz)) 0 0 (va_A ([]) sz) := by
  refine Met.ofW (cc := cL_below) (maxL := 2) (ret := (some .int)) (by decide) rfl ?_
  intro p e s m args below meth c s₁ B hml hv
  obtain ⟨rfl, hsz, hP, hK, hN⟩ := hv
  have hx := B.exec
  have hb := B.bytes
  have hr := B.returns
  have hts := atoms_spec (ws := wsL_below) B.pre
  have hown : s.vm.findClass RL = some m.cls := findClass_of_methodNamed B.named
  have hlocks := B.notSynchronized
  subst hsz
  generalize hAe : va_A [] s.heap.size = A
  have hA : ∀ q : Nat, s.heap.size ≤ q → A q := fun q h => by rw [← hAe]; exact Or.inr h
  have hS : va_S A s.heap s.heap [] := va_S.rf
  have hAn : ∀ q : Nat, q < s.heap.size → ¬ A q := fun q h => by rw [← hAe]; exact notZ h
  have hAg : ∀ q : Nat, A q → s.heap.size ≤ q := fun q h => geZ (hAe ▸ h)
  have hR0 : va_P (dC, dI) vwCl ([]) s.heap := hP
  have hR : va_P (dC, dI) vwCl ([]) s.heap := hP
  have hP : va_P (dC, dI) vwCl [] s.heap := fun k q h => by simp at h
  have hD : va_D A [] := ⟨fun i j p q h => by simp at h, fun k q h => by simp at h⟩
  have hl := lv_entry ([.int v, .int n]) (n := 2) (Nat.le_of_ble_eq_true rfl)
  rw [lg_entry_eq]
  generalize (lg_sl ([.int v, .int n]) ++ List.replicate (2 - (lg_sl ([.int v, .int n])).length) Slot.unset).toArray = ls at hl ⊢
  have hl : lv_has ls 2 [(0, .int v), (1, .int n)] := hl
  have hw_k7 := hts (.constant RL 7 (2147483647)) (by decide +kernel)
  refine lv_iload_n hx hb dL_below_0 rfl (lv_at hl 0 rfl) ?_
  refine lv_ldc hx hb hown hw_k7 dL_below_1 ?_
  refine lv_iand hx hb dL_below_3 ?_
  refine lv_iload_n hx hb dL_below_4 rfl (lv_at hl 1 rfl) ?_
  refine lv_irem hx hb dL_below_5 (by assumption) ?_
  refine W.widen (k := 0) (n := 0) (by omega) (by omega) ?_
  exact W.iret (v := (v &&& 2147483647) - (v &&& 2147483647) / n * n) hx hb hr (fun t ht hW => ⟨⟨(v &&& 2147483647) - (v &&& 2147483647) / n * n, (), rfl, (by first | (simp [beF]; done) | contradiction), trivial⟩, hS.F ht⟩) hS.2.2 dL_below_6

set_option maxHeartbeats 4000000 in
set_option maxRecDepth 100000 in
theorem c_L_cell (l : Launch) (dC : Nat → ClassId) (dI : Nat → Nat → Nat) (cI cF : ClassId) (tr : List (ClassId × FieldType)) (sz : Nat) (b : Nat) (L : Nat) (xs : Nat → Int32) (k : Int32) (hk : ¬ k < 0) (hL : L < 2 ^ 31) : Met l yL_cell wsL_cell ({ frames := 0, cells := 0, slots := 0, locals := 0 } : Room) (va_Pc [.ref b, .int k] (fun U => U.heap.size = sz ∧ va_P (dC, dI) vwCl ([]) U.heap ∧ va_K (dC, dI) vwCl ((cI, .int) :: (cF, .object RX1) :: tr) U ∧ NW U ∧ va_X b L xs U U.heap)) (va_Qi (fun (r : Int32) (_ : Unit) => r = ceS L xs k) (fun _ _ => True) (va_A ([]) sz)) 0 0 (va_A ([]) sz) := by
  refine Met.ofW (cc := cL_cell) (maxL := 2) (ret := (some .int)) (by decide) rfl ?_
  intro p e s m args below meth c s₁ B hml hv
  obtain ⟨rfl, hsz, hP, hK, hN, hXs⟩ := hv
  have hx := B.exec
  have hb := B.bytes
  have hr := B.returns
  have hts := atoms_spec (ws := wsL_cell) B.pre
  have hown : s.vm.findClass RL = some m.cls := findClass_of_methodNamed B.named
  have hlocks := B.notSynchronized
  subst hsz
  generalize hAe : va_A [] s.heap.size = A
  have hA : ∀ q : Nat, s.heap.size ≤ q → A q := fun q h => by rw [← hAe]; exact Or.inr h
  have hS : va_S A s.heap s.heap [] := va_S.rf
  have hAn : ∀ q : Nat, q < s.heap.size → ¬ A q := fun q h => by rw [← hAe]; exact notZ h
  have hAg : ∀ q : Nat, A q → s.heap.size ≤ q := fun q h => geZ (hAe ▸ h)
  have hR0 : va_P (dC, dI) vwCl ([]) s.heap := hP
  have hR : va_P (dC, dI) vwCl ([]) s.heap := hP
  have hP : va_P (dC, dI) vwCl [] s.heap := fun k q h => by simp at h
  have hD : va_D A [] := ⟨fun i j p q h => by simp at h, fun k q h => by simp at h⟩
  have hl := lv_entry ([.ref b, .int k]) (n := 2) (Nat.le_of_ble_eq_true rfl)
  rw [lg_entry_eq]
  generalize (lg_sl ([.ref b, .int k]) ++ List.replicate (2 - (lg_sl ([.ref b, .int k])).length) Slot.unset).toArray = ls at hl ⊢
  have hl : lv_has ls 2 [(0, .ref b), (1, .int k)] := hl
  have hw_k8 := hts (.constant RL 8 (790386105)) (by decide +kernel)
  have hbl : b < s.heap.size := (Array.getElem?_eq_some_iff.mp hXs.choose_spec.1).1
  have hbA : ¬ A b := hAn _ hbl
  refine lv_iload_n hx hb dL_cell_0 rfl (lv_at hl 1 rfl) ?_
  refine lv_aload_n hx hb dL_cell_1 rfl (lv_at hl 0 rfl) ?_
  refine va_slen hx hb hXs hbl hbA hS dL_cell_2 ?_
  refine lv_icmp_ge (tgt := 12) hx hb dL_cell_3 (by decide) (fun c_1 => ?_) (fun c_1 => ?_)
  · refine lv_ldc hx hb hown hw_k8 dL_cell_12 ?_
    refine lv_iload_n hx hb dL_cell_14 rfl (lv_at hl 1 rfl) ?_
    refine lv_iconst (v := 3) hx hb dL_cell_15 (by decide) ?_
    refine lv_iadd hx hb dL_cell_16 ?_
    refine lv_imul hx hb dL_cell_17 ?_
    refine W.widen (k := 0) (n := 0) (by omega) (by omega) ?_
    exact W.iret (v := 790386105 * (k + 3)) hx hb hr (fun t ht hW => ⟨⟨790386105 * (k + 3), (), rfl, (by first | exact (if_pos c_1).symm | exact (if_neg c_1).symm), trivial⟩, hS.F ht⟩) hS.2.2 dL_cell_18
  · refine lv_aload_n hx hb dL_cell_6 rfl (lv_at hl 0 rfl) ?_
    refine lv_iload_n hx hb dL_cell_7 rfl (lv_at hl 1 rfl) ?_
    refine va_sld hx hb hXs hbl hbA hS (vpin_of hL hk c_1) dL_cell_8 ?_
    refine lv_goto (tgt := 18) hx hb dL_cell_9 (by decide) ?_
    refine W.widen (k := 0) (n := 0) (by omega) (by omega) ?_
    exact W.iret (v := xs (k).toNatClampNeg) hx hb hr (fun t ht hW => ⟨⟨xs (k).toNatClampNeg, (), rfl, (by first | exact (if_pos c_1).symm | exact (if_neg c_1).symm), trivial⟩, hS.F ht⟩) hS.2.2 dL_cell_18

theorem oa1 (q : Int64 × Int64) (tu : Int32) : oaF q tu 0 1 = q.1 := rfl
theorem oa0 (q : Int64 × Int64) (tu : Int32) : oaF q tu 0 0 = q.2 := rfl

set_option maxHeartbeats 4000000 in
set_option maxRecDepth 100000 in
theorem c_L_rate (l : Launch) (dC : Nat → ClassId) (dI : Nat → Nat → Nat) (cI cF cJ : ClassId) (tr : List (ClassId × FieldType)) (sz : Nat) (o : Nat) (ce : Nat) (lu : Nat) (cl : Nat) (se : Nat) (tu : Int32) (ja : Int32) (re : Int32) (g : Nat) (n : Nat) (xa : Nat) (xt : Nat) (xm : Nat) (wh : Nat) (st : Nat) (xb : Nat) (xc : Nat) (bc : Nat → Option Nat) (LP : List Nat) (v : Nat → Int64 × Int64) (i : Int32) (hst : st ∈ LP) (hbc : ∀ k, k < 7 → ∀ a, bc k = some a → a ∈ LP) (hi : ¬ withinF i 0 6 = 0) : Met l yL_rate wsL_rate ({ frames := 6, cells := 5, slots := 10, locals := 147 } : Room) (cPc dC dI ((cI, .int) :: (cF, .object RX1) :: (cJ, .long) :: tr) sz ([(o, .inr (iX5, [.ref g, .ref ce, .ref lu, .ref cl, .ref se, .int tu, .int ja, .int re])), (g, .inr (iX2, [.int (nI n), .ref xa, .ref xt, .ref xm, .ref wh, .ref st, .ref xb, .ref xc])), (xb, .inl (cF, 7, .inr (.inr (.inr (.inr (bc))))))] ++ va_pl LP (fe v)) [.ref o, .int i]) (va_Qr (fun _ : Unit => True) (fun _ a t => va_P (dC, dI) vwCl [(a, .inl (cJ, 2, .inr (.inl (raF (v (rtA st bc i))))))] t.heap ∧ sz ≤ a) (va_A ([]) sz)) 5 10 (va_A ([]) sz) := by
  refine Met.ofW (cc := cL_rate) (maxL := 2) (ret := (some (.array .long))) (by decide) rfl ?_
  intro p e s m args below meth c s₁ B hml hv
  obtain ⟨rfl, hsz, hP, hK, hN⟩ := hv
  have hx := B.exec
  have hb := B.bytes
  have hr := B.returns
  have hts := atoms_spec (ws := wsL_rate) B.pre
  have hown : s.vm.findClass RL = some m.cls := findClass_of_methodNamed B.named
  have hlocks := B.notSynchronized
  subst hsz
  generalize hAe : va_A [] s.heap.size = A
  have hA : ∀ q : Nat, s.heap.size ≤ q → A q := fun q h => by rw [← hAe]; exact Or.inr h
  have hS : va_S A s.heap s.heap [] := va_S.rf
  have hAn : ∀ q : Nat, q < s.heap.size → ¬ A q := fun q h => by rw [← hAe]; exact notZ h
  have hAg : ∀ q : Nat, A q → s.heap.size ≤ q := fun q h => geZ (hAe ▸ h)
  have hR0 : va_P (dC, dI) vwCl ([(o, .inr (iX5, [.ref g, .ref ce, .ref lu, .ref cl, .ref se, .int tu, .int ja, .int re])), (g, .inr (iX2, [.int (nI n), .ref xa, .ref xt, .ref xm, .ref wh, .ref st, .ref xb, .ref xc])), (xb, .inl (cF, 7, .inr (.inr (.inr (.inr (bc))))))] ++ va_pl LP (fe v)) s.heap := hP
  have hR : va_P (dC, dI) vwCl ([(o, .inr (iX5, [.ref g, .ref ce, .ref lu, .ref cl, .ref se, .int tu, .int ja, .int re])), (g, .inr (iX2, [.int (nI n), .ref xa, .ref xt, .ref xm, .ref wh, .ref st, .ref xb, .ref xc])), (xb, .inl (cF, 7, .inr (.inr (.inr (.inr (bc))))))] ++ va_pl LP (fe v)) s.heap := hP
  have hP : va_P (dC, dI) vwCl [] s.heap := fun k q h => by simp at h
  have hD : va_D A [] := ⟨fun i j p q h => by simp at h, fun k q h => by simp at h⟩
  have hl := lv_entry ([.ref o, .int i]) (n := 2) (Nat.le_of_ble_eq_true rfl)
  rw [lg_entry_eq]
  generalize (lg_sl ([.ref o, .int i]) ++ List.replicate (2 - (lg_sl ([.ref o, .int i])).length) Slot.unset).toArray = ls at hl ⊢
  have hl : lv_has ls 2 [(0, .ref o), (1, .int i)] := hl
  have hw_arr_long := hts (.arrayClass (newarray.typeOf .long)) (by decide +kernel)
  refine lv_iconst (v := 2) hx hb dL_rate_0 (by decide) ?_
  refine va_newa (D := (dC, dI)) (atype := .long) (ty := .long) (N' := 2) (a0 := (2, .inr (.inl (fun _ => 0)))) hx hb hw_arr_long rfl hK hP hD hS hA (fun _ => rfl) (by decide) (by decide) (by decide) (Nat.le_of_ble_eq_true rfl) (Nat.le_of_ble_eq_true rfl) dL_rate_1 (fun q_1 cN H hKn hP hD hS => ?_)
  obtain rfl : cJ = cN := (tyEq hKn hK 2 rfl).symm
  have hP : va_P (dC, dI) vwCl ([(q_1, .inl (cJ, 2, .inr (.inl (fun _ => 0))))]) H := hP
  have hD : va_D A ([(q_1, .inl (cJ, 2, .inr (.inl (fun _ => 0))))]) := hD
  have hR := keepR hR0 hS hAn
  refine lv_dup hx hb dL_rate_3 rfl ?_
  refine lv_iconst (v := 0) hx hb dL_rate_4 (by decide) ?_
  refine lv_aload_n hx hb dL_rate_5 rfl (lv_at hl 0 rfl) ?_
  refine lv_iload_n hx hb dL_rate_6 rfl (lv_at hl 1 rfl) ?_
  refine lv_iconst (v := 0) hx hb dL_rate_7 (by decide) ?_
  refine lv_iconst (v := 1) hx hb dL_rate_8 (by decide) ?_
  have hPc : va_P (dC, dI) vwCl ([(o, .inr (iX5, [.ref g, .ref ce, .ref lu, .ref cl, .ref se, .int tu, .int ja, .int re])), (g, .inr (iX2, [.int (nI n), .ref xa, .ref xt, .ref xm, .ref wh, .ref st, .ref xb, .ref xc])), (xb, .inl (cF, 7, .inr (.inr (.inr (.inr (bc))))))] ++ va_pl LP (fe v)) _ := hR.part [0, 1, 2] rfl
  have hFc := frZ hS hA
  refine va_calll (va_runV (As := [.int i, .int 0, .int 1]) (rest := [.int 0, .ref q_1, .ref q_1]) ⟨hx, hb, hml, hown, hts⟩ (c_p_X5_ofAxle l dC dI cI cF ((cJ, .long) :: tr) (H).size o ce lu cl se tu ja re g n xa xt xm wh st xb xc bc LP v i 0 1 hst hbc hi (by decide)) (cwV 3 hts gL_rate_X5_ofAxle rfl rfl rfl (by decide +kernel) ⟨Nat.le_of_ble_eq_true rfl, Nat.le_of_ble_eq_true rfl⟩) ⟨cBl, (va_recv hK hPc (ci := iX5) (q0 := 0) rfl rfl), (cPre hPc hK hN)⟩ rfl rfl hl.1 rfl (lv_room (Nat.le_of_ble_eq_true rfl)) dL_rate_9 ⟨(Nat.le_of_ble_eq_true rfl), (Nat.le_of_ble_eq_true rfl)⟩) hS (fun q _ h => hFc q h) hFc (fun r_2 u t H1 locs ht hvm hw_r_2 hB hz1 hk1 hS => ?_)
  refine W.widen (k := 3) (n := 6) (by omega) (by omega) ?_
  have hP := keepP hP hk1
  have hR := keepP hR hk1
  generalize H1 = H at hP hR hS ⊢
  have hP : va_P (dC, dI) vwCl ([(q_1, .inl (cJ, 2, .inr (.inl (fun _ => 0))))]) H := hP
  try dsimp only at hw_r_2
  subst hw_r_2
  refine va_last (D := (dC, dI)) hx hb hK hP hD hS 0 2 rfl rfl (vp_in_nI (n := 0) (by decide) (by decide)) dL_rate_12 (fun H locs hP hD hS => ?_)
  have hP : va_P (dC, dI) vwCl ([(q_1, .inl (cJ, 2, .inr (.inl (vp_updL (fun _ => 0) 0 (oaF (v (rtA st bc i)) tu 0 1)))))]) H := hP
  have hD : va_D A ([(q_1, .inl (cJ, 2, .inr (.inl (vp_updL (fun _ => 0) 0 (oaF (v (rtA st bc i)) tu 0 1)))))]) := hD
  have hR := keepR hR0 hS hAn
  refine lv_dup hx hb dL_rate_13 rfl ?_
  refine lv_iconst (v := 1) hx hb dL_rate_14 (by decide) ?_
  refine lv_aload_n hx hb dL_rate_15 rfl (lv_at hl 0 rfl) ?_
  refine lv_iload_n hx hb dL_rate_16 rfl (lv_at hl 1 rfl) ?_
  refine lv_iconst (v := 0) hx hb dL_rate_17 (by decide) ?_
  refine lv_iconst (v := 0) hx hb dL_rate_18 (by decide) ?_
  have hPc : va_P (dC, dI) vwCl ([(o, .inr (iX5, [.ref g, .ref ce, .ref lu, .ref cl, .ref se, .int tu, .int ja, .int re])), (g, .inr (iX2, [.int (nI n), .ref xa, .ref xt, .ref xm, .ref wh, .ref st, .ref xb, .ref xc])), (xb, .inl (cF, 7, .inr (.inr (.inr (.inr (bc))))))] ++ va_pl LP (fe v)) _ := hR.part [0, 1, 2] rfl
  have hFc := frZ hS hA
  refine va_calll (va_runV (As := [.int i, .int 0, .int 0]) (rest := [.int 1, .ref q_1, .ref q_1]) ⟨hx, hb, hml, hown, hts⟩ (c_p_X5_ofAxle l dC dI cI cF ((cJ, .long) :: tr) (H).size o ce lu cl se tu ja re g n xa xt xm wh st xb xc bc LP v i 0 0 hst hbc hi (by decide)) (cwV 3 hts gL_rate_X5_ofAxle rfl rfl rfl (by decide +kernel) ⟨Nat.le_of_ble_eq_true rfl, Nat.le_of_ble_eq_true rfl⟩) ⟨cBl, (va_recv hK hPc (ci := iX5) (q0 := 0) rfl rfl), (cPre hPc hK hN)⟩ rfl rfl hl.1 rfl (lv_room (Nat.le_of_ble_eq_true rfl)) dL_rate_19 ⟨(Nat.le_of_ble_eq_true rfl), (Nat.le_of_ble_eq_true rfl)⟩) hS (fun q _ h => hFc q h) hFc (fun r_3 u t H1 locs ht hvm hw_r_3 hB hz1 hk1 hS => ?_)
  refine W.widen (k := 5) (n := 10) (by omega) (by omega) ?_
  have hP := keepP hP hk1
  have hR := keepP hR hk1
  generalize H1 = H at hP hR hS ⊢
  have hP : va_P (dC, dI) vwCl ([(q_1, .inl (cJ, 2, .inr (.inl (vp_updL (fun _ => 0) 0 (oaF (v (rtA st bc i)) tu 0 1)))))]) H := hP
  try dsimp only at hw_r_3
  subst hw_r_3
  refine va_last (D := (dC, dI)) hx hb hK hP hD hS 0 2 rfl rfl (vp_in_nI (n := 1) (by decide) (by decide)) dL_rate_22 (fun H locs hP hD hS => ?_)
  have hP : va_P (dC, dI) vwCl ([(q_1, .inl (cJ, 2, .inr (.inl (vp_updL (vp_updL (fun _ => 0) 0 (oaF (v (rtA st bc i)) tu 0 1)) 1 (oaF (v (rtA st bc i)) tu 0 0)))))]) H := hP
  have hD : va_D A ([(q_1, .inl (cJ, 2, .inr (.inl (vp_updL (vp_updL (fun _ => 0) 0 (oaF (v (rtA st bc i)) tu 0 1)) 1 (oaF (v (rtA st bc i)) tu 0 0)))))]) := hD
  have hR := keepR hR0 hS hAn
  refine W.widen (k := 5) (n := 10) (by omega) (by omega) ?_
  have eq_4 : ([(q_1, .inl (cJ, 2, .inr (.inl (vp_updL (vp_updL (fun _ => 0) 0 (oaF (v (rtA st bc i)) tu 0 1)) 1 (oaF (v (rtA st bc i)) tu 0 0)))))] : va_W) = [(q_1, .inl (cJ, 2, .inr (.inl (raF (v (rtA st bc i))))))] := rfl
  rw [eq_4] at hP
  exact W.aret (v := .ref q_1) hx hb hr (Or.inr ⟨_, rfl⟩) (Or.inr ⟨_, rfl⟩) (fun t ht hW => ⟨⟨(), q_1, rfl, trivial, (by show va_P (dC, dI) vwCl ([(q_1, .inl (cJ, 2, .inr (.inl (raF (v (rtA st bc i))))))]) t.heap; rw [ht]; exact hP.sub [0] rfl), hAg _ (hD.2 0 _ rfl)⟩, hS.F ht⟩) hS.2.2 dL_rate_23

section ISP
variable (st : Nat) (bc : Nat → Option Nat) (v : Nat → Int64 × Int64)
def isL (t : Int32) : Nat → Int32
  | 0 => 1
  | k + 1 => isL t k &&& (if (v (rtA st bc (nI k))).1 * t.toInt64 - (v (rtA st bc (nI k))).1 * t.toInt64 / (v (rtA st bc (nI k))).2 * (v (rtA st bc (nI k))).2 = 0 then 1 else 0)
def ipL (p : Int32) : Nat → Nat → Int32
  | 0, _ => 1
  | r + 1, t => if isL st bc v (nI t) 7 = (if nI t = p then 1 else 0) then ipL p r (t + 1) else 0
end ISP
theorem oneA {dC : Nat → ClassId} {dI : Nat → Nat → Nat} {H : Heap} {a : Nat} {cA : ClassId} {x : vp_A} (h : H[a]? = some (vp_cell cA x)) : va_P (dC, dI) vwCl [(a, .inl (cA, x))] H := by
  intro k q hq
  match k, hq with
  | 0, hq => cases hq; exact h
  | k + 1, hq => simp at hq

set_option maxHeartbeats 4000000 in
set_option maxRecDepth 100000 in
theorem c_L_isPeriod (l : Launch) (dC : Nat → ClassId) (dI : Nat → Nat → Nat) (cI cF cJ : ClassId) (tr : List (ClassId × FieldType)) (sz : Nat) (o : Nat) (ce : Nat) (lu : Nat) (cl : Nat) (se : Nat) (tu : Int32) (ja : Int32) (re : Int32) (g : Nat) (n : Nat) (xa : Nat) (xt : Nat) (xm : Nat) (wh : Nat) (st : Nat) (xb : Nat) (xc : Nat) (bc : Nat → Option Nat) (LP : List Nat) (v : Nat → Int64 × Int64) (pz : Nat) (hst : st ∈ LP) (hbc : ∀ k, k < 7 → ∀ a, bc k = some a → a ∈ LP) (hp : pz < 1000) (hq0 : ∀ k, k < 7 → ¬ (v (rtA st bc (nI k))).2 = 0) : Met l yL_isPeriod wsL_isPeriod ({ frames := 7, cells := 36, slots := 77, locals := 168 } : Room) (va_Pc [.ref o, .int (nI pz)] (fun U => U.heap.size = sz ∧ va_P (dC, dI) vwCl ([(o, .inr (iX5, [.ref g, .ref ce, .ref lu, .ref cl, .ref se, .int tu, .int ja, .int re])), (g, .inr (iX2, [.int (nI n), .ref xa, .ref xt, .ref xm, .ref wh, .ref st, .ref xb, .ref xc])), (xb, .inl (cF, 7, .inr (.inr (.inr (.inr (bc))))))] ++ va_pl LP (fe v)) U.heap ∧ va_K (dC, dI) vwCl ((cI, .int) :: (cF, .object RX1) :: (cJ, .long) :: tr) U ∧ NW U ∧ AO2 U)) (va_Qi (fun (r : Int32) (_ : Unit) => r = ipL st bc v (nI pz) pz 1) (fun _ _ => True) (va_A ([]) sz)) 36 77 (va_A ([]) sz) := by
  refine Met.ofW (cc := cL_isPeriod) (maxL := 9) (ret := (some .boolean)) (by decide) rfl ?_
  intro p e s m args below meth c s₁ B hml hv
  obtain ⟨rfl, hsz, hP, hK, hN, hAO⟩ := hv
  have hx := B.exec
  have hb := B.bytes
  have hr := B.returns
  have hts := atoms_spec (ws := wsL_isPeriod) B.pre
  have hown : s.vm.findClass RL = some m.cls := findClass_of_methodNamed B.named
  have hlocks := B.notSynchronized
  subst hsz
  generalize hAe : va_A [] s.heap.size = A
  have hA : ∀ q : Nat, s.heap.size ≤ q → A q := fun q h => by rw [← hAe]; exact Or.inr h
  have hS : va_S A s.heap s.heap [] := va_S.rf
  have hAn : ∀ q : Nat, q < s.heap.size → ¬ A q := fun q h => by rw [← hAe]; exact notZ h
  have hAg : ∀ q : Nat, A q → s.heap.size ≤ q := fun q h => geZ (hAe ▸ h)
  have hR0 : va_P (dC, dI) vwCl ([(o, .inr (iX5, [.ref g, .ref ce, .ref lu, .ref cl, .ref se, .int tu, .int ja, .int re])), (g, .inr (iX2, [.int (nI n), .ref xa, .ref xt, .ref xm, .ref wh, .ref st, .ref xb, .ref xc])), (xb, .inl (cF, 7, .inr (.inr (.inr (.inr (bc))))))] ++ va_pl LP (fe v)) s.heap := hP
  have hR : va_P (dC, dI) vwCl ([(o, .inr (iX5, [.ref g, .ref ce, .ref lu, .ref cl, .ref se, .int tu, .int ja, .int re])), (g, .inr (iX2, [.int (nI n), .ref xa, .ref xt, .ref xm, .ref wh, .ref st, .ref xb, .ref xc])), (xb, .inl (cF, 7, .inr (.inr (.inr (.inr (bc))))))] ++ va_pl LP (fe v)) s.heap := hP
  have hP : va_P (dC, dI) vwCl [] s.heap := fun k q h => by simp at h
  have hD : va_D A [] := ⟨fun i j p q h => by simp at h, fun k q h => by simp at h⟩
  have hl := lv_entry ([.ref o, .int (nI pz)]) (n := 9) (Nat.le_of_ble_eq_true rfl)
  rw [lg_entry_eq]
  generalize (lg_sl ([.ref o, .int (nI pz)]) ++ List.replicate (9 - (lg_sl ([.ref o, .int (nI pz)])).length) Slot.unset).toArray = ls at hl ⊢
  have hl : lv_has ls 9 [(0, .ref o), (1, .int (nI pz))] := hl
  refine lv_bipush (v := 7) hx hb dL_isPeriod_0 (by decide) ?_
  refine rr_new (D := (dC, dI)) (own := RL) (cJ := cJ) (N' := 7) hx hb hown (hts (.classLink RL 71 (FieldType.array .long).toString) (by decide +kernel)) hAO (hK.2 2 _ rfl).2 hP hD hS hA (by decide) (by decide) (by decide) (Nat.le_of_ble_eq_true rfl) (Nat.le_of_ble_eq_true rfl) dL_isPeriod_2 (fun qz cR H hAr hRR hP hD hS hq9 hk9 => ?_)
  have hP : va_P (dC, dI) vwCl ([(qz, .inl (cR, 7, .inr (.inr (.inr (.inr (fun _ => none))))))]) H := hP
  have hD : va_D A ([(qz, .inl (cR, 7, .inr (.inr (.inr (.inr (fun _ => none))))))]) := hD
  have hR := keepR hR0 hS hAn
  refine lv_astore_n (lv' := [(2, .ref qz), (0, .ref o), (1, .int (nI pz))]) hx hb dL_isPeriod_5 rfl hl (by decide) rfl (fun ls hl => ?_)
  have hRA : ∀ jz, jz < 0 → ∃ a, (fun _ : Nat => (none : Option Nat)) jz = some a ∧ a ≠ qz ∧ H[a]? = some (vp_cell cJ (2, .inr (.inl (raF (v (rtA st bc (nI jz))))))) := fun jz hjz => absurd hjz (Nat.not_lt_zero _)
  refine lv_iconst (v := 0) hx hb dL_isPeriod_6 (by decide) ?_
  refine lv_istore_n (lv' := [(3, .int 0), (2, .ref qz), (0, .ref o), (1, .int (nI pz))]) hx hb dL_isPeriod_7 rfl hl (by decide) rfl (fun ls hl => ?_)
  have K8 : ∀ (NN : Nat), ∀ (k : Nat) (fz : Nat → Option Nat), (7 - k) < NN → (k ≤ 7) → ∀ (H : Heap) (locs : List Loc) (ls : Array Slot), va_P (dC, dI) vwCl ([(qz, .inl (cR, 7, .inr (.inr (.inr (.inr (fz))))))]) H → va_D A ([(qz, .inl (cR, 7, .inr (.inr (.inr (.inr (fz))))))]) → (∀ jz, jz < k → ∃ a, fz jz = some a ∧ a ≠ qz ∧ H[a]? = some (vp_cell cJ (2, .inr (.inl (raF (v (rtA st bc (nI jz)))))))) → va_S A s.heap H locs → lv_has ls 9 [(0, .ref o), (1, .int (nI pz)), (2, .ref qz), (3, .int (nI k))] → W p l e (headSpec wsL_isPeriod ({ frames := 7, cells := 36, slots := 77, locals := 168 } : Room)).room s m #[Value.ref o, Value.int (nI pz)] below meth c H locs (1 + 5 * k) (7 + 10 * k) (MQ below (va_Qi (fun (r : Int32) (_ : Unit) => r = ipL st bc v (nI pz) pz 1) (fun _ _ => True) A) #[Value.ref o, Value.int (nI pz)] s 36 77 A) (F0 m 8 ls []) := by
    intro NN
    induction NN with
    | zero =>
      intro k fz hmu hk H locs ls hP hD hRA hS hl
      exact absurd hmu (Nat.not_lt_zero _)
    | succ NN ih8 =>
      intro k fz hmu hk H locs ls hP hD hRA hS hl
      have hR := keepR hR0 hS hAn
      refine lv_iload_n hx hb dL_isPeriod_8 rfl (lv_at hl 3 rfl) ?_
      refine lv_bipush (v := 7) hx hb dL_isPeriod_9 (by decide) ?_
      refine lv_icmp_ge (tgt := 28) hx hb dL_isPeriod_11 (by decide) (fun c_1 => ?_) (fun c_1 => ?_)
      · have hke : 7 ≤ k := leK (by omega) (by omega) c_1
        have hkn : k = 7 := by omega
        rw [hkn] at hRA
        refine lv_iconst (v := 1) hx hb dL_isPeriod_28 (by decide) ?_
        refine lv_istore_n (lv' := [(3, .int 1), (0, .ref o), (1, .int (nI pz)), (2, .ref qz)]) hx hb dL_isPeriod_29 rfl hl (by decide) rfl (fun ls hl => ?_)
        have K30 : ∀ (NN : Nat), ∀ (tz : Nat), (pz + 1 - tz) < NN → (1 ≤ tz) → (tz ≤ pz + 1) → ((ipL st bc v (nI pz) (pz + 1 - tz) tz = ipL st bc v (nI pz) pz 1)) → ∀ (H : Heap) (locs : List Loc) (ls : Array Slot), va_P (dC, dI) vwCl ([(qz, .inl (cR, 7, .inr (.inr (.inr (.inr (fz))))))]) H → va_D A ([(qz, .inl (cR, 7, .inr (.inr (.inr (.inr (fz))))))]) → (∀ jz, jz < 7 → ∃ a, fz jz = some a ∧ a ≠ qz ∧ H[a]? = some (vp_cell cJ (2, .inr (.inl (raF (v (rtA st bc (nI jz)))))))) → va_S A s.heap H locs → lv_has ls 9 [(0, .ref o), (1, .int (nI pz)), (2, .ref qz), (3, .int (nI tz))] → W p l e (headSpec wsL_isPeriod ({ frames := 7, cells := 36, slots := 77, locals := 168 } : Room)).room s m #[Value.ref o, Value.int (nI pz)] below meth c H locs (36) (77) (MQ below (va_Qi (fun (r : Int32) (_ : Unit) => r = ipL st bc v (nI pz) pz 1) (fun _ _ => True) A) #[Value.ref o, Value.int (nI pz)] s 36 77 A) (F0 m 30 ls []) := by
          intro NN
          induction NN with
          | zero =>
            intro tz hmu ht1 ht2 hacc H locs ls hP hD hRA hS hl
            exact absurd hmu (Nat.not_lt_zero _)
          | succ NN ih30 =>
            intro tz hmu ht1 ht2 hacc H locs ls hP hD hRA hS hl
            have hR := keepR hR0 hS hAn
            refine lv_iload_n hx hb dL_isPeriod_30 rfl (lv_at hl 3 rfl) ?_
            refine lv_iload_n hx hb dL_isPeriod_31 rfl (lv_at hl 1 rfl) ?_
            refine lv_icmp_gt (tgt := 119) hx hb dL_isPeriod_32 (by decide) (fun c_2 => ?_) (fun c_2 => ?_)
            · have hte : pz < tz := (nI_ltI (a := pz) (b := tz) (by omega) (by omega)).mp c_2
              refine lv_iconst (v := 1) hx hb dL_isPeriod_119 (by decide) ?_
              refine W.widen (k := 36) (n := 77) (by omega) (by omega) ?_
              exact W.zret (v := 1) hx hb hr (by first | rfl | simp [narrow] | assumption) (fun t ht hW => ⟨⟨1, (), rfl, (by rw [← hacc, show pz + 1 - tz = 0 by omega]; rfl), trivial⟩, hS.F ht⟩) hS.2.2 dL_isPeriod_120
            · have htl : tz ≤ pz := Nat.le_of_not_lt fun z => c_2 ((nI_ltI (a := pz) (b := tz) (by omega) (by omega)).mpr z)
              refine lv_iconst (v := 1) hx hb dL_isPeriod_35 (by decide) ?_
              refine lv_istore (lv' := [(4, .int 1), (0, .ref o), (1, .int (nI pz)), (2, .ref qz), (3, .int (nI tz))]) hx hb dL_isPeriod_36 hl (by decide) rfl (fun ls hl => ?_)
              refine lv_aload_n hx hb dL_isPeriod_38 rfl (lv_at hl 3 rfl) ?_
              refine lv_astore (lv' := [(5, .ref qz), (4, .int 1), (0, .ref o), (1, .int (nI pz)), (2, .ref qz), (3, .int (nI tz))]) hx hb dL_isPeriod_39 hl (by decide) rfl (fun ls hl => ?_)
              refine lv_aload hx hb dL_isPeriod_41 (lv_at hl 0 rfl) ?_
              refine rr_len (D := (dC, dI)) hx hb hP 0 rfl hAr (v := nI 7) rfl dL_isPeriod_43 ?_
              refine lv_istore (lv' := [(6, .int (nI 7)), (5, .ref qz), (4, .int 1), (0, .ref o), (1, .int (nI pz)), (2, .ref qz), (3, .int (nI tz))]) hx hb dL_isPeriod_44 hl (by decide) rfl (fun ls hl => ?_)
              refine lv_iconst (v := 0) hx hb dL_isPeriod_46 (by decide) ?_
              refine lv_istore (lv' := [(7, .int 0), (6, .int (nI 7)), (5, .ref qz), (4, .int 1), (0, .ref o), (1, .int (nI pz)), (2, .ref qz), (3, .int (nI tz))]) hx hb dL_isPeriod_47 hl (by decide) rfl (fun ls hl => ?_)
              have K49 : ∀ (NN : Nat), ∀ (kz : Nat) (acc : Int32), (7 - kz) < NN → (kz ≤ 7) → (acc = isL st bc v (nI tz) kz) → ∀ (H : Heap) (locs : List Loc) (ls : Array Slot), va_P (dC, dI) vwCl ([(qz, .inl (cR, 7, .inr (.inr (.inr (.inr (fz))))))]) H → va_D A ([(qz, .inl (cR, 7, .inr (.inr (.inr (.inr (fz))))))]) → (∀ jz, jz < 7 → ∃ a, fz jz = some a ∧ a ≠ qz ∧ H[a]? = some (vp_cell cJ (2, .inr (.inl (raF (v (rtA st bc (nI jz)))))))) → va_S A s.heap H locs → lv_has ls 9 [(0, .ref o), (1, .int (nI pz)), (2, .ref qz), (3, .int (nI tz)), (4, .int acc), (5, .ref qz), (6, .int (nI 7)), (7, .int (nI kz))] → W p l e (headSpec wsL_isPeriod ({ frames := 7, cells := 36, slots := 77, locals := 168 } : Room)).room s m #[Value.ref o, Value.int (nI pz)] below meth c H locs (36) (77) (MQ below (va_Qi (fun (r : Int32) (_ : Unit) => r = ipL st bc v (nI pz) pz 1) (fun _ _ => True) A) #[Value.ref o, Value.int (nI pz)] s 36 77 A) (F0 m 49 ls []) := by
                intro NN
                induction NN with
                | zero =>
                  intro kz acc hmu hk hin H locs ls hP hD hRA hS hl
                  exact absurd hmu (Nat.not_lt_zero _)
                | succ NN ih49 =>
                  intro kz acc hmu hk hin H locs ls hP hD hRA hS hl
                  have hR := keepR hR0 hS hAn
                  refine lv_iload hx hb dL_isPeriod_49 (lv_at hl 7 rfl) ?_
                  refine lv_iload hx hb dL_isPeriod_51 (lv_at hl 6 rfl) ?_
                  refine lv_icmp_ge (tgt := 96) hx hb dL_isPeriod_53 (by decide) (fun c_3 => ?_) (fun c_3 => ?_)
                  · have hkn : kz = 7 := by have h9 := leK (a := 7) (b := kz) (by omega) (by omega) c_3; omega
                    rw [hkn] at hin
                    refine lv_iload hx hb dL_isPeriod_96 (lv_at hl 4 rfl) ?_
                    refine lv_iload_n hx hb dL_isPeriod_98 rfl (lv_at hl 3 rfl) ?_
                    refine lv_iload_n hx hb dL_isPeriod_99 rfl (lv_at hl 1 rfl) ?_
                    refine lv_icmp_ne (tgt := 107) hx hb dL_isPeriod_100 (by decide) (fun c_4 => ?_) (fun c_4 => ?_)
                    · refine lv_iconst (v := 0) hx hb dL_isPeriod_107 (by decide) ?_
                      refine lv_icmp_eq (tgt := 113) hx hb dL_isPeriod_108 (by decide) (fun c_5 => ?_) (fun c_5 => ?_)
                      · refine lv_iinc (v := nI (tz + 1)) (lv' := [(3, .int (nI (tz + 1))), (0, .ref o), (1, .int (nI pz)), (2, .ref qz), (4, .int acc), (5, .ref qz), (6, .int (nI 7)), (7, .int (nI kz))]) hx hb dL_isPeriod_113 hl (k := 3) rfl (nI_1 tz) (by decide) rfl (fun ls hl => ?_)
                        refine lv_goto (tgt := 30) hx hb dL_isPeriod_116 (by decide) ?_
                        refine W.widen (k := 36) (n := 77) (by omega) (by omega) ?_
                        exact ih30 (tz + 1) (by omega) (by omega) (by omega) (by rw [← hacc, show pz + 1 - tz = (pz + 1 - (tz + 1)) + 1 by omega, ipL, ← hin, if_pos (show acc = _ from c_5.trans (if_neg c_4).symm)]) _ _ ls hP hD hRA hS (lv_sub hl [1, 2, 3, 0] rfl)
                      · refine lv_iconst (v := 0) hx hb dL_isPeriod_111 (by decide) ?_
                        refine W.widen (k := 36) (n := 77) (by omega) (by omega) ?_
                        exact W.zret (v := 0) hx hb hr (by first | rfl | simp [narrow] | assumption) (fun t ht hW => ⟨⟨0, (), rfl, (by rw [← hacc, show pz + 1 - tz = (pz + 1 - (tz + 1)) + 1 by omega, ipL, ← hin, if_neg (show ¬ acc = _ from fun z => c_5 (z.trans (if_neg c_4)))]), trivial⟩, hS.F ht⟩) hS.2.2 dL_isPeriod_112
                    · refine lv_iconst (v := 1) hx hb dL_isPeriod_103 (by decide) ?_
                      refine lv_goto (tgt := 108) hx hb dL_isPeriod_104 (by decide) ?_
                      refine lv_icmp_eq (tgt := 113) hx hb dL_isPeriod_108 (by decide) (fun c_6 => ?_) (fun c_6 => ?_)
                      · refine lv_iinc (v := nI (tz + 1)) (lv' := [(3, .int (nI (tz + 1))), (0, .ref o), (1, .int (nI pz)), (2, .ref qz), (4, .int acc), (5, .ref qz), (6, .int (nI 7)), (7, .int (nI kz))]) hx hb dL_isPeriod_113 hl (k := 3) rfl (nI_1 tz) (by decide) rfl (fun ls hl => ?_)
                        refine lv_goto (tgt := 30) hx hb dL_isPeriod_116 (by decide) ?_
                        refine W.widen (k := 36) (n := 77) (by omega) (by omega) ?_
                        exact ih30 (tz + 1) (by omega) (by omega) (by omega) (by rw [← hacc, show pz + 1 - tz = (pz + 1 - (tz + 1)) + 1 by omega, ipL, ← hin, if_pos (show acc = _ from c_6.trans (if_pos c_4).symm)]) _ _ ls hP hD hRA hS (lv_sub hl [1, 2, 3, 0] rfl)
                      · refine lv_iconst (v := 0) hx hb dL_isPeriod_111 (by decide) ?_
                        refine W.widen (k := 36) (n := 77) (by omega) (by omega) ?_
                        exact W.zret (v := 0) hx hb hr (by first | rfl | simp [narrow] | assumption) (fun t ht hW => ⟨⟨0, (), rfl, (by rw [← hacc, show pz + 1 - tz = (pz + 1 - (tz + 1)) + 1 by omega, ipL, ← hin, if_neg (show ¬ acc = _ from fun z => c_6 (z.trans (if_pos c_4)))]), trivial⟩, hS.F ht⟩) hS.2.2 dL_isPeriod_112
                  · have hkl : kz < 7 := ltK (by omega) (by omega) c_3
                    refine lv_aload hx hb dL_isPeriod_56 (lv_at hl 5 rfl) ?_
                    refine lv_iload hx hb dL_isPeriod_58 (lv_at hl 7 rfl) ?_
                    obtain ⟨az, ha1, ha2, ha3⟩ := hRA kz hkl
                    refine rr_ld (cJ := cJ) (D := (dC, dI)) hx hb hP 0 rfl hAr (vp_in_nI hkl (by decide)) dL_isPeriod_60 ?_
                    rw [show (nI kz).toNatClampNeg = kz from nI_clamp (by omega), ha1]
                    have hT : va_P (dC, dI) vwCl [(az, .inl (cJ, 2, .inr (.inl (raF (v (rtA st bc (nI kz)))))))] H := oneA ha3
                    refine W.eq (g2 := F0 m 61 ls [.ref az]) rfl ?_
                    refine lv_astore (lv' := [(8, .ref az), (0, .ref o), (1, .int (nI pz)), (2, .ref qz), (3, .int (nI tz)), (4, .int acc), (5, .ref qz), (6, .int (nI 7)), (7, .int (nI kz))]) hx hb dL_isPeriod_61 hl (by decide) rfl (fun ls hl => ?_)
                    refine lv_iload hx hb dL_isPeriod_63 (lv_at hl 5 rfl) ?_
                    refine lv_aload hx hb dL_isPeriod_65 (lv_at hl 0 rfl) ?_
                    refine lv_iconst (v := 0) hx hb dL_isPeriod_67 (by decide) ?_
                    refine va_lald (D := (dC, dI)) hx hb hK hT 0 2 rfl rfl (vp_in_nI (n := 0) (by decide) (by decide)) dL_isPeriod_68 ?_
                    refine lv_iload_n hx hb dL_isPeriod_69 rfl (lv_at hl 4 rfl) ?_
                    refine lv_i2l hx hb dL_isPeriod_70 rfl ?_
                    refine lv_lmul hx hb dL_isPeriod_71 ?_
                    refine lv_aload hx hb dL_isPeriod_72 (lv_at hl 0 rfl) ?_
                    refine lv_iconst (v := 1) hx hb dL_isPeriod_74 (by decide) ?_
                    refine va_lald (D := (dC, dI)) hx hb hK hT 0 2 rfl rfl (vp_in_nI (n := 1) (by decide) (by decide)) dL_isPeriod_75 ?_
                    refine lv_lrem hx hb dL_isPeriod_76 (show ¬ raF (v (rtA st bc (nI kz))) 1 = 0 from hq0 kz hkl) ?_
                    refine lv_lconst (v := 0) hx hb dL_isPeriod_77 (by decide) ?_
                    refine W.lcmp hx hb dL_isPeriod_78 ?_
                    refine lv_if_ne (tgt := 86) hx hb dL_isPeriod_79 (by decide) (fun c_7 => ?_) (fun c_7 => ?_)
                    · rw [lg_cmp_eq] at c_7
                      have c9 : ¬ ((v (rtA st bc (nI kz))).1 * (nI tz).toInt64 - (v (rtA st bc (nI kz))).1 * (nI tz).toInt64 / (v (rtA st bc (nI kz))).2 * (v (rtA st bc (nI kz))).2 = 0) := c_7
                      refine lv_iconst (v := 0) hx hb dL_isPeriod_86 (by decide) ?_
                      refine lv_iand hx hb dL_isPeriod_87 ?_
                      refine lv_istore (lv' := [(4, .int (acc &&& 0)), (8, .ref az), (0, .ref o), (1, .int (nI pz)), (2, .ref qz), (3, .int (nI tz)), (5, .ref qz), (6, .int (nI 7)), (7, .int (nI kz))]) hx hb dL_isPeriod_88 hl (by decide) rfl (fun ls hl => ?_)
                      refine lv_iinc (v := nI (kz + 1)) (lv' := [(7, .int (nI (kz + 1))), (4, .int (acc &&& 0)), (8, .ref az), (0, .ref o), (1, .int (nI pz)), (2, .ref qz), (3, .int (nI tz)), (5, .ref qz), (6, .int (nI 7))]) hx hb dL_isPeriod_90 hl (k := 8) rfl (nI_1 kz) (by decide) rfl (fun ls hl => ?_)
                      refine lv_goto (tgt := 49) hx hb dL_isPeriod_93 (by decide) ?_
                      refine W.widen (k := 36) (n := 77) (by omega) (by omega) ?_
                      exact ih49 (kz + 1) (acc &&& 0) (by omega) hkl (by rw [hin, isL, if_neg c9]) _ _ ls hP hD hRA hS (lv_sub hl [3, 4, 5, 6, 1, 7, 8, 0] rfl)
                    · rw [lg_cmp_eq] at c_7
                      have c9 : (v (rtA st bc (nI kz))).1 * (nI tz).toInt64 - (v (rtA st bc (nI kz))).1 * (nI tz).toInt64 / (v (rtA st bc (nI kz))).2 * (v (rtA st bc (nI kz))).2 = 0 := c_7
                      refine lv_iconst (v := 1) hx hb dL_isPeriod_82 (by decide) ?_
                      refine lv_goto (tgt := 87) hx hb dL_isPeriod_83 (by decide) ?_
                      refine lv_iand hx hb dL_isPeriod_87 ?_
                      refine lv_istore (lv' := [(4, .int (acc &&& 1)), (8, .ref az), (0, .ref o), (1, .int (nI pz)), (2, .ref qz), (3, .int (nI tz)), (5, .ref qz), (6, .int (nI 7)), (7, .int (nI kz))]) hx hb dL_isPeriod_88 hl (by decide) rfl (fun ls hl => ?_)
                      refine lv_iinc (v := nI (kz + 1)) (lv' := [(7, .int (nI (kz + 1))), (4, .int (acc &&& 1)), (8, .ref az), (0, .ref o), (1, .int (nI pz)), (2, .ref qz), (3, .int (nI tz)), (5, .ref qz), (6, .int (nI 7))]) hx hb dL_isPeriod_90 hl (k := 8) rfl (nI_1 kz) (by decide) rfl (fun ls hl => ?_)
                      refine lv_goto (tgt := 49) hx hb dL_isPeriod_93 (by decide) ?_
                      refine W.widen (k := 36) (n := 77) (by omega) (by omega) ?_
                      exact ih49 (kz + 1) (acc &&& 1) (by omega) hkl (by rw [hin, isL, if_pos c9]) _ _ ls hP hD hRA hS (lv_sub hl [3, 4, 5, 6, 1, 7, 8, 0] rfl)
              refine W.widen (k := 36) (n := 77) (by omega) (by omega) ?_
              exact K49 (7 - 0 + 1) 0 1 (by omega) (Nat.zero_le _) rfl _ _ ls hP hD hRA hS (lv_sub hl [4, 5, 6, 7, 3, 2, 1, 0] rfl)
        refine W.widen (k := 36) (n := 77) (by omega) (by omega) ?_
        exact K30 (pz + 1 - 1 + 1) 1 (by omega) (Nat.le_refl _) (by omega) (by rw [Nat.add_sub_cancel]) _ _ ls hP hD hRA hS (lv_sub hl [1, 2, 3, 0] rfl)
      · have hkl : k < 7 := ltK (by omega) (by omega) c_1
        refine lv_aload_n hx hb dL_isPeriod_14 rfl (lv_at hl 2 rfl) ?_
        refine lv_iload_n hx hb dL_isPeriod_15 rfl (lv_at hl 3 rfl) ?_
        refine lv_aload_n hx hb dL_isPeriod_16 rfl (lv_at hl 0 rfl) ?_
        refine lv_iload_n hx hb dL_isPeriod_17 rfl (lv_at hl 3 rfl) ?_
        have hPo := hP
        have hPc : va_P (dC, dI) vwCl ([(o, .inr (iX5, [.ref g, .ref ce, .ref lu, .ref cl, .ref se, .int tu, .int ja, .int re])), (g, .inr (iX2, [.int (nI n), .ref xa, .ref xt, .ref xm, .ref wh, .ref st, .ref xb, .ref xc])), (xb, .inl (cF, 7, .inr (.inr (.inr (.inr (bc))))))] ++ va_pl LP (fe v)) _ := hR.part [0, 1, 2] rfl
        have hFc := frZ hS hA
        have hz0 := hS.1
        refine va_callr (va_runS (As := [.ref o, .int (nI k)]) (rest := [.int (nI k), .ref qz]) ⟨hx, hb, hml, hown, hts⟩ (c_L_rate l dC dI cI cF cJ tr (H).size o ce lu cl se tu ja re g n xa xt xm wh st xb xc bc LP v (nI k) hst hbc (winK (b := 6) (by omega) (by decide))) (va_cwS 2 hts gL_isPeriod_L_rate rfl rfl rfl (by decide +kernel) ⟨Nat.le_of_ble_eq_true rfl, Nat.le_of_ble_eq_true rfl⟩) ⟨cBl, (cPre hPc hK hN)⟩ rfl rfl hl.1 rfl (lv_room (Nat.le_of_ble_eq_true rfl)) dL_isPeriod_18 ⟨(by show 1 + 5 * k + 5 ≤ 36; omega), (by show 7 + 10 * k + 10 ≤ 77; omega)⟩) hS (fun q _ h => hFc q h) hFc (fun u r_8 t H1 locs ht hvm hw_r_8 hB hz1 hk1 hS => ?_)
        refine W.widen (k := 1 + 5 * k + 5) (n := 7 + 10 * k + 10) (by omega) (by omega) ?_
        have hP := keepP hP hk1
        have hR := keepP hR hk1
        obtain ⟨hB, hBn⟩ := hB
        rw [ht] at hB
        have hGe_r_8 : s.heap.size ≤ r_8 := Nat.le_trans hz0 hBn
        have hT : va_P (dC, dI) vwCl ([(r_8, .inl (cJ, 2, .inr (.inl (raF (v (rtA st bc (nI k)))))))]) H1 := hB
        have hrq : r_8 ≠ qz := fun z => absurd (hPo 0 _ rfl).lt (Nat.not_lt.mpr (z ▸ hBn))
        have hRA : ∀ jz, jz < k → ∃ a, fz jz = some a ∧ a ≠ qz ∧ H1[a]? = some (vp_cell cJ (2, .inr (.inl (raF (v (rtA st bc (nI jz))))))) := fun jz hjz => by
          obtain ⟨a, h1, h2, h3⟩ := hRA jz hjz
          exact ⟨a, h1, h2, (hk1 a (Array.getElem?_eq_some_iff.mp h3).1 (notZ (Array.getElem?_eq_some_iff.mp h3).1)).trans h3⟩
        generalize H1 = H at hP hR hT hRA hS ⊢
        have hP : va_P (dC, dI) vwCl ([(qz, .inl (cR, 7, .inr (.inr (.inr (.inr (fz))))))]) H := hP
        try dsimp only at hw_r_8
        have hv9 := hT 0 _ rfl
        refine rr_st (D := (dC, dI)) (cJ := cJ) (nv := 2) (g := raF (v (rtA st bc (nI k)))) hx hb hP hD hS 0 rfl hv9 hRR (vp_in_nI hkl (by decide)) dL_isPeriod_21 (fun H locs hP hD hS hoq => ?_)
        rw [show (nI k).toNatClampNeg = k from nI_clamp (by omega)] at hP hD
        have hP : va_P (dC, dI) vwCl ([(qz, .inl (cR, 7, .inr (.inr (.inr (.inr (va_up fz k (some r_8)))))))]) H := hP
        have hD : va_D A ([(qz, .inl (cR, 7, .inr (.inr (.inr (.inr (va_up fz k (some r_8)))))))]) := hD
        have hR := keepR hR0 hS hAn
        have hRA : ∀ jz, jz < k + 1 → ∃ a, va_up fz k (some r_8) jz = some a ∧ a ≠ qz ∧ H[a]? = some (vp_cell cJ (2, .inr (.inl (raF (v (rtA st bc (nI jz))))))) := fun jz hjz => by
          by_cases ej : jz = k
          · subst ej; exact ⟨r_8, va_up_self _ _ _, hrq, (hoq _ hrq).trans hv9⟩
          · obtain ⟨a, h1, h2, h3⟩ := hRA jz (by omega)
            exact ⟨a, by rw [va_up_ne _ _ ej]; exact h1, h2, (hoq a h2).trans h3⟩
        refine lv_iinc (v := nI (k + 1)) (lv' := [(3, .int (nI (k + 1))), (0, .ref o), (1, .int (nI pz)), (2, .ref qz)]) hx hb dL_isPeriod_22 hl (k := 3) rfl (nI_1 k) (by decide) rfl (fun ls hl => ?_)
        refine lv_goto (tgt := 8) hx hb dL_isPeriod_25 (by decide) ?_
        refine W.widen (k := 1 + 5 * (k + 1)) (n := 7 + 10 * (k + 1)) (by omega) (by omega) ?_
        exact ih8 (k + 1) (va_up fz k (some r_8)) (by omega) hkl _ _ ls hP hD hRA hS (lv_sub hl [1, 2, 3, 0] rfl)
  refine W.widen (k := 1 + 5 * 0) (n := 7 + 10 * 0) (by omega) (by omega) ?_
  exact K8 (7 - 0 + 1) 0 (fun _ => none) (by omega) (Nat.zero_le _) _ _ ls hP hD hRA hS (lv_sub hl [2, 3, 1, 0] rfl)
