/-! the gearing: how rates spread -/
abbrev RT : Type := Nat → Option (Int64 × Int64)
def abR (b : Nat → Option Nat) (v : Nat → Int64 × Int64) : RT := fun k => (b k).map v
def bOK (LP : List Nat) (b : Nat → Option Nat) : Prop := (∀ k a, b k = some a → a ∈ LP) ∧ ∀ k, 7 ≤ k → b k = none
def keepL (LP LP1 : List Nat) (v v1 : Nat → Int64 × Int64) : Prop := ∀ a, a ∈ LP → a ∈ LP1 ∧ v1 a = v a
def rinR (r : RT) (i : Int32) : Option (Int64 × Int64) := if i < 0 then none else if nI 7 ≤ i then none else r i.toNatClampNeg
def mulF (p : Int64 × Int64) (a b : Int32) : Int64 × Int64 := (frU (p.1 * a.toInt64) (p.2 * b.toInt64), frL (p.1 * a.toInt64) (p.2 * b.toInt64))
def sfS (ax te me : Nat → Int32) (w : Int32) (p : Int64 × Int64) (k : Nat) (s : RT × Int32) : RT × Int32 :=
  if isInF (atF 12 me w) (nI k) = 0 then s else if atF 12 ax (nI k) < 0 then s else if nI 7 ≤ atF 12 ax (nI k) then s else
  if (s.1 (atF 12 ax (nI k)).toNatClampNeg).isSome then s else
  (va_up s.1 (atF 12 ax (nI k)).toNatClampNeg (some (mulF p (-atF 12 te w) (atF 12 te (nI k)))), 1)
def sfL (ax te me : Nat → Int32) (w : Int32) (p : Int64 × Int64) (r : RT) : Nat → RT × Int32
  | 0 => (r, 0)
  | k + 1 => sfS ax te me w p k (sfL ax te me w p r k)
def sfw (ax te me : Nat → Int32) (n : Nat) (w : Int32) (r : RT) : RT × Int32 := (rinR r (atF 12 ax w)).elim (r, 0) (fun p => sfL ax te me w p r n)
def swS (ax te me : Nat → Int32) (n k : Nat) (s : RT × Int32) : RT × Int32 :=
  if atF 12 me (nI k) = 0 then s else ((sfw ax te me n (nI k) s.1).1, if (sfw ax te me n (nI k) s.1).2 = 0 then s.2 else 1)
def swL (ax te me : Nat → Int32) (n : Nat) (r : RT) : Nat → RT × Int32
  | 0 => (r, 0)
  | k + 1 => swS ax te me n k (swL ax te me n r k)
def spR (ax te me : Nat → Int32) (n : Nat) : Nat → Int32 → RT → RT
  | 0, _, r => r
  | j + 1, g, r => if g = 0 then r else spR ax te me n j (swL ax te me n r n).2 (swL ax te me n r n).1
def r0F (i : Int32) (w : Int64 × Int64) : RT := fun k => if k < 7 ∧ nI k = i then some w else none
/-- all rates by the axle i -/
def sprF (ax te me : Nat → Int32) (n : Nat) (i : Int32) (w : Int64 × Int64) : RT := spR ax te me n 7 1 (r0F i w)
theorem rin_none {b : Nat → Option Nat} {v : Nat → Int64 × Int64} {i : Int32} (h : rinF 7 b i = none) : rinR (abR b v) i = none := by
  unfold rinF at h
  unfold rinR
  split
  · rfl
  · rename_i h0
    rw [if_neg h0] at h
    split
    · rfl
    · rename_i h1
      rw [if_neg h1] at h
      simp [abR, h]
theorem rin_some {b : Nat → Option Nat} {v : Nat → Int64 × Int64} {i : Int32} {a : Nat} (h : rinF 7 b i = some a) : rinR (abR b v) i = some (v a) := by
  unfold rinF at h
  unfold rinR
  split
  · rename_i h0
    rw [if_pos h0] at h
    cases h
  · rename_i h0
    rw [if_neg h0] at h
    split
    · rename_i h1
      rw [if_pos h1] at h
      cases h
    · rename_i h1
      rw [if_neg h1] at h
      simp [abR, h]
theorem rinF_memA {LP : List Nat} {b : Nat → Option Nat} (h : bOK LP b) {i : Int32} {a : Nat} (hq : rinF 7 b i = some a) : a ∈ LP := rinF_mem (fun k _ a ha => h.1 k a ha) hq
theorem keepL.rf {LP : List Nat} {v : Nat → Int64 × Int64} : keepL LP LP v v := fun _ h => ⟨h, rfl⟩
theorem keepL.tr {LP LP1 LP2 : List Nat} {v v1 v2 : Nat → Int64 × Int64} (h1 : keepL LP LP1 v v1) (h2 : keepL LP1 LP2 v1 v2) : keepL LP LP2 v v2 := fun a h => ⟨(h2 a (h1 a h).1).1, ((h2 a (h1 a h).1).2).trans (h1 a h).2⟩
theorem keepL.push {LP : List Nat} {v : Nat → Int64 × Int64} {r : Nat} {p : Int64 × Int64} (hr : r ∉ LP) : keepL LP (LP ++ [r]) v (va_up v r p) := fun a h => ⟨List.mem_append_left _ h, va_up_ne _ _ (fun z => hr (z ▸ h))⟩
theorem bOK.keep {LP LP1 : List Nat} {v v1 : Nat → Int64 × Int64} {b : Nat → Option Nat} (h : bOK LP b) (hk : keepL LP LP1 v v1) : bOK LP1 b := ⟨fun k a ha => (hk a (h.1 k a ha)).1, h.2⟩
theorem abR.keep {LP LP1 : List Nat} {v v1 : Nat → Int64 × Int64} {b : Nat → Option Nat} (h : bOK LP b) (hk : keepL LP LP1 v v1) : abR b v1 = abR b v := by
  funext k
  unfold abR
  cases hb : b k with
  | none => rfl
  | some a => simp [(hk a (h.1 k a hb)).2]
theorem bOK.put {LP : List Nat} {b : Nat → Option Nat} {j r : Nat} (h : bOK LP b) (hj : j < 7) (hr : r ∈ LP) : bOK LP (va_up b j (some r)) := by
  refine ⟨fun k a ha => ?_, fun k hk => ?_⟩
  · by_cases e : k = j
    · subst e
      rw [va_up_self] at ha
      cases ha
      exact hr
    · rw [va_up_ne _ _ e] at ha
      exact h.1 k a ha
  · rw [va_up_ne _ _ (by omega)]
    exact h.2 k hk
theorem abR.put {b : Nat → Option Nat} {v : Nat → Int64 × Int64} {j r : Nat} : abR (va_up b j (some r)) v = va_up (abR b v) j (some (v r)) := by
  funext k
  by_cases e : k = j
  · subst e
    simp [abR, va_up]
  · simp [abR, va_up, e]
theorem clampLt {i : Int32} {n : Nat} (hn : n < 2 ^ 31) (h0 : ¬ i < 0) (h1 : ¬ nI n ≤ i) : i.toNatClampNeg < n := by
  obtain ⟨j, hj, rfl⟩ := nI_of h0
  rw [nI_clamp hj]
  exact Nat.lt_of_not_le fun h => h1 ((nI_leI hn hj).mpr h)

set_option maxHeartbeats 4000000 in
set_option maxRecDepth 100000 in
theorem c_X2_spreadFromWheel (l : Launch) (dC : Nat → ClassId) (dI : Nat → Nat → Nat) (cI cF : ClassId) (tr : List (ClassId × FieldType)) (sz : Nat) (g : Nat) (n : Nat) (xa : Nat) (xt : Nat) (xm : Nat) (wh : Nat) (st : Nat) (xb : Nat) (xc : Nat) (ax : Nat → Int32) (te : Nat → Int32) (me : Nat → Int32) (h : Nat) (b : Nat → Option Nat) (LP : List Nat) (v : Nat → Int64 × Int64) (i : Int32) (hbk : bOK LP b) (hn : n ≤ 12) : Met l yX2_spreadFromWheel wsX2_spreadFromWheel ({ frames := 3, cells := 12, slots := 24, locals := 80 } : Room) (cPd dC dI ((cI, .int) :: (cF, .object RX1) :: tr) sz ([(g, .inr (iX2, [.int (nI n), .ref xa, .ref xt, .ref xm, .ref wh, .ref st, .ref xb, .ref xc])), (xa, .inl (cI, 12, .inl (ax))), (xt, .inl (cI, 12, .inl (te))), (xm, .inl (cI, 12, .inl (me))), (h, .inl (cF, 7, .inr (.inr (.inr (.inr (b))))))] ++ va_pl LP (fe v)) [.ref g, .int i, .ref h]) (va_Qi (fun (r : Int32) (u : (Nat → Option Nat) × List Nat × (Nat → Int64 × Int64)) => r = (sfw ax te me n i (abR b v)).2 ∧ bOK u.2.1 u.1 ∧ keepL LP u.2.1 v u.2.2 ∧ abR u.1 u.2.2 = (sfw ax te me n i (abR b v)).1) (fun ⟨b1, LP1, v1⟩ t => va_P (dC, dI) vwCl ([(g, .inr (iX2, [.int (nI n), .ref xa, .ref xt, .ref xm, .ref wh, .ref st, .ref xb, .ref xc])), (xa, .inl (cI, 12, .inl (ax))), (xt, .inl (cI, 12, .inl (te))), (xm, .inl (cI, 12, .inl (me))), (h, .inl (cF, 7, .inr (.inr (.inr (.inr (b1))))))] ++ va_pl LP1 (fe v1)) t.heap ∧ va_D (va_A ([(g, .inr (iX2, [.int (nI n), .ref xa, .ref xt, .ref xm, .ref wh, .ref st, .ref xb, .ref xc])), (xa, .inl (cI, 12, .inl (ax))), (xt, .inl (cI, 12, .inl (te))), (xm, .inl (cI, 12, .inl (me))), (h, .inl (cF, 7, .inr (.inr (.inr (.inr (b))))))] ++ va_pl LP (fe v)) sz) ([(g, .inr (iX2, [.int (nI n), .ref xa, .ref xt, .ref xm, .ref wh, .ref st, .ref xb, .ref xc])), (xa, .inl (cI, 12, .inl (ax))), (xt, .inl (cI, 12, .inl (te))), (xm, .inl (cI, 12, .inl (me))), (h, .inl (cF, 7, .inr (.inr (.inr (.inr (b1))))))] ++ va_pl LP1 (fe v1))) (va_A ([(g, .inr (iX2, [.int (nI n), .ref xa, .ref xt, .ref xm, .ref wh, .ref st, .ref xb, .ref xc])), (xa, .inl (cI, 12, .inl (ax))), (xt, .inl (cI, 12, .inl (te))), (xm, .inl (cI, 12, .inl (me))), (h, .inl (cF, 7, .inr (.inr (.inr (.inr (b))))))] ++ va_pl LP (fe v)) sz)) 12 24 (va_A ([(g, .inr (iX2, [.int (nI n), .ref xa, .ref xt, .ref xm, .ref wh, .ref st, .ref xb, .ref xc])), (xa, .inl (cI, 12, .inl (ax))), (xt, .inl (cI, 12, .inl (te))), (xm, .inl (cI, 12, .inl (me))), (h, .inl (cF, 7, .inr (.inr (.inr (.inr (b))))))] ++ va_pl LP (fe v)) sz) := by
  refine Met.ofW (cc := cX2_spreadFromWheel) (maxL := 7) (ret := (some .boolean)) (by decide) rfl ?_
  intro p e s m args below meth c s₁ B hml hv
  obtain ⟨rfl, hsz, hP, hK, hN, hD0⟩ := hv
  have hx := B.exec
  have hb := B.bytes
  have hr := B.returns
  have hts := atoms_spec (ws := wsX2_spreadFromWheel) B.pre
  have hown : s.vm.findClass RX2 = some m.cls := findClass_of_methodNamed B.named
  have hlocks := B.notSynchronized
  subst hsz
  have hD := hD0.self (sz := s.heap.size)
  generalize hAe : va_A ([(g, .inr (iX2, [.int (nI n), .ref xa, .ref xt, .ref xm, .ref wh, .ref st, .ref xb, .ref xc])), (xa, .inl (cI, 12, .inl (ax))), (xt, .inl (cI, 12, .inl (te))), (xm, .inl (cI, 12, .inl (me))), (h, .inl (cF, 7, .inr (.inr (.inr (.inr (b))))))] ++ va_pl LP (fe v)) s.heap.size = A at hD ⊢
  have hA : ∀ q : Nat, s.heap.size ≤ q → A q := fun q h => by rw [← hAe]; exact Or.inr h
  have hS : va_S A s.heap s.heap [] := va_S.rf
  have hP : va_P (dC, dI) vwCl ([(g, .inr (iX2, [.int (nI n), .ref xa, .ref xt, .ref xm, .ref wh, .ref st, .ref xb, .ref xc])), (xa, .inl (cI, 12, .inl (ax))), (xt, .inl (cI, 12, .inl (te))), (xm, .inl (cI, 12, .inl (me))), (h, .inl (cF, 7, .inr (.inr (.inr (.inr (b))))))] ++ va_pl LP (fe v)) s.heap := hP
  have hl := lv_entry ([.ref g, .int i, .ref h]) (n := 7) (Nat.le_of_ble_eq_true rfl)
  rw [lg_entry_eq]
  generalize (lg_sl ([.ref g, .int i, .ref h]) ++ List.replicate (7 - (lg_sl ([.ref g, .int i, .ref h])).length) Slot.unset).toArray = ls at hl ⊢
  have hl : lv_has ls 7 [(0, .ref g), (1, .int i), (2, .ref h)] := hl
  have hfl_44 := hts (.fieldLink RX2 44 "Greenwheels$Gearing" "wheels" "I") (by decide +kernel)
  have hin_X2 : ∀ w ∈ u_ws RX2 TX2 8, w ∈ wsX2_spreadFromWheel := by decide +kernel
  refine lv_aload_n hx hb dX2_spreadFromWheel_0 rfl (lv_at hl 2 rfl) ?_
  refine lv_aload_n hx hb dX2_spreadFromWheel_1 rfl (lv_at hl 0 rfl) ?_
  refine lv_iload_n hx hb dX2_spreadFromWheel_2 rfl (lv_at hl 1 rfl) ?_
  have hPc : va_P (dC, dI) vwCl ([(g, .inr (iX2, [.int (nI n), .ref xa, .ref xt, .ref xm, .ref wh, .ref st, .ref xb, .ref xc])), (xa, .inl (cI, 12, .inl (ax)))]) _ := hP.sub [0, 1] rfl
  have hFc := frZ hS hA
  refine va_calli (va_runV (As := [.int i]) (rest := [.ref h]) ⟨hx, hb, hml, hown, hts⟩ (c_X2_axleOf l dC dI cI cF tr (s.heap).size g n xa xt xm wh st xb xc ax i) (cwV 1 hts gX2_spreadFromWheel_X2_axleOf rfl rfl rfl (by decide +kernel) ⟨Nat.le_of_ble_eq_true rfl, Nat.le_of_ble_eq_true rfl⟩) ⟨cBl, (va_recv hK hPc (ci := iX2) (q0 := 0) rfl rfl), (cPre hPc hK hN)⟩ rfl rfl hl.1 rfl (lv_room (Nat.le_of_ble_eq_true rfl)) dX2_spreadFromWheel_3 ⟨(Nat.le_of_ble_eq_true rfl), (Nat.le_of_ble_eq_true rfl)⟩) hS (fun q _ h => hFc q h) hFc (fun r_1 u t H1 locs ht hvm hw_r_1 hB hz1 hk1 hS => ?_)
  refine W.widen (k := 0) (n := 0) (Nat.le_refl _) (Nat.le_refl _) ?_
  have hP := keepP hP hk1
  generalize H1 = H at hP hS ⊢
  have hP : va_P (dC, dI) vwCl ([(g, .inr (iX2, [.int (nI n), .ref xa, .ref xt, .ref xm, .ref wh, .ref st, .ref xb, .ref xc])), (xa, .inl (cI, 12, .inl (ax))), (xt, .inl (cI, 12, .inl (te))), (xm, .inl (cI, 12, .inl (me))), (h, .inl (cF, 7, .inr (.inr (.inr (.inr (b))))))] ++ va_pl LP (fe v)) H := hP
  try dsimp only at hw_r_1
  subst hw_r_1
  have hPc : va_P (dC, dI) vwCl ([(h, .inl (cF, 7, .inr (.inr (.inr (.inr (b))))))]) _ := hP.sub [4] rfl
  have hFc := frZ hS hA
  refine va_callq (va_runS (As := [.ref h, .int (atF 12 ax i)]) (rest := []) ⟨hx, hb, hml, hown, hts⟩ (c_X2_rateIn l dC dI cI cF tr (H).size h b (atF 12 ax i)) (va_cwS 2 hts gX2_spreadFromWheel_X2_rateIn rfl rfl rfl (by decide +kernel) ⟨Nat.le_of_ble_eq_true rfl, Nat.le_of_ble_eq_true rfl⟩) ⟨cBl, (cPre hPc hK hN)⟩ rfl rfl hl.1 rfl (lv_room (Nat.le_of_ble_eq_true rfl)) dX2_spreadFromWheel_6 ⟨(Nat.le_of_ble_eq_true rfl), (Nat.le_of_ble_eq_true rfl)⟩) hS (fun q _ h => hFc q h) hFc (fun r_2 u t H1 locs ht hvm hw_r_2 hB hz1 hk1 hS => ?_)
  refine W.widen (k := 0) (n := 0) (Nat.le_refl _) (Nat.le_refl _) ?_
  have hP := keepP hP hk1
  generalize H1 = H at hP hS ⊢
  have hP : va_P (dC, dI) vwCl ([(g, .inr (iX2, [.int (nI n), .ref xa, .ref xt, .ref xm, .ref wh, .ref st, .ref xb, .ref xc])), (xa, .inl (cI, 12, .inl (ax))), (xt, .inl (cI, 12, .inl (te))), (xm, .inl (cI, 12, .inl (me))), (h, .inl (cF, 7, .inr (.inr (.inr (.inr (b))))))] ++ va_pl LP (fe v)) H := hP
  try dsimp only at hw_r_2
  subst hw_r_2
  rcases hq_4 : rinF 7 b (atF 12 ax i) with _ | a_3
  · refine W.eq (g2 := F0 m 9 ls [.null]) rfl ?_
    refine lv_astore_nN (lv' := [(3, .null), (0, .ref g), (1, .int i), (2, .ref h)]) hx hb dX2_spreadFromWheel_9 rfl hl (by decide) rfl (fun ls hl => ?_)
    refine lv_aload_nN hx hb dX2_spreadFromWheel_10 rfl (lv_at hl 0 rfl) ?_
    refine lv_ifnonnullN hx hb dX2_spreadFromWheel_11 ?_
    refine lv_iconst (v := 0) hx hb dX2_spreadFromWheel_14 (by decide) ?_
    refine W.widen (k := 12) (n := 24) (by omega) (by omega) ?_
    exact W.zret (v := 0) hx hb hr (by first | rfl | (rcases hg with rfl | rfl <;> rfl)) (fun t ht hW => ⟨⟨0, (b, LP, v), rfl, ⟨by simp [sfw, rin_none hq_4], hbk, keepL.rf, by simp [sfw, rin_none hq_4]⟩, by rw [ht]; exact hP, hAe ▸ hD⟩, hS.F ht⟩) hS.2.2 dX2_spreadFromWheel_15
  · refine W.eq (g2 := F0 m 9 ls [.ref a_3]) rfl ?_
    refine lv_astore_n (lv' := [(3, .ref a_3), (0, .ref g), (1, .int i), (2, .ref h)]) hx hb dX2_spreadFromWheel_9 rfl hl (by decide) rfl (fun ls hl => ?_)
    refine lv_aload_n hx hb dX2_spreadFromWheel_10 rfl (lv_at hl 0 rfl) ?_
    refine lv_ifnonnull (tgt := 16) hx hb dX2_spreadFromWheel_11 (by decide) ?_
    refine lv_iconst (v := 0) hx hb dX2_spreadFromWheel_16 (by decide) ?_
    refine lv_istore (lv' := [(4, .int 0), (3, .ref a_3), (0, .ref g), (1, .int i), (2, .ref h)]) hx hb dX2_spreadFromWheel_17 hl (by decide) rfl (fun ls hl => ?_)
    refine lv_iconst (v := 0) hx hb dX2_spreadFromWheel_19 (by decide) ?_
    refine lv_istore (lv' := [(5, .int 0), (4, .int 0), (3, .ref a_3), (0, .ref g), (1, .int i), (2, .ref h)]) hx hb dX2_spreadFromWheel_20 hl (by decide) rfl (fun ls hl => ?_)
    have K22 : ∀ (NN : Nat), ∀ (k : Nat) (b1 : Nat → Option Nat) (LP1 : List Nat) (v1 : Nat → Int64 × Int64) (gr : Int32), (n - k) < NN → (k ≤ n) → (bOK LP1 b1) → (keepL LP LP1 v v1) → ((abR b1 v1, gr) = sfL ax te me i (v a_3) (abR b v) k) → (gr = 0 ∨ gr = 1) → ∀ (H : Heap) (locs : List Loc) (ls : Array Slot), va_P (dC, dI) vwCl ([(g, .inr (iX2, [.int (nI n), .ref xa, .ref xt, .ref xm, .ref wh, .ref st, .ref xb, .ref xc])), (xa, .inl (cI, 12, .inl (ax))), (xt, .inl (cI, 12, .inl (te))), (xm, .inl (cI, 12, .inl (me))), (h, .inl (cF, 7, .inr (.inr (.inr (.inr (b1))))))] ++ va_pl LP1 (fe v1)) H → va_D A ([(g, .inr (iX2, [.int (nI n), .ref xa, .ref xt, .ref xm, .ref wh, .ref st, .ref xb, .ref xc])), (xa, .inl (cI, 12, .inl (ax))), (xt, .inl (cI, 12, .inl (te))), (xm, .inl (cI, 12, .inl (me))), (h, .inl (cF, 7, .inr (.inr (.inr (.inr (b1))))))] ++ va_pl LP1 (fe v1)) → va_S A s.heap H locs → lv_has ls 7 [(0, .ref g), (1, .int i), (2, .ref h), (3, .ref a_3), (4, .int gr), (5, .int (nI k))] → W p l e (headSpec wsX2_spreadFromWheel ({ frames := 3, cells := 12, slots := 24, locals := 80 } : Room)).room s m #[Value.ref g, Value.int i, Value.ref h] below meth c H locs (k) (2 * k) (MQ below (va_Qi (fun (r : Int32) (u : (Nat → Option Nat) × List Nat × (Nat → Int64 × Int64)) => r = (sfw ax te me n i (abR b v)).2 ∧ bOK u.2.1 u.1 ∧ keepL LP u.2.1 v u.2.2 ∧ abR u.1 u.2.2 = (sfw ax te me n i (abR b v)).1) (fun ⟨b1, LP1, v1⟩ t => va_P (dC, dI) vwCl ([(g, .inr (iX2, [.int (nI n), .ref xa, .ref xt, .ref xm, .ref wh, .ref st, .ref xb, .ref xc])), (xa, .inl (cI, 12, .inl (ax))), (xt, .inl (cI, 12, .inl (te))), (xm, .inl (cI, 12, .inl (me))), (h, .inl (cF, 7, .inr (.inr (.inr (.inr (b1))))))] ++ va_pl LP1 (fe v1)) t.heap ∧ va_D A ([(g, .inr (iX2, [.int (nI n), .ref xa, .ref xt, .ref xm, .ref wh, .ref st, .ref xb, .ref xc])), (xa, .inl (cI, 12, .inl (ax))), (xt, .inl (cI, 12, .inl (te))), (xm, .inl (cI, 12, .inl (me))), (h, .inl (cF, 7, .inr (.inr (.inr (.inr (b1))))))] ++ va_pl LP1 (fe v1))) A) #[Value.ref g, Value.int i, Value.ref h] s 12 24 A) (F0 m 22 ls []) := by
      intro NN
      induction NN with
      | zero =>
        intro k b1 LP1 v1 gr hmu hk hok hkp hs hg H locs ls hP hD hS hl
        exact absurd hmu (Nat.not_lt_zero _)
      | succ NN ih22 =>
        intro k b1 LP1 v1 gr hmu hk hok hkp hs hg H locs ls hP hD hS hl
        refine lv_iload hx hb dX2_spreadFromWheel_22 (lv_at hl 5 rfl) ?_
        refine lv_aload_n hx hb dX2_spreadFromWheel_24 rfl (lv_at hl 0 rfl) ?_
        refine va_get (D := (dC, dI)) (ci := iX2) (v := .int (nI n)) (C := RX2) (T := TX2) (N := 8) hx hb hts hin_X2 hown hK hP 0 rfl rfl 0 (by decide) hfl_44 (fun _ h9 => h9) rfl dX2_spreadFromWheel_25 ?_
        refine lv_icmp_ge (tgt := 99) hx hb dX2_spreadFromWheel_28 (by decide) (fun c_5 => ?_) (fun c_5 => ?_)
        · have hke : n ≤ k := leK (by omega) (by omega) c_5
          obtain rfl : k = n := by omega
          have hfin : (abR b1 v1, gr) = sfw ax te me k i (abR b v) := by rw [hs]; simp [sfw, rin_some hq_4]
          refine lv_iload hx hb dX2_spreadFromWheel_99 (lv_at hl 4 rfl) ?_
          refine W.widen (k := 12) (n := 24) (by omega) (by omega) ?_
          exact W.zret (v := gr) hx hb hr (by first | rfl | (rcases hg with rfl | rfl <;> rfl)) (fun t ht hW => ⟨⟨gr, (b1, LP1, v1), rfl, ⟨by rw [← hfin], hok, hkp, by rw [← hfin]⟩, by rw [ht]; exact hP, hAe ▸ hD⟩, hS.F ht⟩) hS.2.2 dX2_spreadFromWheel_101
        · have hkl : k < n := ltK (by omega) (by omega) c_5
          refine lv_aload_n hx hb dX2_spreadFromWheel_31 rfl (lv_at hl 0 rfl) ?_
          refine lv_iload hx hb dX2_spreadFromWheel_32 (lv_at hl 5 rfl) ?_
          have hPc : va_P (dC, dI) vwCl ([(g, .inr (iX2, [.int (nI n), .ref xa, .ref xt, .ref xm, .ref wh, .ref st, .ref xb, .ref xc])), (xa, .inl (cI, 12, .inl (ax)))]) _ := hP.sub [0, 1] rfl
          have hFc := frZ hS hA
          refine va_calli (va_runV (As := [.int (nI k)]) (rest := []) ⟨hx, hb, hml, hown, hts⟩ (c_X2_axleOf l dC dI cI cF tr (H).size g n xa xt xm wh st xb xc ax (nI k)) (cwV 1 hts gX2_spreadFromWheel_X2_axleOf rfl rfl rfl (by decide +kernel) ⟨Nat.le_of_ble_eq_true rfl, Nat.le_of_ble_eq_true rfl⟩) ⟨cBl, (va_recv hK hPc (ci := iX2) (q0 := 0) rfl rfl), (cPre hPc hK hN)⟩ rfl rfl hl.1 rfl (lv_room (Nat.le_of_ble_eq_true rfl)) dX2_spreadFromWheel_34 ⟨(by show k + 0 ≤ 12; omega), (by show 2 * k + 0 ≤ 24; omega)⟩) hS (fun q _ h => hFc q h) hFc (fun r_6 u t H1 locs ht hvm hw_r_6 hB hz1 hk1 hS => ?_)
          refine W.widen (k := k) (n := 2 * k) (Nat.le_refl _) (Nat.le_refl _) ?_
          have hP := keepP hP hk1
          generalize H1 = H at hP hS ⊢
          have hP : va_P (dC, dI) vwCl ([(g, .inr (iX2, [.int (nI n), .ref xa, .ref xt, .ref xm, .ref wh, .ref st, .ref xb, .ref xc])), (xa, .inl (cI, 12, .inl (ax))), (xt, .inl (cI, 12, .inl (te))), (xm, .inl (cI, 12, .inl (me))), (h, .inl (cF, 7, .inr (.inr (.inr (.inr (b1))))))] ++ va_pl LP1 (fe v1)) H := hP
          try dsimp only at hw_r_6
          subst hw_r_6
          refine lv_istore (lv' := [(6, .int (atF 12 ax (nI k))), (0, .ref g), (1, .int i), (2, .ref h), (3, .ref a_3), (4, .int gr), (5, .int (nI k))]) hx hb dX2_spreadFromWheel_37 hl (by decide) rfl (fun ls hl => ?_)
          refine lv_aload_n hx hb dX2_spreadFromWheel_39 rfl (lv_at hl 1 rfl) ?_
          refine lv_iload_n hx hb dX2_spreadFromWheel_40 rfl (lv_at hl 2 rfl) ?_
          refine lv_iload hx hb dX2_spreadFromWheel_41 (lv_at hl 6 rfl) ?_
          have hPc : va_P (dC, dI) vwCl ([(g, .inr (iX2, [.int (nI n), .ref xa, .ref xt, .ref xm, .ref wh, .ref st, .ref xb, .ref xc])), (xm, .inl (cI, 12, .inl (me)))]) _ := hP.sub [0, 3] rfl
          have hFc := frZ hS hA
          refine va_calli (va_runV (As := [.int i, .int (nI k)]) (rest := []) ⟨hx, hb, hml, hown, hts⟩ (c_X2_areMeshed l dC dI cI cF tr (H).size g n xa xt xm wh st xb xc me i (nI k)) (cwV 2 hts gX2_spreadFromWheel_X2_areMeshed rfl rfl rfl (by decide +kernel) ⟨Nat.le_of_ble_eq_true rfl, Nat.le_of_ble_eq_true rfl⟩) ⟨cBl, (va_recv hK hPc (ci := iX2) (q0 := 0) rfl rfl), (cPre hPc hK hN)⟩ rfl rfl hl.1 rfl (lv_room (Nat.le_of_ble_eq_true rfl)) dX2_spreadFromWheel_43 ⟨(by show k + 0 ≤ 12; omega), (by show 2 * k + 0 ≤ 24; omega)⟩) hS (fun q _ h => hFc q h) hFc (fun r_7 u t H1 locs ht hvm hw_r_7 hB hz1 hk1 hS => ?_)
          refine W.widen (k := k) (n := 2 * k) (Nat.le_refl _) (Nat.le_refl _) ?_
          have hP := keepP hP hk1
          generalize H1 = H at hP hS ⊢
          have hP : va_P (dC, dI) vwCl ([(g, .inr (iX2, [.int (nI n), .ref xa, .ref xt, .ref xm, .ref wh, .ref st, .ref xb, .ref xc])), (xa, .inl (cI, 12, .inl (ax))), (xt, .inl (cI, 12, .inl (te))), (xm, .inl (cI, 12, .inl (me))), (h, .inl (cF, 7, .inr (.inr (.inr (.inr (b1))))))] ++ va_pl LP1 (fe v1)) H := hP
          try dsimp only at hw_r_7
          subst hw_r_7
          refine lv_if_eq (tgt := 93) hx hb dX2_spreadFromWheel_46 (by decide) (fun c_8 => ?_) (fun c_8 => ?_)
          · refine lv_iinc (v := nI (k + 1)) (lv' := [(5, .int (nI (k + 1))), (6, .int (atF 12 ax (nI k))), (0, .ref g), (1, .int i), (2, .ref h), (3, .ref a_3), (4, .int gr)]) hx hb dX2_spreadFromWheel_93 hl (k := 6) rfl (nI_1 k) (by decide) rfl (fun ls hl => ?_)
            refine lv_goto (tgt := 22) hx hb dX2_spreadFromWheel_96 (by decide) ?_
            refine W.widen (k := k + 1) (n := 2 * (k + 1)) (by omega) (by omega) ?_
            exact ih22 (k + 1) b1 LP1 v1 gr (by omega) hkl hok hkp (by rw [sfL, ← hs]; simp [sfS, abR, c_8]) hg _ _ ls hP hD hS (lv_sub hl [2, 3, 4, 5, 6, 0] rfl)
          · refine lv_iload hx hb dX2_spreadFromWheel_49 (lv_at hl 0 rfl) ?_
            refine lv_if_lt (tgt := 93) hx hb dX2_spreadFromWheel_51 (by decide) (fun c_9 => ?_) (fun c_9 => ?_)
            · refine lv_iinc (v := nI (k + 1)) (lv' := [(5, .int (nI (k + 1))), (6, .int (atF 12 ax (nI k))), (0, .ref g), (1, .int i), (2, .ref h), (3, .ref a_3), (4, .int gr)]) hx hb dX2_spreadFromWheel_93 hl (k := 6) rfl (nI_1 k) (by decide) rfl (fun ls hl => ?_)
              refine lv_goto (tgt := 22) hx hb dX2_spreadFromWheel_96 (by decide) ?_
              refine W.widen (k := k + 1) (n := 2 * (k + 1)) (by omega) (by omega) ?_
              exact ih22 (k + 1) b1 LP1 v1 gr (by omega) hkl hok hkp (by rw [sfL, ← hs]; simp [sfS, abR, c_8, c_9]) hg _ _ ls hP hD hS (lv_sub hl [2, 3, 4, 5, 6, 0] rfl)
            · refine lv_iload hx hb dX2_spreadFromWheel_54 (lv_at hl 0 rfl) ?_
              refine lv_aload_n hx hb dX2_spreadFromWheel_56 rfl (lv_at hl 3 rfl) ?_
              refine va_alen (D := (dC, dI)) (v := nI 7) hx hb hK hP 4 1 rfl rfl rfl dX2_spreadFromWheel_57 ?_
              refine lv_icmp_ge (tgt := 93) hx hb dX2_spreadFromWheel_58 (by decide) (fun c_10 => ?_) (fun c_10 => ?_)
              · refine lv_iinc (v := nI (k + 1)) (lv' := [(5, .int (nI (k + 1))), (6, .int (atF 12 ax (nI k))), (0, .ref g), (1, .int i), (2, .ref h), (3, .ref a_3), (4, .int gr)]) hx hb dX2_spreadFromWheel_93 hl (k := 6) rfl (nI_1 k) (by decide) rfl (fun ls hl => ?_)
                refine lv_goto (tgt := 22) hx hb dX2_spreadFromWheel_96 (by decide) ?_
                refine W.widen (k := k + 1) (n := 2 * (k + 1)) (by omega) (by omega) ?_
                exact ih22 (k + 1) b1 LP1 v1 gr (by omega) hkl hok hkp (by rw [sfL, ← hs]; simp [sfS, abR, c_8, c_9, c_10]) hg _ _ ls hP hD hS (lv_sub hl [2, 3, 4, 5, 6, 0] rfl)
              · refine lv_aload_n hx hb dX2_spreadFromWheel_61 rfl (lv_at hl 3 rfl) ?_
                refine lv_iload hx hb dX2_spreadFromWheel_62 (lv_at hl 0 rfl) ?_
                refine va_aldq (D := (dC, dI)) hx hb hK hP 4 1 rfl rfl (vpin_of (by decide) c_9 c_10) dX2_spreadFromWheel_64 ?_
                rcases hq_12 : b1 (atF 12 ax (nI k)).toNatClampNeg with _ | a_11
                · refine lv_ifnonnullN hx hb dX2_spreadFromWheel_65 ?_
                  refine lv_aload_n hx hb dX2_spreadFromWheel_68 rfl (lv_at hl 3 rfl) ?_
                  refine lv_iload hx hb dX2_spreadFromWheel_69 (lv_at hl 0 rfl) ?_
                  refine lv_aload_n hx hb dX2_spreadFromWheel_71 rfl (lv_at hl 4 rfl) ?_
                  refine lv_aload_n hx hb dX2_spreadFromWheel_72 rfl (lv_at hl 1 rfl) ?_
                  refine lv_iload_n hx hb dX2_spreadFromWheel_73 rfl (lv_at hl 2 rfl) ?_
                  have hPc : va_P (dC, dI) vwCl ([(g, .inr (iX2, [.int (nI n), .ref xa, .ref xt, .ref xm, .ref wh, .ref st, .ref xb, .ref xc])), (xt, .inl (cI, 12, .inl (te)))]) _ := hP.sub [0, 2] rfl
                  have hFc := frZ hS hA
                  refine va_calli (va_runV (As := [.int i]) (rest := [.ref a_3, .int (atF 12 ax (nI k)), .ref h]) ⟨hx, hb, hml, hown, hts⟩ (c_X2_teethOf l dC dI cI cF tr (H).size g n xa xt xm wh st xb xc te i) (cwV 1 hts gX2_spreadFromWheel_X2_teethOf rfl rfl rfl (by decide +kernel) ⟨Nat.le_of_ble_eq_true rfl, Nat.le_of_ble_eq_true rfl⟩) ⟨cBl, (va_recv hK hPc (ci := iX2) (q0 := 0) rfl rfl), (cPre hPc hK hN)⟩ rfl rfl hl.1 rfl (lv_room (Nat.le_of_ble_eq_true rfl)) dX2_spreadFromWheel_74 ⟨(by show k + 0 ≤ 12; omega), (by show 2 * k + 0 ≤ 24; omega)⟩) hS (fun q _ h => hFc q h) hFc (fun r_13 u t H1 locs ht hvm hw_r_13 hB hz1 hk1 hS => ?_)
                  refine W.widen (k := k) (n := 2 * k) (Nat.le_refl _) (Nat.le_refl _) ?_
                  have hP := keepP hP hk1
                  generalize H1 = H at hP hS ⊢
                  have hP : va_P (dC, dI) vwCl ([(g, .inr (iX2, [.int (nI n), .ref xa, .ref xt, .ref xm, .ref wh, .ref st, .ref xb, .ref xc])), (xa, .inl (cI, 12, .inl (ax))), (xt, .inl (cI, 12, .inl (te))), (xm, .inl (cI, 12, .inl (me))), (h, .inl (cF, 7, .inr (.inr (.inr (.inr (b1))))))] ++ va_pl LP1 (fe v1)) H := hP
                  try dsimp only at hw_r_13
                  subst hw_r_13
                  refine lv_ineg hx hb dX2_spreadFromWheel_77 ?_
                  refine lv_i2l hx hb dX2_spreadFromWheel_78 rfl ?_
                  refine lv_aload_n hx hb dX2_spreadFromWheel_79 rfl (lv_at hl 1 rfl) ?_
                  refine lv_iload hx hb dX2_spreadFromWheel_80 (lv_at hl 6 rfl) ?_
                  have hPc : va_P (dC, dI) vwCl ([(g, .inr (iX2, [.int (nI n), .ref xa, .ref xt, .ref xm, .ref wh, .ref st, .ref xb, .ref xc])), (xt, .inl (cI, 12, .inl (te)))]) _ := hP.sub [0, 2] rfl
                  have hFc := frZ hS hA
                  refine va_calli (va_runV (As := [.int (nI k)]) (rest := [.long ((-(atF 12 te i)).toInt64), .ref a_3, .int (atF 12 ax (nI k)), .ref h]) ⟨hx, hb, hml, hown, hts⟩ (c_X2_teethOf l dC dI cI cF tr (H).size g n xa xt xm wh st xb xc te (nI k)) (cwV 1 hts gX2_spreadFromWheel_X2_teethOf rfl rfl rfl (by decide +kernel) ⟨Nat.le_of_ble_eq_true rfl, Nat.le_of_ble_eq_true rfl⟩) ⟨cBl, (va_recv hK hPc (ci := iX2) (q0 := 0) rfl rfl), (cPre hPc hK hN)⟩ rfl rfl hl.1 rfl (lv_room (Nat.le_of_ble_eq_true rfl)) dX2_spreadFromWheel_82 ⟨(by show k + 0 ≤ 12; omega), (by show 2 * k + 0 ≤ 24; omega)⟩) hS (fun q _ h => hFc q h) hFc (fun r_14 u t H1 locs ht hvm hw_r_14 hB hz1 hk1 hS => ?_)
                  refine W.widen (k := k) (n := 2 * k) (Nat.le_refl _) (Nat.le_refl _) ?_
                  have hP := keepP hP hk1
                  generalize H1 = H at hP hS ⊢
                  have hP : va_P (dC, dI) vwCl ([(g, .inr (iX2, [.int (nI n), .ref xa, .ref xt, .ref xm, .ref wh, .ref st, .ref xb, .ref xc])), (xa, .inl (cI, 12, .inl (ax))), (xt, .inl (cI, 12, .inl (te))), (xm, .inl (cI, 12, .inl (me))), (h, .inl (cF, 7, .inr (.inr (.inr (.inr (b1))))))] ++ va_pl LP1 (fe v1)) H := hP
                  try dsimp only at hw_r_14
                  subst hw_r_14
                  refine lv_i2l hx hb dX2_spreadFromWheel_85 rfl ?_
                  have hPo := hP
                  have hPc : va_P (dC, dI) vwCl ([(a_3, .inr (iX1, [.long ((v1 a_3).1), .long ((v1 a_3).2)]))]) _ := poolP hP (hkp a_3 (rinF_memA hbk hq_4)).1
                  have hFc := frZ hS hA
                  have hz0 := hS.1
                  refine va_callr (va_runV (As := [.long ((-(atF 12 te i)).toInt64), .long ((atF 12 te (nI k)).toInt64)]) (rest := [.int (atF 12 ax (nI k)), .ref h]) ⟨hx, hb, hml, hown, hts⟩ (c_X1_times l dC dI cI cF tr (H).size a_3 ((v1 a_3).1) ((v1 a_3).2) ((-(atF 12 te i)).toInt64) ((atF 12 te (nI k)).toInt64)) (cwV 2 hts gX2_spreadFromWheel_X1_times rfl rfl rfl (by decide +kernel) ⟨Nat.le_of_ble_eq_true rfl, Nat.le_of_ble_eq_true rfl⟩) ⟨cBl, (va_recv hK hPc (ci := iX1) (q0 := 0) rfl rfl), (cPre hPc hK hN)⟩ rfl rfl hl.1 rfl (lv_room (Nat.le_of_ble_eq_true rfl)) dX2_spreadFromWheel_86 ⟨(by show k + 1 ≤ 12; omega), (by show 2 * k + 2 ≤ 24; omega)⟩) hS (fun q _ h => hFc q h) hFc (fun u r_15 t H1 locs ht hvm hw_r_15 hB hz1 hk1 hS => ?_)
                  refine W.widen (k := k + 1) (n := 2 * k + 2) (by omega) (by omega) ?_
                  have hP := keepP hP hk1
                  obtain ⟨hB, hBn⟩ := hB
                  rw [ht] at hB
                  have hGe_r_15 : s.heap.size ≤ r_15 := Nat.le_trans hz0 hBn
                  have hD := pushD (r := r_15) (e := .inr (iX1, [.long (frU (((v1 a_3).1) * ((-(atF 12 te i)).toInt64)) (((v1 a_3).2) * ((atF 12 te (nI k)).toInt64))), .long (frL (((v1 a_3).1) * ((-(atF 12 te i)).toInt64)) (((v1 a_3).2) * ((atF 12 te (nI k)).toInt64)))])) hD hPo hBn (hA _ hGe_r_15)
                  have hfr := freshL hPo hBn
                  have hP := hP.app hB
                  rw [pushE hfr] at hP hD
                  have hP : va_P (dC, dI) vwCl ([(g, .inr (iX2, [.int (nI n), .ref xa, .ref xt, .ref xm, .ref wh, .ref st, .ref xb, .ref xc])), (xa, .inl (cI, 12, .inl (ax))), (xt, .inl (cI, 12, .inl (te))), (xm, .inl (cI, 12, .inl (me))), (h, .inl (cF, 7, .inr (.inr (.inr (.inr (b1))))))] ++ va_pl (LP1 ++ [r_15]) (fe (va_up v1 r_15 (frU (((v1 a_3).1) * ((-(atF 12 te i)).toInt64)) (((v1 a_3).2) * ((atF 12 te (nI k)).toInt64)), frL (((v1 a_3).1) * ((-(atF 12 te i)).toInt64)) (((v1 a_3).2) * ((atF 12 te (nI k)).toInt64)))))) H1 := hP
                  generalize H1 = H at hP hS ⊢
                  have hP : va_P (dC, dI) vwCl ([(g, .inr (iX2, [.int (nI n), .ref xa, .ref xt, .ref xm, .ref wh, .ref st, .ref xb, .ref xc])), (xa, .inl (cI, 12, .inl (ax))), (xt, .inl (cI, 12, .inl (te))), (xm, .inl (cI, 12, .inl (me))), (h, .inl (cF, 7, .inr (.inr (.inr (.inr (b1))))))] ++ va_pl (LP1 ++ [r_15]) (fe (va_up v1 r_15 (frU (((v1 a_3).1) * ((-(atF 12 te i)).toInt64)) (((v1 a_3).2) * ((atF 12 te (nI k)).toInt64)), frL (((v1 a_3).1) * ((-(atF 12 te i)).toInt64)) (((v1 a_3).2) * ((atF 12 te (nI k)).toInt64)))))) H := hP
                  try dsimp only at hw_r_15
                  obtain ⟨kq_16, hkq_17⟩ := va_pl_get (X := [(g, .inr (iX2, [.int (nI n), .ref xa, .ref xt, .ref xm, .ref wh, .ref st, .ref xb, .ref xc])), (xa, .inl (cI, 12, .inl (ax))), (xt, .inl (cI, 12, .inl (te))), (xm, .inl (cI, 12, .inl (me))), (h, .inl (cF, 7, .inr (.inr (.inr (.inr (b1))))))]) (f := fe (va_up v1 r_15 (frU (((v1 a_3).1) * ((-(atF 12 te i)).toInt64)) (((v1 a_3).2) * ((atF 12 te (nI k)).toInt64)), frL (((v1 a_3).1) * ((-(atF 12 te i)).toInt64)) (((v1 a_3).2) * ((atF 12 te (nI k)).toInt64))))) (List.mem_append_right _ (List.mem_singleton.mpr rfl))
                  refine va_astq (D := (dC, dI)) hx hb hK hP hD hS 4 1 kq_16 iX1 rfl rfl hkq_17 rfl (vpin_of (by decide) c_9 c_10) dX2_spreadFromWheel_89 (fun H locs hP hD hS => ?_)
                  have hP : va_P (dC, dI) vwCl ([(g, .inr (iX2, [.int (nI n), .ref xa, .ref xt, .ref xm, .ref wh, .ref st, .ref xb, .ref xc])), (xa, .inl (cI, 12, .inl (ax))), (xt, .inl (cI, 12, .inl (te))), (xm, .inl (cI, 12, .inl (me))), (h, .inl (cF, 7, .inr (.inr (.inr (.inr (va_up b1 (atF 12 ax (nI k)).toNatClampNeg (some r_15)))))))] ++ va_pl (LP1 ++ [r_15]) (fe (va_up v1 r_15 (frU (((v1 a_3).1) * ((-(atF 12 te i)).toInt64)) (((v1 a_3).2) * ((atF 12 te (nI k)).toInt64)), frL (((v1 a_3).1) * ((-(atF 12 te i)).toInt64)) (((v1 a_3).2) * ((atF 12 te (nI k)).toInt64)))))) H := hP
                  have hD : va_D A ([(g, .inr (iX2, [.int (nI n), .ref xa, .ref xt, .ref xm, .ref wh, .ref st, .ref xb, .ref xc])), (xa, .inl (cI, 12, .inl (ax))), (xt, .inl (cI, 12, .inl (te))), (xm, .inl (cI, 12, .inl (me))), (h, .inl (cF, 7, .inr (.inr (.inr (.inr (va_up b1 (atF 12 ax (nI k)).toNatClampNeg (some r_15)))))))] ++ va_pl (LP1 ++ [r_15]) (fe (va_up v1 r_15 (frU (((v1 a_3).1) * ((-(atF 12 te i)).toInt64)) (((v1 a_3).2) * ((atF 12 te (nI k)).toInt64)), frL (((v1 a_3).1) * ((-(atF 12 te i)).toInt64)) (((v1 a_3).2) * ((atF 12 te (nI k)).toInt64)))))) := hD
                  have hkq2 : keepL LP1 (LP1 ++ [r_15]) v1 (va_up v1 r_15 (frU (((v1 a_3).1) * ((-(atF 12 te i)).toInt64)) (((v1 a_3).2) * ((atF 12 te (nI k)).toInt64)), frL (((v1 a_3).1) * ((-(atF 12 te i)).toInt64)) (((v1 a_3).2) * ((atF 12 te (nI k)).toInt64)))) := keepL.push hfr
                  have hkp2 := hkp.tr hkq2
                  have hok2 := (hok.keep hkq2).put (clampLt (by decide) c_9 c_10) (List.mem_append_right _ (List.mem_singleton.mpr rfl) : r_15 ∈ LP1 ++ [r_15])
                  have hs2 : (abR (va_up b1 (atF 12 ax (nI k)).toNatClampNeg (some r_15)) (va_up v1 r_15 (frU (((v1 a_3).1) * ((-(atF 12 te i)).toInt64)) (((v1 a_3).2) * ((atF 12 te (nI k)).toInt64)), frL (((v1 a_3).1) * ((-(atF 12 te i)).toInt64)) (((v1 a_3).2) * ((atF 12 te (nI k)).toInt64)))), (1 : Int32)) = sfL ax te me i (v a_3) (abR b v) (k + 1) := by
                    rw [abR.put, abR.keep hok hkq2, va_up_self, sfL, ← hs, (hkp a_3 (rinF_memA hbk hq_4)).2]
                    simp [sfS, mulF, abR, c_8, c_9, c_10, hq_12]
                  refine lv_iconst (v := 1) hx hb dX2_spreadFromWheel_90 (by decide) ?_
                  refine lv_istore (lv' := [(4, .int 1), (6, .int (atF 12 ax (nI k))), (0, .ref g), (1, .int i), (2, .ref h), (3, .ref a_3), (5, .int (nI k))]) hx hb dX2_spreadFromWheel_91 hl (by decide) rfl (fun ls hl => ?_)
                  refine lv_iinc (v := nI (k + 1)) (lv' := [(5, .int (nI (k + 1))), (4, .int 1), (6, .int (atF 12 ax (nI k))), (0, .ref g), (1, .int i), (2, .ref h), (3, .ref a_3)]) hx hb dX2_spreadFromWheel_93 hl (k := 6) rfl (nI_1 k) (by decide) rfl (fun ls hl => ?_)
                  refine lv_goto (tgt := 22) hx hb dX2_spreadFromWheel_96 (by decide) ?_
                  refine W.widen (k := k + 1) (n := 2 * (k + 1)) (by omega) (by omega) ?_
                  exact ih22 (k + 1) (va_up b1 (atF 12 ax (nI k)).toNatClampNeg (some r_15)) (LP1 ++ [r_15]) (va_up v1 r_15 (frU (((v1 a_3).1) * ((-(atF 12 te i)).toInt64)) (((v1 a_3).2) * ((atF 12 te (nI k)).toInt64)), frL (((v1 a_3).1) * ((-(atF 12 te i)).toInt64)) (((v1 a_3).2) * ((atF 12 te (nI k)).toInt64)))) 1 (by omega) hkl hok2 hkp2 hs2 (Or.inr rfl) _ _ ls hP hD hS (lv_sub hl [3, 4, 5, 6, 1, 0] rfl)
                · refine lv_ifnonnull (tgt := 93) hx hb dX2_spreadFromWheel_65 (by decide) ?_
                  refine lv_iinc (v := nI (k + 1)) (lv' := [(5, .int (nI (k + 1))), (6, .int (atF 12 ax (nI k))), (0, .ref g), (1, .int i), (2, .ref h), (3, .ref a_3), (4, .int gr)]) hx hb dX2_spreadFromWheel_93 hl (k := 6) rfl (nI_1 k) (by decide) rfl (fun ls hl => ?_)
                  refine lv_goto (tgt := 22) hx hb dX2_spreadFromWheel_96 (by decide) ?_
                  refine W.widen (k := k + 1) (n := 2 * (k + 1)) (by omega) (by omega) ?_
                  exact ih22 (k + 1) b1 LP1 v1 gr (by omega) hkl hok hkp (by rw [sfL, ← hs]; simp [sfS, abR, c_8, c_9, c_10, hq_12]) hg _ _ ls hP hD hS (lv_sub hl [2, 3, 4, 5, 6, 0] rfl)
    refine W.widen (k := 0) (n := 2 * 0) (by omega) (by omega) ?_
    exact K22 (n - 0 + 1) 0 b LP v 0 (by omega) (Nat.zero_le _) hbk keepL.rf rfl (Or.inl rfl) _ _ ls hP hD hS (lv_sub hl [3, 4, 5, 2, 1, 0] rfl)

theorem bOK.putN {LP : List Nat} {b : Nat → Option Nat} {j : Nat} (h : bOK LP b) : bOK LP (va_up b j none) := by
  refine ⟨fun k a ha => ?_, fun k hk => ?_⟩
  · by_cases e : k = j
    · subst e
      rw [va_up_self] at ha
      cases ha
    · rw [va_up_ne _ _ e] at ha
      exact h.1 k a ha
  · by_cases e : k = j
    · subst e
      rw [va_up_self]
    · rw [va_up_ne _ _ e]
      exact h.2 k hk
theorem initStep {b : Nat → Option Nat} {i : Int32} {wh k : Nat} {x : Option Nat} (h : ∀ j, j < k → b j = if nI j = i then some wh else none) (hx : x = if nI k = i then some wh else none) : ∀ j, j < k + 1 → va_up b k x j = if nI j = i then some wh else none := by
  intro j hj
  by_cases e : j = k
  · subst e
    rw [va_up_self]
    exact hx
  · rw [va_up_ne _ _ e]
    exact h j (by omega)
theorem initEnd {LP : List Nat} {b : Nat → Option Nat} {i : Int32} {wh : Nat} {v : Nat → Int64 × Int64} (hok : bOK LP b) (h : ∀ j, j < 7 → b j = if nI j = i then some wh else none) : abR b v = r0F i (v wh) := by
  funext j
  unfold abR r0F
  by_cases hj : j < 7
  · rw [h j hj]
    by_cases e : nI j = i
    · simp [e, hj]
    · simp [e, hj]
  · rw [hok.2 j (by omega)]
    simp [hj]
theorem spR_0 (ax te me : Nat → Int32) (n m : Nat) (r : RT) : spR ax te me n m 0 r = r := by
  cases m with
  | zero => rfl
  | succ m => simp [spR]
theorem spR_a {ax te me : Nat → Int32} {n j : Nat} {g : Int32} {r f : RT} (h : spR ax te me n (7 - j) g r = f) (hj : j ≤ 7) (c : (7 : Int32) ≤ nI j) : r = f := by
  have : 7 ≤ j := leK (by decide) (by omega) c
  rw [← h, show 7 - j = 0 by omega]
  rfl
theorem spR_b {ax te me : Nat → Int32} {n j : Nat} {g : Int32} {r f : RT} (h : spR ax te me n (7 - j) g r = f) (c : g = 0) : r = f := by
  rw [← h, c, spR_0]
theorem spR_n {ax te me : Nat → Int32} {n j : Nat} {g : Int32} {r f : RT} (h : spR ax te me n (7 - j) g r = f) (hj : j < 7) (c : ¬ g = 0) : spR ax te me n (7 - (j + 1)) (swL ax te me n r n).2 (swL ax te me n r n).1 = f := by
  rw [← h, show 7 - j = (7 - (j + 1)) + 1 by omega, spR, if_neg c]

set_option maxHeartbeats 4000000 in
set_option maxRecDepth 100000 in
theorem c_X2_spreadRates (l : Launch) (dC : Nat → ClassId) (dI : Nat → Nat → Nat) (cI cF : ClassId) (tr : List (ClassId × FieldType)) (sz : Nat) (g : Nat) (n : Nat) (xa : Nat) (xt : Nat) (xm : Nat) (wh : Nat) (st : Nat) (xb : Nat) (xc : Nat) (ax : Nat → Int32) (te : Nat → Int32) (me : Nat → Int32) (h : Nat) (b : Nat → Option Nat) (LP : List Nat) (v : Nat → Int64 × Int64) (i : Int32) (hbk : bOK LP b) (hn : n ≤ 12) (hwh : wh ∈ LP) : Met l yX2_spreadRates wsX2_spreadRates ({ frames := 4, cells := 1008, slots := 2016, locals := 106 } : Room) (cPd dC dI ((cI, .int) :: (cF, .object RX1) :: tr) sz ([(g, .inr (iX2, [.int (nI n), .ref xa, .ref xt, .ref xm, .ref wh, .ref st, .ref xb, .ref xc])), (xa, .inl (cI, 12, .inl (ax))), (xt, .inl (cI, 12, .inl (te))), (xm, .inl (cI, 12, .inl (me))), (h, .inl (cF, 7, .inr (.inr (.inr (.inr (b))))))] ++ va_pl LP (fe v)) [.ref g, .int i, .ref h]) (va_Qv (fun u : (Nat → Option Nat) × List Nat × (Nat → Int64 × Int64) => bOK u.2.1 u.1 ∧ keepL LP u.2.1 v u.2.2 ∧ abR u.1 u.2.2 = sprF ax te me n i (v wh)) (fun ⟨b1, LP1, v1⟩ t => va_P (dC, dI) vwCl ([(g, .inr (iX2, [.int (nI n), .ref xa, .ref xt, .ref xm, .ref wh, .ref st, .ref xb, .ref xc])), (xa, .inl (cI, 12, .inl (ax))), (xt, .inl (cI, 12, .inl (te))), (xm, .inl (cI, 12, .inl (me))), (h, .inl (cF, 7, .inr (.inr (.inr (.inr (b1))))))] ++ va_pl LP1 (fe v1)) t.heap ∧ va_D (va_A ([(g, .inr (iX2, [.int (nI n), .ref xa, .ref xt, .ref xm, .ref wh, .ref st, .ref xb, .ref xc])), (xa, .inl (cI, 12, .inl (ax))), (xt, .inl (cI, 12, .inl (te))), (xm, .inl (cI, 12, .inl (me))), (h, .inl (cF, 7, .inr (.inr (.inr (.inr (b))))))] ++ va_pl LP (fe v)) sz) ([(g, .inr (iX2, [.int (nI n), .ref xa, .ref xt, .ref xm, .ref wh, .ref st, .ref xb, .ref xc])), (xa, .inl (cI, 12, .inl (ax))), (xt, .inl (cI, 12, .inl (te))), (xm, .inl (cI, 12, .inl (me))), (h, .inl (cF, 7, .inr (.inr (.inr (.inr (b1))))))] ++ va_pl LP1 (fe v1))) (va_A ([(g, .inr (iX2, [.int (nI n), .ref xa, .ref xt, .ref xm, .ref wh, .ref st, .ref xb, .ref xc])), (xa, .inl (cI, 12, .inl (ax))), (xt, .inl (cI, 12, .inl (te))), (xm, .inl (cI, 12, .inl (me))), (h, .inl (cF, 7, .inr (.inr (.inr (.inr (b))))))] ++ va_pl LP (fe v)) sz)) 1008 2016 (va_A ([(g, .inr (iX2, [.int (nI n), .ref xa, .ref xt, .ref xm, .ref wh, .ref st, .ref xb, .ref xc])), (xa, .inl (cI, 12, .inl (ax))), (xt, .inl (cI, 12, .inl (te))), (xm, .inl (cI, 12, .inl (me))), (h, .inl (cF, 7, .inr (.inr (.inr (.inr (b))))))] ++ va_pl LP (fe v)) sz) := by
  refine Met.ofW (cc := cX2_spreadRates) (maxL := 6) (ret := none) (by decide) rfl ?_
  intro p e s m args below meth c s₁ B hml hv
  obtain ⟨rfl, hsz, hP, hK, hN, hD0⟩ := hv
  have hx := B.exec
  have hb := B.bytes
  have hr := B.returns
  have hts := atoms_spec (ws := wsX2_spreadRates) B.pre
  have hown : s.vm.findClass RX2 = some m.cls := findClass_of_methodNamed B.named
  have hlocks := B.notSynchronized
  subst hsz
  have hD := hD0.self (sz := s.heap.size)
  generalize hAe : va_A ([(g, .inr (iX2, [.int (nI n), .ref xa, .ref xt, .ref xm, .ref wh, .ref st, .ref xb, .ref xc])), (xa, .inl (cI, 12, .inl (ax))), (xt, .inl (cI, 12, .inl (te))), (xm, .inl (cI, 12, .inl (me))), (h, .inl (cF, 7, .inr (.inr (.inr (.inr (b))))))] ++ va_pl LP (fe v)) s.heap.size = A at hD ⊢
  have hA : ∀ q : Nat, s.heap.size ≤ q → A q := fun q h => by rw [← hAe]; exact Or.inr h
  have hS : va_S A s.heap s.heap [] := va_S.rf
  have hP : va_P (dC, dI) vwCl ([(g, .inr (iX2, [.int (nI n), .ref xa, .ref xt, .ref xm, .ref wh, .ref st, .ref xb, .ref xc])), (xa, .inl (cI, 12, .inl (ax))), (xt, .inl (cI, 12, .inl (te))), (xm, .inl (cI, 12, .inl (me))), (h, .inl (cF, 7, .inr (.inr (.inr (.inr (b))))))] ++ va_pl LP (fe v)) s.heap := hP
  have hl := lv_entry ([.ref g, .int i, .ref h]) (n := 6) (Nat.le_of_ble_eq_true rfl)
  rw [lg_entry_eq]
  generalize (lg_sl ([.ref g, .int i, .ref h]) ++ List.replicate (6 - (lg_sl ([.ref g, .int i, .ref h])).length) Slot.unset).toArray = ls at hl ⊢
  have hl : lv_has ls 6 [(0, .ref g), (1, .int i), (2, .ref h)] := hl
  have hfl_44 := hts (.fieldLink RX2 44 "Greenwheels$Gearing" "wheels" "I") (by decide +kernel)
  have hin_X2 : ∀ w ∈ u_ws RX2 TX2 8, w ∈ wsX2_spreadRates := by decide +kernel
  have hfl_26 := hts (.fieldLink RX2 26 "Greenwheels$Gearing" "whole" "LGreenwheels$Fraction;") (by decide +kernel)
  refine lv_iconst (v := 0) hx hb dX2_spreadRates_0 (by decide) ?_
  refine lv_istore_n (lv' := [(3, .int 0), (0, .ref g), (1, .int i), (2, .ref h)]) hx hb dX2_spreadRates_1 rfl hl (by decide) rfl (fun ls hl => ?_)
  have K2 : ∀ (NN : Nat), ∀ (k : Nat) (b1 : Nat → Option Nat), (7 - k) < NN → (k ≤ 7) → (bOK LP b1) → (∀ j, j < k → b1 j = if nI j = i then some wh else none) → ∀ (H : Heap) (locs : List Loc) (ls : Array Slot), va_P (dC, dI) vwCl ([(g, .inr (iX2, [.int (nI n), .ref xa, .ref xt, .ref xm, .ref wh, .ref st, .ref xb, .ref xc])), (xa, .inl (cI, 12, .inl (ax))), (xt, .inl (cI, 12, .inl (te))), (xm, .inl (cI, 12, .inl (me))), (h, .inl (cF, 7, .inr (.inr (.inr (.inr (b1))))))] ++ va_pl LP (fe v)) H → va_D A ([(g, .inr (iX2, [.int (nI n), .ref xa, .ref xt, .ref xm, .ref wh, .ref st, .ref xb, .ref xc])), (xa, .inl (cI, 12, .inl (ax))), (xt, .inl (cI, 12, .inl (te))), (xm, .inl (cI, 12, .inl (me))), (h, .inl (cF, 7, .inr (.inr (.inr (.inr (b1))))))] ++ va_pl LP (fe v)) → va_S A s.heap H locs → lv_has ls 6 [(0, .ref g), (1, .int i), (2, .ref h), (3, .int (nI k))] → W p l e (headSpec wsX2_spreadRates ({ frames := 4, cells := 1008, slots := 2016, locals := 106 } : Room)).room s m #[Value.ref g, Value.int i, Value.ref h] below meth c H locs (0) (0) (MQ below (va_Qv (fun u : (Nat → Option Nat) × List Nat × (Nat → Int64 × Int64) => bOK u.2.1 u.1 ∧ keepL LP u.2.1 v u.2.2 ∧ abR u.1 u.2.2 = sprF ax te me n i (v wh)) (fun ⟨b1, LP1, v1⟩ t => va_P (dC, dI) vwCl ([(g, .inr (iX2, [.int (nI n), .ref xa, .ref xt, .ref xm, .ref wh, .ref st, .ref xb, .ref xc])), (xa, .inl (cI, 12, .inl (ax))), (xt, .inl (cI, 12, .inl (te))), (xm, .inl (cI, 12, .inl (me))), (h, .inl (cF, 7, .inr (.inr (.inr (.inr (b1))))))] ++ va_pl LP1 (fe v1)) t.heap ∧ va_D A ([(g, .inr (iX2, [.int (nI n), .ref xa, .ref xt, .ref xm, .ref wh, .ref st, .ref xb, .ref xc])), (xa, .inl (cI, 12, .inl (ax))), (xt, .inl (cI, 12, .inl (te))), (xm, .inl (cI, 12, .inl (me))), (h, .inl (cF, 7, .inr (.inr (.inr (.inr (b1))))))] ++ va_pl LP1 (fe v1))) A) #[Value.ref g, Value.int i, Value.ref h] s 1008 2016 A) (F0 m 2 ls []) := by
    intro NN
    induction NN with
    | zero =>
      intro k b1 hmu hk hok hin H locs ls hP hD hS hl
      exact absurd hmu (Nat.not_lt_zero _)
    | succ NN ih2 =>
      intro k b1 hmu hk hok hin H locs ls hP hD hS hl
      refine lv_iload_n hx hb dX2_spreadRates_2 rfl (lv_at hl 3 rfl) ?_
      refine lv_aload_n hx hb dX2_spreadRates_3 rfl (lv_at hl 2 rfl) ?_
      refine va_alen (D := (dC, dI)) (v := nI 7) hx hb hK hP 4 1 rfl rfl rfl dX2_spreadRates_4 ?_
      refine lv_icmp_ge (tgt := 30) hx hb dX2_spreadRates_5 (by decide) (fun c_1 => ?_) (fun c_1 => ?_)
      · have hke : 7 ≤ k := leK (by omega) (by omega) c_1
        obtain rfl : k = 7 := by omega
        refine lv_iconst (v := 1) hx hb dX2_spreadRates_30 (by decide) ?_
        refine lv_istore_n (lv' := [(3, .int 1), (0, .ref g), (1, .int i), (2, .ref h)]) hx hb dX2_spreadRates_31 rfl hl (by decide) rfl (fun ls hl => ?_)
        refine lv_iconst (v := 0) hx hb dX2_spreadRates_32 (by decide) ?_
        refine lv_istore (lv' := [(4, .int 0), (3, .int 1), (0, .ref g), (1, .int i), (2, .ref h)]) hx hb dX2_spreadRates_33 hl (by decide) rfl (fun ls hl => ?_)
        have K35 : ∀ (NN : Nat), ∀ (j : Nat) (gh : Int32) (b1 : Nat → Option Nat) (LP1 : List Nat) (v1 : Nat → Int64 × Int64), (7 - j) < NN → (j ≤ 7) → (bOK LP1 b1) → (keepL LP LP1 v v1) → (spR ax te me n (7 - j) gh (abR b1 v1) = sprF ax te me n i (v wh)) → ∀ (H : Heap) (locs : List Loc) (ls : Array Slot), va_P (dC, dI) vwCl ([(g, .inr (iX2, [.int (nI n), .ref xa, .ref xt, .ref xm, .ref wh, .ref st, .ref xb, .ref xc])), (xa, .inl (cI, 12, .inl (ax))), (xt, .inl (cI, 12, .inl (te))), (xm, .inl (cI, 12, .inl (me))), (h, .inl (cF, 7, .inr (.inr (.inr (.inr (b1))))))] ++ va_pl LP1 (fe v1)) H → va_D A ([(g, .inr (iX2, [.int (nI n), .ref xa, .ref xt, .ref xm, .ref wh, .ref st, .ref xb, .ref xc])), (xa, .inl (cI, 12, .inl (ax))), (xt, .inl (cI, 12, .inl (te))), (xm, .inl (cI, 12, .inl (me))), (h, .inl (cF, 7, .inr (.inr (.inr (.inr (b1))))))] ++ va_pl LP1 (fe v1)) → va_S A s.heap H locs → lv_has ls 6 [(0, .ref g), (1, .int i), (2, .ref h), (3, .int gh), (4, .int (nI j))] → W p l e (headSpec wsX2_spreadRates ({ frames := 4, cells := 1008, slots := 2016, locals := 106 } : Room)).room s m #[Value.ref g, Value.int i, Value.ref h] below meth c H locs (144 * j) (288 * j) (MQ below (va_Qv (fun u : (Nat → Option Nat) × List Nat × (Nat → Int64 × Int64) => bOK u.2.1 u.1 ∧ keepL LP u.2.1 v u.2.2 ∧ abR u.1 u.2.2 = sprF ax te me n i (v wh)) (fun ⟨b1, LP1, v1⟩ t => va_P (dC, dI) vwCl ([(g, .inr (iX2, [.int (nI n), .ref xa, .ref xt, .ref xm, .ref wh, .ref st, .ref xb, .ref xc])), (xa, .inl (cI, 12, .inl (ax))), (xt, .inl (cI, 12, .inl (te))), (xm, .inl (cI, 12, .inl (me))), (h, .inl (cF, 7, .inr (.inr (.inr (.inr (b1))))))] ++ va_pl LP1 (fe v1)) t.heap ∧ va_D A ([(g, .inr (iX2, [.int (nI n), .ref xa, .ref xt, .ref xm, .ref wh, .ref st, .ref xb, .ref xc])), (xa, .inl (cI, 12, .inl (ax))), (xt, .inl (cI, 12, .inl (te))), (xm, .inl (cI, 12, .inl (me))), (h, .inl (cF, 7, .inr (.inr (.inr (.inr (b1))))))] ++ va_pl LP1 (fe v1))) A) #[Value.ref g, Value.int i, Value.ref h] s 1008 2016 A) (F0 m 35 ls []) := by
          intro NN
          induction NN with
          | zero =>
            intro j gh b1 LP1 v1 hmu hj hok hkp hsp H locs ls hP hD hS hl
            exact absurd hmu (Nat.not_lt_zero _)
          | succ NN ih35 =>
            intro j gh b1 LP1 v1 hmu hj hok hkp hsp H locs ls hP hD hS hl
            refine lv_iload hx hb dX2_spreadRates_35 (lv_at hl 4 rfl) ?_
            refine lv_bipush (v := 7) hx hb dX2_spreadRates_37 (by decide) ?_
            refine lv_icmp_ge (tgt := 93) hx hb dX2_spreadRates_39 (by decide) (fun c_2 => ?_) (fun c_2 => ?_)
            · have hfin : abR b1 v1 = sprF ax te me n i (v wh) := by first | exact spR_b hsp c_2 | exact spR_a hsp hj c_2
              refine W.widen (k := 1008) (n := 2016) (by omega) (by omega) ?_
              exact W.vret hx hb hr (fun t ht hW => ⟨⟨(b1, LP1, v1), rfl, ⟨hok, hkp, hfin⟩, by rw [ht]; exact hP, hAe ▸ hD⟩, hS.F ht⟩) hS.2.2 dX2_spreadRates_93
            · have hjl : j < 7 := ltK (by omega) (by omega) c_2
              refine lv_iload_n hx hb dX2_spreadRates_42 rfl (lv_at hl 3 rfl) ?_
              refine lv_if_eq (tgt := 93) hx hb dX2_spreadRates_43 (by decide) (fun c_3 => ?_) (fun c_3 => ?_)
              · have hfin : abR b1 v1 = sprF ax te me n i (v wh) := by first | exact spR_b hsp c_3 | exact spR_a hsp hj c_3
                refine W.widen (k := 1008) (n := 2016) (by omega) (by omega) ?_
                exact W.vret hx hb hr (fun t ht hW => ⟨⟨(b1, LP1, v1), rfl, ⟨hok, hkp, hfin⟩, by rw [ht]; exact hP, hAe ▸ hD⟩, hS.F ht⟩) hS.2.2 dX2_spreadRates_93
              · refine lv_iconst (v := 0) hx hb dX2_spreadRates_46 (by decide) ?_
                refine lv_istore_n (lv' := [(3, .int 0), (0, .ref g), (1, .int i), (2, .ref h), (4, .int (nI j))]) hx hb dX2_spreadRates_47 rfl hl (by decide) rfl (fun ls hl => ?_)
                refine lv_iconst (v := 0) hx hb dX2_spreadRates_48 (by decide) ?_
                refine lv_istore (lv' := [(5, .int 0), (3, .int 0), (0, .ref g), (1, .int i), (2, .ref h), (4, .int (nI j))]) hx hb dX2_spreadRates_49 hl (by decide) rfl (fun ls hl => ?_)
                have K51 : ∀ (NN : Nat), ∀ (k : Nat) (gi : Int32) (b2 : Nat → Option Nat) (LP2 : List Nat) (v2 : Nat → Int64 × Int64), (n - k) < NN → (k ≤ n) → (bOK LP2 b2) → (keepL LP1 LP2 v1 v2) → ((abR b2 v2, gi) = swL ax te me n (abR b1 v1) k) → ∀ (H : Heap) (locs : List Loc) (ls : Array Slot), va_P (dC, dI) vwCl ([(g, .inr (iX2, [.int (nI n), .ref xa, .ref xt, .ref xm, .ref wh, .ref st, .ref xb, .ref xc])), (xa, .inl (cI, 12, .inl (ax))), (xt, .inl (cI, 12, .inl (te))), (xm, .inl (cI, 12, .inl (me))), (h, .inl (cF, 7, .inr (.inr (.inr (.inr (b2))))))] ++ va_pl LP2 (fe v2)) H → va_D A ([(g, .inr (iX2, [.int (nI n), .ref xa, .ref xt, .ref xm, .ref wh, .ref st, .ref xb, .ref xc])), (xa, .inl (cI, 12, .inl (ax))), (xt, .inl (cI, 12, .inl (te))), (xm, .inl (cI, 12, .inl (me))), (h, .inl (cF, 7, .inr (.inr (.inr (.inr (b2))))))] ++ va_pl LP2 (fe v2)) → va_S A s.heap H locs → lv_has ls 6 [(0, .ref g), (1, .int i), (2, .ref h), (3, .int gi), (4, .int (nI j)), (5, .int (nI k))] → W p l e (headSpec wsX2_spreadRates ({ frames := 4, cells := 1008, slots := 2016, locals := 106 } : Room)).room s m #[Value.ref g, Value.int i, Value.ref h] below meth c H locs (144 * j + 12 * k) (288 * j + 24 * k) (MQ below (va_Qv (fun u : (Nat → Option Nat) × List Nat × (Nat → Int64 × Int64) => bOK u.2.1 u.1 ∧ keepL LP u.2.1 v u.2.2 ∧ abR u.1 u.2.2 = sprF ax te me n i (v wh)) (fun ⟨b1, LP1, v1⟩ t => va_P (dC, dI) vwCl ([(g, .inr (iX2, [.int (nI n), .ref xa, .ref xt, .ref xm, .ref wh, .ref st, .ref xb, .ref xc])), (xa, .inl (cI, 12, .inl (ax))), (xt, .inl (cI, 12, .inl (te))), (xm, .inl (cI, 12, .inl (me))), (h, .inl (cF, 7, .inr (.inr (.inr (.inr (b1))))))] ++ va_pl LP1 (fe v1)) t.heap ∧ va_D A ([(g, .inr (iX2, [.int (nI n), .ref xa, .ref xt, .ref xm, .ref wh, .ref st, .ref xb, .ref xc])), (xa, .inl (cI, 12, .inl (ax))), (xt, .inl (cI, 12, .inl (te))), (xm, .inl (cI, 12, .inl (me))), (h, .inl (cF, 7, .inr (.inr (.inr (.inr (b1))))))] ++ va_pl LP1 (fe v1))) A) #[Value.ref g, Value.int i, Value.ref h] s 1008 2016 A) (F0 m 51 ls []) := by
                  intro NN
                  induction NN with
                  | zero =>
                    intro k gi b2 LP2 v2 hmu hk hok2 hkp2 hs2 H locs ls hP hD hS hl
                    exact absurd hmu (Nat.not_lt_zero _)
                  | succ NN ih51 =>
                    intro k gi b2 LP2 v2 hmu hk hok2 hkp2 hs2 H locs ls hP hD hS hl
                    refine lv_iload hx hb dX2_spreadRates_51 (lv_at hl 5 rfl) ?_
                    refine lv_aload_n hx hb dX2_spreadRates_53 rfl (lv_at hl 0 rfl) ?_
                    refine va_get (D := (dC, dI)) (ci := iX2) (v := .int (nI n)) (C := RX2) (T := TX2) (N := 8) hx hb hts hin_X2 hown hK hP 0 rfl rfl 0 (by decide) hfl_44 (fun _ h9 => h9) rfl dX2_spreadRates_54 ?_
                    refine lv_icmp_ge (tgt := 87) hx hb dX2_spreadRates_57 (by decide) (fun c_4 => ?_) (fun c_4 => ?_)
                    · have hke : n ≤ k := leK (by omega) (by omega) c_4
                      have hkn : k = n := by omega
                      rw [hkn] at hs2
                      refine lv_iinc (v := nI (j + 1)) (lv' := [(4, .int (nI (j + 1))), (0, .ref g), (1, .int i), (2, .ref h), (3, .int gi), (5, .int (nI k))]) hx hb dX2_spreadRates_87 hl (k := 4) rfl (nI_1 j) (by decide) rfl (fun ls hl => ?_)
                      refine lv_goto (tgt := 35) hx hb dX2_spreadRates_90 (by decide) ?_
                      refine W.widen (k := 144 * (j + 1)) (n := 288 * (j + 1)) (by omega) (by omega) ?_
                      exact ih35 (j + 1) gi b2 LP2 v2 (by omega) hjl hok2 (hkp.tr hkp2) (by have h9 := spR_n hsp hjl c_3; rw [← hs2] at h9; exact h9) _ _ ls hP hD hS (lv_sub hl [1, 2, 3, 4, 0] rfl)
                    · have hkl : k < n := ltK (by omega) (by omega) c_4
                      refine lv_aload_n hx hb dX2_spreadRates_60 rfl (lv_at hl 0 rfl) ?_
                      refine lv_iload hx hb dX2_spreadRates_61 (lv_at hl 5 rfl) ?_
                      have hPc : va_P (dC, dI) vwCl ([(g, .inr (iX2, [.int (nI n), .ref xa, .ref xt, .ref xm, .ref wh, .ref st, .ref xb, .ref xc])), (xm, .inl (cI, 12, .inl (me)))]) _ := hP.sub [0, 3] rfl
                      have hFc := frZ hS hA
                      refine va_calli (va_runV (As := [.int (nI k)]) (rest := []) ⟨hx, hb, hml, hown, hts⟩ (c_X2_meshedWith l dC dI cI cF tr (H).size g n xa xt xm wh st xb xc me (nI k)) (cwV 1 hts gX2_spreadRates_X2_meshedWith rfl rfl rfl (by decide +kernel) ⟨Nat.le_of_ble_eq_true rfl, Nat.le_of_ble_eq_true rfl⟩) ⟨cBl, (va_recv hK hPc (ci := iX2) (q0 := 0) rfl rfl), (cPre hPc hK hN)⟩ rfl rfl hl.1 rfl (lv_room (Nat.le_of_ble_eq_true rfl)) dX2_spreadRates_63 ⟨(by show 144 * j + 12 * k + 0 ≤ 1008; omega), (by show 288 * j + 24 * k + 0 ≤ 2016; omega)⟩) hS (fun q _ h => hFc q h) hFc (fun r_5 u t H1 locs ht hvm hw_r_5 hB hz1 hk1 hS => ?_)
                      refine W.widen (k := 144 * j + 12 * k) (n := 288 * j + 24 * k) (Nat.le_refl _) (Nat.le_refl _) ?_
                      have hP := keepP hP hk1
                      generalize H1 = H at hP hS ⊢
                      have hP : va_P (dC, dI) vwCl ([(g, .inr (iX2, [.int (nI n), .ref xa, .ref xt, .ref xm, .ref wh, .ref st, .ref xb, .ref xc])), (xa, .inl (cI, 12, .inl (ax))), (xt, .inl (cI, 12, .inl (te))), (xm, .inl (cI, 12, .inl (me))), (h, .inl (cF, 7, .inr (.inr (.inr (.inr (b2))))))] ++ va_pl LP2 (fe v2)) H := hP
                      try dsimp only at hw_r_5
                      subst hw_r_5
                      refine lv_if_eq (tgt := 81) hx hb dX2_spreadRates_66 (by decide) (fun c_6 => ?_) (fun c_6 => ?_)
                      · refine lv_iinc (v := nI (k + 1)) (lv' := [(5, .int (nI (k + 1))), (0, .ref g), (1, .int i), (2, .ref h), (3, .int gi), (4, .int (nI j))]) hx hb dX2_spreadRates_81 hl (k := 5) rfl (nI_1 k) (by decide) rfl (fun ls hl => ?_)
                        refine lv_goto (tgt := 51) hx hb dX2_spreadRates_84 (by decide) ?_
                        refine W.widen (k := 144 * j + 12 * (k + 1)) (n := 288 * j + 24 * (k + 1)) (by omega) (by omega) ?_
                        exact ih51 (k + 1) gi b2 LP2 v2 (by omega) hkl hok2 hkp2 (by rw [swL, ← hs2]; simp [swS, c_6]) _ _ ls hP hD hS (lv_sub hl [1, 2, 3, 4, 5, 0] rfl)
                      · refine lv_aload_n hx hb dX2_spreadRates_69 rfl (lv_at hl 0 rfl) ?_
                        refine lv_iload hx hb dX2_spreadRates_70 (lv_at hl 5 rfl) ?_
                        refine lv_aload_n hx hb dX2_spreadRates_72 rfl (lv_at hl 2 rfl) ?_
                        have hPc : va_P (dC, dI) vwCl ([(g, .inr (iX2, [.int (nI n), .ref xa, .ref xt, .ref xm, .ref wh, .ref st, .ref xb, .ref xc])), (xa, .inl (cI, 12, .inl (ax))), (xt, .inl (cI, 12, .inl (te))), (xm, .inl (cI, 12, .inl (me))), (h, .inl (cF, 7, .inr (.inr (.inr (.inr (b2))))))] ++ va_pl LP2 (fe v2)) _ := hP.part [0, 1, 2, 3, 4] rfl
                        have hDc : va_D (fun _ => True) ([(g, .inr (iX2, [.int (nI n), .ref xa, .ref xt, .ref xm, .ref wh, .ref st, .ref xb, .ref xc])), (xa, .inl (cI, 12, .inl (ax))), (xt, .inl (cI, 12, .inl (te))), (xm, .inl (cI, 12, .inl (me))), (h, .inl (cF, 7, .inr (.inr (.inr (.inr (b2))))))] ++ va_pl LP2 (fe v2)) := (hD.part (cx := [(g, .inr (iX2, [.int (nI n), .ref xa, .ref xt, .ref xm, .ref wh, .ref st, .ref xb, .ref xc])), (xa, .inl (cI, 12, .inl (ax))), (xt, .inl (cI, 12, .inl (te))), (xm, .inl (cI, 12, .inl (me))), (h, .inl (cF, 7, .inr (.inr (.inr (.inr (b2))))))]) [0, 1, 2, 3, 4] (by decide) rfl).weaken (fun _ _ _ _ => trivial)
                        have hFc := va_freeP (cx := [(g, .inr (iX2, [.int (nI n), .ref xa, .ref xt, .ref xm, .ref wh, .ref st, .ref xb, .ref xc])), (xa, .inl (cI, 12, .inl (ax))), (xt, .inl (cI, 12, .inl (te))), (xm, .inl (cI, 12, .inl (me))), (h, .inl (cF, 7, .inr (.inr (.inr (.inr (b2))))))]) hD hS hA [0, 1, 2, 3, 4] rfl
                        refine va_calli (va_runV (As := [.int (nI k), .ref h]) (rest := []) ⟨hx, hb, hml, hown, hts⟩ (c_X2_spreadFromWheel l dC dI cI cF tr (H).size g n xa xt xm wh st xb xc ax te me h b2 LP2 v2 (nI k) hok2 hn) (cwV 2 hts gX2_spreadRates_X2_spreadFromWheel rfl rfl rfl (by decide +kernel) ⟨Nat.le_of_ble_eq_true rfl, Nat.le_of_ble_eq_true rfl⟩) ⟨cDbl, (va_recv hK hPc (ci := iX2) (q0 := 0) rfl rfl), (cDpre hPc hK hN hDc)⟩ rfl rfl hl.1 rfl (lv_room (Nat.le_of_ble_eq_true rfl)) dX2_spreadRates_73 ⟨(by show 144 * j + 12 * k + 12 ≤ 1008; omega), (by show 288 * j + 24 * k + 24 ≤ 2016; omega)⟩) hS (fun q _ h => hFc q h) hFc (fun r_7 u t H1 locs ht hvm hw_r_7 hB hz1 hk1 hS => ?_)
                        refine W.widen (k := 144 * j + 12 * k + 12) (n := 288 * j + 24 * k + 24) (by omega) (by omega) ?_
                        obtain ⟨hP1, hD1⟩ := hB
                        rw [ht] at hP1
                        obtain ⟨b1_8, LP1_9, v1_10⟩ := u
                        obtain ⟨hP, hD⟩ := va_joinP (wr := []) (rx := [(g, .inr (iX2, [.int (nI n), .ref xa, .ref xt, .ref xm, .ref wh, .ref st, .ref xb, .ref xc])), (xa, .inl (cI, 12, .inl (ax))), (xt, .inl (cI, 12, .inl (te))), (xm, .inl (cI, 12, .inl (me))), (h, .inl (cF, 7, .inr (.inr (.inr (.inr (b1_8))))))]) (pl1 := va_pl LP1_9 (fe v1_10)) hP hD [0, 1, 2, 3, 4] [] rfl rfl (by decide) (by decide) hk1 hFc hP1 hD1
                        have hD := hD.part (cx := [(g, .inr (iX2, [.int (nI n), .ref xa, .ref xt, .ref xm, .ref wh, .ref st, .ref xb, .ref xc])), (xa, .inl (cI, 12, .inl (ax))), (xt, .inl (cI, 12, .inl (te))), (xm, .inl (cI, 12, .inl (me))), (h, .inl (cF, 7, .inr (.inr (.inr (.inr (b1_8))))))]) [0, 1, 2, 3, 4] (by decide) rfl
                        have hP : va_P (dC, dI) vwCl ([(g, .inr (iX2, [.int (nI n), .ref xa, .ref xt, .ref xm, .ref wh, .ref st, .ref xb, .ref xc])), (xa, .inl (cI, 12, .inl (ax))), (xt, .inl (cI, 12, .inl (te))), (xm, .inl (cI, 12, .inl (me))), (h, .inl (cF, 7, .inr (.inr (.inr (.inr (b1_8))))))] ++ va_pl LP1_9 (fe v1_10)) H1 := hP.part [0, 1, 2, 3, 4] rfl
                        generalize H1 = H at hP hS ⊢
                        have hP : va_P (dC, dI) vwCl ([(g, .inr (iX2, [.int (nI n), .ref xa, .ref xt, .ref xm, .ref wh, .ref st, .ref xb, .ref xc])), (xa, .inl (cI, 12, .inl (ax))), (xt, .inl (cI, 12, .inl (te))), (xm, .inl (cI, 12, .inl (me))), (h, .inl (cF, 7, .inr (.inr (.inr (.inr (b1_8))))))] ++ va_pl LP1_9 (fe v1_10)) H := hP
                        have hD : va_D A ([(g, .inr (iX2, [.int (nI n), .ref xa, .ref xt, .ref xm, .ref wh, .ref st, .ref xb, .ref xc])), (xa, .inl (cI, 12, .inl (ax))), (xt, .inl (cI, 12, .inl (te))), (xm, .inl (cI, 12, .inl (me))), (h, .inl (cF, 7, .inr (.inr (.inr (.inr (b1_8))))))] ++ va_pl LP1_9 (fe v1_10)) := hD
                        try dsimp only at hw_r_7
                        obtain ⟨hq1, hq2, hq3, hq4⟩ := hw_r_7
                        refine lv_if_eq (tgt := 81) hx hb dX2_spreadRates_76 (by decide) (fun c_11 => ?_) (fun c_11 => ?_)
                        · refine lv_iinc (v := nI (k + 1)) (lv' := [(5, .int (nI (k + 1))), (0, .ref g), (1, .int i), (2, .ref h), (3, .int gi), (4, .int (nI j))]) hx hb dX2_spreadRates_81 hl (k := 5) rfl (nI_1 k) (by decide) rfl (fun ls hl => ?_)
                          refine lv_goto (tgt := 51) hx hb dX2_spreadRates_84 (by decide) ?_
                          refine W.widen (k := 144 * j + 12 * (k + 1)) (n := 288 * j + 24 * (k + 1)) (by omega) (by omega) ?_
                          exact ih51 (k + 1) gi b1_8 LP1_9 v1_10 (by omega) hkl hq2 (hkp2.tr hq3) (by rw [swL, ← hs2]; simp [swS, c_6, hq4, ← hq1, c_11]) _ _ ls hP hD hS (lv_sub hl [1, 2, 3, 4, 5, 0] rfl)
                        · refine lv_iconst (v := 1) hx hb dX2_spreadRates_79 (by decide) ?_
                          refine lv_istore_n (lv' := [(3, .int 1), (0, .ref g), (1, .int i), (2, .ref h), (4, .int (nI j)), (5, .int (nI k))]) hx hb dX2_spreadRates_80 rfl hl (by decide) rfl (fun ls hl => ?_)
                          refine lv_iinc (v := nI (k + 1)) (lv' := [(5, .int (nI (k + 1))), (3, .int 1), (0, .ref g), (1, .int i), (2, .ref h), (4, .int (nI j))]) hx hb dX2_spreadRates_81 hl (k := 5) rfl (nI_1 k) (by decide) rfl (fun ls hl => ?_)
                          refine lv_goto (tgt := 51) hx hb dX2_spreadRates_84 (by decide) ?_
                          refine W.widen (k := 144 * j + 12 * (k + 1)) (n := 288 * j + 24 * (k + 1)) (by omega) (by omega) ?_
                          exact ih51 (k + 1) 1 b1_8 LP1_9 v1_10 (by omega) hkl hq2 (hkp2.tr hq3) (by rw [swL, ← hs2]; simp [swS, c_6, hq4, ← hq1, c_11]) _ _ ls hP hD hS (lv_sub hl [2, 3, 4, 1, 5, 0] rfl)
                refine W.widen (k := 144 * j + 12 * 0) (n := 288 * j + 24 * 0) (by omega) (by omega) ?_
                exact K51 (n - 0 + 1) 0 0 b1 LP1 v1 (by omega) (Nat.zero_le _) hok keepL.rf rfl _ _ ls hP hD hS (lv_sub hl [2, 3, 4, 1, 5, 0] rfl)
        refine W.widen (k := 144 * 0) (n := 288 * 0) (by omega) (by omega) ?_
        exact K35 (7 - 0 + 1) 0 1 b1 LP v (by omega) (Nat.zero_le _) hok keepL.rf (by rw [initEnd hok hin]; rfl) _ _ ls hP hD hS (lv_sub hl [2, 3, 4, 1, 0] rfl)
      · have hkl : k < 7 := ltK (by omega) (by omega) c_1
        refine lv_aload_n hx hb dX2_spreadRates_8 rfl (lv_at hl 2 rfl) ?_
        refine lv_iload_n hx hb dX2_spreadRates_9 rfl (lv_at hl 3 rfl) ?_
        refine lv_iload_n hx hb dX2_spreadRates_10 rfl (lv_at hl 3 rfl) ?_
        refine lv_iload_n hx hb dX2_spreadRates_11 rfl (lv_at hl 1 rfl) ?_
        refine lv_icmp_ne (tgt := 22) hx hb dX2_spreadRates_12 (by decide) (fun c_12 => ?_) (fun c_12 => ?_)
        · refine lv_null hx hb dX2_spreadRates_22 ?_
          refine va_astqN (D := (dC, dI)) hx hb hK hP hD hS 4 1 rfl rfl (vp_in_nI hkl (by decide)) dX2_spreadRates_23 (fun H locs hP hD hS => ?_)
          rw [show (nI k).toNatClampNeg = k from nI_clamp (by omega)] at hP hD
          have hP : va_P (dC, dI) vwCl ([(g, .inr (iX2, [.int (nI n), .ref xa, .ref xt, .ref xm, .ref wh, .ref st, .ref xb, .ref xc])), (xa, .inl (cI, 12, .inl (ax))), (xt, .inl (cI, 12, .inl (te))), (xm, .inl (cI, 12, .inl (me))), (h, .inl (cF, 7, .inr (.inr (.inr (.inr (va_up b1 k none))))))] ++ va_pl LP (fe v)) H := hP
          have hD : va_D A ([(g, .inr (iX2, [.int (nI n), .ref xa, .ref xt, .ref xm, .ref wh, .ref st, .ref xb, .ref xc])), (xa, .inl (cI, 12, .inl (ax))), (xt, .inl (cI, 12, .inl (te))), (xm, .inl (cI, 12, .inl (me))), (h, .inl (cF, 7, .inr (.inr (.inr (.inr (va_up b1 k none))))))] ++ va_pl LP (fe v)) := hD
          refine lv_iinc (v := nI (k + 1)) (lv' := [(3, .int (nI (k + 1))), (0, .ref g), (1, .int i), (2, .ref h)]) hx hb dX2_spreadRates_24 hl (k := 3) rfl (nI_1 k) (by decide) rfl (fun ls hl => ?_)
          refine lv_goto (tgt := 2) hx hb dX2_spreadRates_27 (by decide) ?_
          refine W.widen (k := 0) (n := 0) (by omega) (by omega) ?_
          exact ih2 (k + 1) (va_up b1 k none) (by omega) hkl hok.putN (initStep hin (by rw [if_neg c_12])) _ _ ls hP hD hS (lv_sub hl [1, 2, 3, 0] rfl)
        · refine lv_aload_n hx hb dX2_spreadRates_15 rfl (lv_at hl 0 rfl) ?_
          refine va_get (D := (dC, dI)) (ci := iX2) (v := .ref wh) (C := RX2) (T := TX2) (N := 8) hx hb hts hin_X2 hown hK hP 0 rfl rfl 4 (by decide) hfl_26 (fun _ h9 => h9) rfl dX2_spreadRates_16 ?_
          refine lv_goto (tgt := 23) hx hb dX2_spreadRates_19 (by decide) ?_
          obtain ⟨kq_13, hkq_14⟩ := va_pl_get (X := [(g, .inr (iX2, [.int (nI n), .ref xa, .ref xt, .ref xm, .ref wh, .ref st, .ref xb, .ref xc])), (xa, .inl (cI, 12, .inl (ax))), (xt, .inl (cI, 12, .inl (te))), (xm, .inl (cI, 12, .inl (me))), (h, .inl (cF, 7, .inr (.inr (.inr (.inr (b1))))))]) (f := fe v) hwh
          refine va_astq (D := (dC, dI)) hx hb hK hP hD hS 4 1 kq_13 iX1 rfl rfl hkq_14 rfl (vp_in_nI hkl (by decide)) dX2_spreadRates_23 (fun H locs hP hD hS => ?_)
          rw [show (nI k).toNatClampNeg = k from nI_clamp (by omega)] at hP hD
          have hP : va_P (dC, dI) vwCl ([(g, .inr (iX2, [.int (nI n), .ref xa, .ref xt, .ref xm, .ref wh, .ref st, .ref xb, .ref xc])), (xa, .inl (cI, 12, .inl (ax))), (xt, .inl (cI, 12, .inl (te))), (xm, .inl (cI, 12, .inl (me))), (h, .inl (cF, 7, .inr (.inr (.inr (.inr (va_up b1 k (some wh)))))))] ++ va_pl LP (fe v)) H := hP
          have hD : va_D A ([(g, .inr (iX2, [.int (nI n), .ref xa, .ref xt, .ref xm, .ref wh, .ref st, .ref xb, .ref xc])), (xa, .inl (cI, 12, .inl (ax))), (xt, .inl (cI, 12, .inl (te))), (xm, .inl (cI, 12, .inl (me))), (h, .inl (cF, 7, .inr (.inr (.inr (.inr (va_up b1 k (some wh)))))))] ++ va_pl LP (fe v)) := hD
          refine lv_iinc (v := nI (k + 1)) (lv' := [(3, .int (nI (k + 1))), (0, .ref g), (1, .int i), (2, .ref h)]) hx hb dX2_spreadRates_24 hl (k := 3) rfl (nI_1 k) (by decide) rfl (fun ls hl => ?_)
          refine lv_goto (tgt := 2) hx hb dX2_spreadRates_27 (by decide) ?_
          refine W.widen (k := 0) (n := 0) (by omega) (by omega) ?_
          exact ih2 (k + 1) (va_up b1 k (some wh)) (by omega) hkl (hok.put hkl hwh) (initStep hin (by rw [if_pos c_12])) _ _ ls hP hD hS (lv_sub hl [1, 2, 3, 0] rfl)
  refine W.widen (k := 0) (n := 0) (by omega) (by omega) ?_
  exact K2 (7 - 0 + 1) 0 b (by omega) (Nat.zero_le _) hbk (fun j hj => absurd hj (Nat.not_lt_zero j)) _ _ ls hP hD hS (lv_sub hl [1, 2, 3, 0] rfl)
