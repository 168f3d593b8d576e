/-! hangs: it calls itself, for a smaller claim each time; one contract for each depth -/
def hgL (b : Int32) (F : Nat → Int32) : Nat → Int32
  | 0 => 0
  | k + 1 => if hgL b F k = 1 then 1 else if b >>> (nI k &&& 31) &&& 1 = 1 then (if F k = 0 then 0 else 1) else 0
def hgF (cn : Nat) (wd : Int32) (nr : Nat → Int32) : Nat → Nat → Int32
  | 0, _ => 0
  | d + 1, k => if ocF cn wd nr (nI k) 1 = 1 then 1 else hgL (ocF cn wd nr (nI k) 0) (hgF cn wd nr d) k
theorem hgL_up {b : Int32} {F : Nat → Int32} {j : Nat} (h : hgL b F j = 1) : ∀ k, j ≤ k → hgL b F k = 1 := by
  intro k hk
  induction hk with
  | refl => exact h
  | step _ ih => rw [hgL, if_pos ih]

set_option maxHeartbeats 4000000 in
set_option maxRecDepth 100000 in
theorem c_L_hangs_1 (l : Launch) (dC : Nat → ClassId) (dI : Nat → Nat → Nat) (cI cF : ClassId) (tr : List (ClassId × FieldType)) (sz : Nat) (o : Nat) (ce : Nat) (lu : Nat) (cl : Nat) (se : Nat) (tu : Int32) (ja : Int32) (re : Int32) (g : Nat) (cn : Nat) (wd : Int32) (xn : Nat) (xf : Nat) (nr : Nat → Int32) (kz : Nat) (hcn : cn ≤ 12) (hkn : kz < cn) (hkd : kz < 1) : Met l yL_hangs wsL_hangs ({ frames := 5, cells := 0, slots := 0, locals := 107 } : Room) (cPc dC dI ((cI, .int) :: (cF, .object RX1) :: tr) sz ([(o, .inr (iX5, [.ref g, .ref ce, .ref lu, .ref cl, .ref se, .int tu, .int ja, .int re])), (cl, .inr (iX0, [.int (nI cn), .int wd, .ref xn, .ref xf])), (xn, .inl (cI, 12, .inl (nr)))]) [.ref o, .int (nI kz)]) (va_Qi (fun (r : Int32) (_ : Unit) => r = hgF cn wd nr 1 kz) (fun _ _ => True) (va_A ([]) sz)) 0 0 (va_A ([]) sz) := by
  refine Met.ofW (cc := cL_hangs) (maxL := 3) (ret := (some .boolean)) (by decide) rfl ?_
  intro p e s m args below meth c s₁ B hml hv
  obtain ⟨rfl, hsz, hP, hK, hN⟩ := hv
  have hx := B.exec
  have hb := B.bytes
  have hr := B.returns
  have hts := atoms_spec (ws := wsL_hangs) B.pre
  have hown : s.vm.findClass RL = some m.cls := findClass_of_methodNamed B.named
  have hlocks := B.notSynchronized
  subst hsz
  generalize hAe : va_A [] s.heap.size = A
  have hA : ∀ q : Nat, s.heap.size ≤ q → A q := fun q h => by rw [← hAe]; exact Or.inr h
  have hS : va_S A s.heap s.heap [] := va_S.rf
  have hAn : ∀ q : Nat, q < s.heap.size → ¬ A q := fun q h => by rw [← hAe]; exact notZ h
  have hAg : ∀ q : Nat, A q → s.heap.size ≤ q := fun q h => geZ (hAe ▸ h)
  have hR0 : va_P (dC, dI) vwCl ([(o, .inr (iX5, [.ref g, .ref ce, .ref lu, .ref cl, .ref se, .int tu, .int ja, .int re])), (cl, .inr (iX0, [.int (nI cn), .int wd, .ref xn, .ref xf])), (xn, .inl (cI, 12, .inl (nr)))]) s.heap := hP
  have hR : va_P (dC, dI) vwCl ([(o, .inr (iX5, [.ref g, .ref ce, .ref lu, .ref cl, .ref se, .int tu, .int ja, .int re])), (cl, .inr (iX0, [.int (nI cn), .int wd, .ref xn, .ref xf])), (xn, .inl (cI, 12, .inl (nr)))]) s.heap := hP
  have hP : va_P (dC, dI) vwCl [] s.heap := fun k q h => by simp at h
  have hD : va_D A [] := ⟨fun i j p q h => by simp at h, fun k q h => by simp at h⟩
  have hl := lv_entry ([.ref o, .int (nI kz)]) (n := 3) (Nat.le_of_ble_eq_true rfl)
  rw [lg_entry_eq]
  generalize (lg_sl ([.ref o, .int (nI kz)]) ++ List.replicate (3 - (lg_sl ([.ref o, .int (nI kz)])).length) Slot.unset).toArray = ls at hl ⊢
  have hl : lv_has ls 3 [(0, .ref o), (1, .int (nI kz))] := hl
  refine lv_aload_n hx hb dL_hangs_0 rfl (lv_at hl 0 rfl) ?_
  refine lv_iload_n hx hb dL_hangs_1 rfl (lv_at hl 1 rfl) ?_
  refine lv_iconst (v := 1) hx hb dL_hangs_2 (by decide) ?_
  have hPc : va_P (dC, dI) vwCl ([(o, .inr (iX5, [.ref g, .ref ce, .ref lu, .ref cl, .ref se, .int tu, .int ja, .int re])), (cl, .inr (iX0, [.int (nI cn), .int wd, .ref xn, .ref xf])), (xn, .inl (cI, 12, .inl (nr)))]) _ := hR.sub [0, 1, 2] rfl
  have hFc := frZ hS hA
  refine va_calli (va_runV (As := [.int (nI kz), .int 1]) (rest := []) ⟨hx, hb, hml, hown, hts⟩ (c_p_X5_ofClaim l dC dI cI cF tr (s.heap).size o ce lu cl se tu ja re g cn wd xn xf nr (nI kz) 1 (winW hkn (by omega)) (winK (k := 1) (b := 3) (by decide) (by decide)) hcn) (cwV 2 hts gL_hangs_X5_ofClaim rfl rfl rfl (by decide +kernel) ⟨Nat.le_of_ble_eq_true rfl, Nat.le_of_ble_eq_true rfl⟩) ⟨cBl, (va_recv hK hPc (ci := iX5) (q0 := 0) rfl rfl), (cPre hPc hK hN)⟩ rfl rfl hl.1 rfl (lv_room (Nat.le_of_ble_eq_true rfl)) dL_hangs_3 ⟨(Nat.le_of_ble_eq_true rfl), (Nat.le_of_ble_eq_true rfl)⟩) hS (fun q _ h => hFc q h) hFc (fun r_1 u t H1 locs ht hvm hw_r_1 hB hz1 hk1 hS => ?_)
  refine W.widen (k := 0) (n := 0) (Nat.le_refl _) (Nat.le_refl _) ?_
  have hP := keepP hP hk1
  have hR := keepP hR hk1
  generalize H1 = H at hP hR hS ⊢
  have hP : va_P (dC, dI) vwCl ([]) H := hP
  try dsimp only at hw_r_1
  subst hw_r_1
  refine lv_iconst (v := 1) hx hb dL_hangs_6 (by decide) ?_
  refine lv_icmp_ne (tgt := 12) hx hb dL_hangs_7 (by decide) (fun c_2 => ?_) (fun c_2 => ?_)
  · refine lv_iconst (v := 0) hx hb dL_hangs_12 (by decide) ?_
    refine lv_istore_n (lv' := [(2, .int 0), (0, .ref o), (1, .int (nI kz))]) hx hb dL_hangs_13 rfl hl (by decide) rfl (fun ls hl => ?_)
    have K14 : ∀ (NN : Nat), ∀ (jz : Nat), (kz - jz) < NN → (jz ≤ kz) → (hgL (ocF cn wd nr (nI kz) 0) (hgF cn wd nr 0) jz = 0) → ∀ (H : Heap) (locs : List Loc) (ls : Array Slot), va_P (dC, dI) vwCl ([]) H → va_S A s.heap H locs → lv_has ls 3 [(0, .ref o), (1, .int (nI kz)), (2, .int (nI jz))] → W p l e (headSpec wsL_hangs ({ frames := 5, cells := 0, slots := 0, locals := 107 } : Room)).room s m #[Value.ref o, Value.int (nI kz)] below meth c H locs (0) (0) (MQ below (va_Qi (fun (r : Int32) (_ : Unit) => r = hgF cn wd nr 1 kz) (fun _ _ => True) A) #[Value.ref o, Value.int (nI kz)] s 0 0 A) (F0 m 14 ls []) := by
      intro NN
      induction NN with
      | zero =>
        intro jz hmu hj hin H locs ls hP hS hl
        exact absurd hmu (Nat.not_lt_zero _)
      | succ NN ih14 =>
        intro jz hmu hj hin H locs ls hP hS hl
        have hR := keepR hR0 hS hAn
        refine lv_iload_n hx hb dL_hangs_14 rfl (lv_at hl 2 rfl) ?_
        refine lv_iload_n hx hb dL_hangs_15 rfl (lv_at hl 1 rfl) ?_
        refine lv_icmp_ge (tgt := 49) hx hb dL_hangs_16 (by decide) (fun c_3 => ?_) (fun c_3 => ?_)
        · have hke : kz ≤ jz := leK (by omega) (by omega) c_3
          obtain rfl : jz = kz := by omega
          refine lv_iconst (v := 0) hx hb dL_hangs_49 (by decide) ?_
          refine W.widen (k := 0) (n := 0) (by omega) (by omega) ?_
          exact W.zret (v := 0) hx hb hr (by first | rfl | simp [narrow] | assumption) (fun t ht hW => ⟨⟨0, (), rfl, (by rw [hgF, if_neg c_2, hin]), trivial⟩, hS.F ht⟩) hS.2.2 dL_hangs_50
        · have hjl : jz < kz := ltK (by omega) (by omega) c_3
          refine lv_aload_n hx hb dL_hangs_19 rfl (lv_at hl 0 rfl) ?_
          refine lv_iload_n hx hb dL_hangs_20 rfl (lv_at hl 1 rfl) ?_
          refine lv_iconst (v := 0) hx hb dL_hangs_21 (by decide) ?_
          have hPc : va_P (dC, dI) vwCl ([(o, .inr (iX5, [.ref g, .ref ce, .ref lu, .ref cl, .ref se, .int tu, .int ja, .int re])), (cl, .inr (iX0, [.int (nI cn), .int wd, .ref xn, .ref xf])), (xn, .inl (cI, 12, .inl (nr)))]) _ := hR.sub [0, 1, 2] rfl
          have hFc := frZ hS hA
          refine va_calli (va_runV (As := [.int (nI kz), .int 0]) (rest := []) ⟨hx, hb, hml, hown, hts⟩ (c_p_X5_ofClaim l dC dI cI cF tr (H).size o ce lu cl se tu ja re g cn wd xn xf nr (nI kz) 0 (winW hkn (by omega)) (winK (k := 0) (b := 3) (by decide) (by decide)) hcn) (cwV 2 hts gL_hangs_X5_ofClaim rfl rfl rfl (by decide +kernel) ⟨Nat.le_of_ble_eq_true rfl, Nat.le_of_ble_eq_true rfl⟩) ⟨cBl, (va_recv hK hPc (ci := iX5) (q0 := 0) rfl rfl), (cPre hPc hK hN)⟩ rfl rfl hl.1 rfl (lv_room (Nat.le_of_ble_eq_true rfl)) dL_hangs_22 ⟨(Nat.le_of_ble_eq_true rfl), (Nat.le_of_ble_eq_true rfl)⟩) hS (fun q _ h => hFc q h) hFc (fun r_4 u t H1 locs ht hvm hw_r_4 hB hz1 hk1 hS => ?_)
          refine W.widen (k := 0) (n := 0) (Nat.le_refl _) (Nat.le_refl _) ?_
          have hP := keepP hP hk1
          have hR := keepP hR hk1
          generalize H1 = H at hP hR hS ⊢
          have hP : va_P (dC, dI) vwCl ([]) H := hP
          try dsimp only at hw_r_4
          subst hw_r_4
          refine lv_iload_n hx hb dL_hangs_25 rfl (lv_at hl 2 rfl) ?_
          refine lv_ishr hx hb dL_hangs_26 ?_
          refine lv_iconst (v := 1) hx hb dL_hangs_27 (by decide) ?_
          refine lv_iand hx hb dL_hangs_28 ?_
          refine lv_iconst (v := 1) hx hb dL_hangs_29 (by decide) ?_
          refine lv_icmp_ne (tgt := 43) hx hb dL_hangs_30 (by decide) (fun c_5 => ?_) (fun c_5 => ?_)
          · refine lv_iinc (v := nI (jz + 1)) (lv' := [(2, .int (nI (jz + 1))), (0, .ref o), (1, .int (nI kz))]) hx hb dL_hangs_43 hl (k := 2) rfl (nI_1 jz) (by decide) rfl (fun ls hl => ?_)
            refine lv_goto (tgt := 14) hx hb dL_hangs_46 (by decide) ?_
            refine W.widen (k := 0) (n := 0) (by omega) (by omega) ?_
            exact ih14 (jz + 1) (by omega) hjl (by rw [hgL, hin, if_neg (by decide)]; first | rw [if_neg c_5] | rw [if_pos c_3, if_pos c_5]) _ _ ls hP hS (lv_sub hl [1, 2, 0] rfl)
          · exact absurd hkd (by omega)
    refine W.widen (k := 0) (n := 0) (by omega) (by omega) ?_
    exact K14 (kz - 0 + 1) 0 (by omega) (Nat.zero_le _) rfl _ _ ls hP hS (lv_sub hl [1, 2, 0] rfl)
  · refine lv_iconst (v := 1) hx hb dL_hangs_10 (by decide) ?_
    refine W.widen (k := 0) (n := 0) (by omega) (by omega) ?_
    exact W.zret (v := 1) hx hb hr (by first | rfl | simp [narrow] | assumption) (fun t ht hW => ⟨⟨1, (), rfl, (by rw [hgF, if_pos c_2]), trivial⟩, hS.F ht⟩) hS.2.2 dL_hangs_11

set_option maxHeartbeats 4000000 in
set_option maxRecDepth 100000 in
theorem c_L_hangs_2 (l : Launch) (dC : Nat → ClassId) (dI : Nat → Nat → Nat) (cI cF : ClassId) (tr : List (ClassId × FieldType)) (sz : Nat) (o : Nat) (ce : Nat) (lu : Nat) (cl : Nat) (se : Nat) (tu : Int32) (ja : Int32) (re : Int32) (g : Nat) (cn : Nat) (wd : Int32) (xn : Nat) (xf : Nat) (nr : Nat → Int32) (kz : Nat) (hcn : cn ≤ 12) (hkn : kz < cn) (hkd : kz < 2) : Met l yL_hangs wsL_hangs ({ frames := 6, cells := 0, slots := 0, locals := 129 } : Room) (cPc dC dI ((cI, .int) :: (cF, .object RX1) :: tr) sz ([(o, .inr (iX5, [.ref g, .ref ce, .ref lu, .ref cl, .ref se, .int tu, .int ja, .int re])), (cl, .inr (iX0, [.int (nI cn), .int wd, .ref xn, .ref xf])), (xn, .inl (cI, 12, .inl (nr)))]) [.ref o, .int (nI kz)]) (va_Qi (fun (r : Int32) (_ : Unit) => r = hgF cn wd nr 2 kz) (fun _ _ => True) (va_A ([]) sz)) 0 0 (va_A ([]) sz) := by
  refine Met.ofW (cc := cL_hangs) (maxL := 3) (ret := (some .boolean)) (by decide) rfl ?_
  intro p e s m args below meth c s₁ B hml hv
  obtain ⟨rfl, hsz, hP, hK, hN⟩ := hv
  have hx := B.exec
  have hb := B.bytes
  have hr := B.returns
  have hts := atoms_spec (ws := wsL_hangs) B.pre
  have hown : s.vm.findClass RL = some m.cls := findClass_of_methodNamed B.named
  have hlocks := B.notSynchronized
  subst hsz
  generalize hAe : va_A [] s.heap.size = A
  have hA : ∀ q : Nat, s.heap.size ≤ q → A q := fun q h => by rw [← hAe]; exact Or.inr h
  have hS : va_S A s.heap s.heap [] := va_S.rf
  have hAn : ∀ q : Nat, q < s.heap.size → ¬ A q := fun q h => by rw [← hAe]; exact notZ h
  have hAg : ∀ q : Nat, A q → s.heap.size ≤ q := fun q h => geZ (hAe ▸ h)
  have hR0 : va_P (dC, dI) vwCl ([(o, .inr (iX5, [.ref g, .ref ce, .ref lu, .ref cl, .ref se, .int tu, .int ja, .int re])), (cl, .inr (iX0, [.int (nI cn), .int wd, .ref xn, .ref xf])), (xn, .inl (cI, 12, .inl (nr)))]) s.heap := hP
  have hR : va_P (dC, dI) vwCl ([(o, .inr (iX5, [.ref g, .ref ce, .ref lu, .ref cl, .ref se, .int tu, .int ja, .int re])), (cl, .inr (iX0, [.int (nI cn), .int wd, .ref xn, .ref xf])), (xn, .inl (cI, 12, .inl (nr)))]) s.heap := hP
  have hP : va_P (dC, dI) vwCl [] s.heap := fun k q h => by simp at h
  have hD : va_D A [] := ⟨fun i j p q h => by simp at h, fun k q h => by simp at h⟩
  have hl := lv_entry ([.ref o, .int (nI kz)]) (n := 3) (Nat.le_of_ble_eq_true rfl)
  rw [lg_entry_eq]
  generalize (lg_sl ([.ref o, .int (nI kz)]) ++ List.replicate (3 - (lg_sl ([.ref o, .int (nI kz)])).length) Slot.unset).toArray = ls at hl ⊢
  have hl : lv_has ls 3 [(0, .ref o), (1, .int (nI kz))] := hl
  refine lv_aload_n hx hb dL_hangs_0 rfl (lv_at hl 0 rfl) ?_
  refine lv_iload_n hx hb dL_hangs_1 rfl (lv_at hl 1 rfl) ?_
  refine lv_iconst (v := 1) hx hb dL_hangs_2 (by decide) ?_
  have hPc : va_P (dC, dI) vwCl ([(o, .inr (iX5, [.ref g, .ref ce, .ref lu, .ref cl, .ref se, .int tu, .int ja, .int re])), (cl, .inr (iX0, [.int (nI cn), .int wd, .ref xn, .ref xf])), (xn, .inl (cI, 12, .inl (nr)))]) _ := hR.sub [0, 1, 2] rfl
  have hFc := frZ hS hA
  refine va_calli (va_runV (As := [.int (nI kz), .int 1]) (rest := []) ⟨hx, hb, hml, hown, hts⟩ (c_p_X5_ofClaim l dC dI cI cF tr (s.heap).size o ce lu cl se tu ja re g cn wd xn xf nr (nI kz) 1 (winW hkn (by omega)) (winK (k := 1) (b := 3) (by decide) (by decide)) hcn) (cwV 2 hts gL_hangs_X5_ofClaim rfl rfl rfl (by decide +kernel) ⟨Nat.le_of_ble_eq_true rfl, Nat.le_of_ble_eq_true rfl⟩) ⟨cBl, (va_recv hK hPc (ci := iX5) (q0 := 0) rfl rfl), (cPre hPc hK hN)⟩ rfl rfl hl.1 rfl (lv_room (Nat.le_of_ble_eq_true rfl)) dL_hangs_3 ⟨(Nat.le_of_ble_eq_true rfl), (Nat.le_of_ble_eq_true rfl)⟩) hS (fun q _ h => hFc q h) hFc (fun r_1 u t H1 locs ht hvm hw_r_1 hB hz1 hk1 hS => ?_)
  refine W.widen (k := 0) (n := 0) (Nat.le_refl _) (Nat.le_refl _) ?_
  have hP := keepP hP hk1
  have hR := keepP hR hk1
  generalize H1 = H at hP hR hS ⊢
  have hP : va_P (dC, dI) vwCl ([]) H := hP
  try dsimp only at hw_r_1
  subst hw_r_1
  refine lv_iconst (v := 1) hx hb dL_hangs_6 (by decide) ?_
  refine lv_icmp_ne (tgt := 12) hx hb dL_hangs_7 (by decide) (fun c_2 => ?_) (fun c_2 => ?_)
  · refine lv_iconst (v := 0) hx hb dL_hangs_12 (by decide) ?_
    refine lv_istore_n (lv' := [(2, .int 0), (0, .ref o), (1, .int (nI kz))]) hx hb dL_hangs_13 rfl hl (by decide) rfl (fun ls hl => ?_)
    have K14 : ∀ (NN : Nat), ∀ (jz : Nat), (kz - jz) < NN → (jz ≤ kz) → (hgL (ocF cn wd nr (nI kz) 0) (hgF cn wd nr 1) jz = 0) → ∀ (H : Heap) (locs : List Loc) (ls : Array Slot), va_P (dC, dI) vwCl ([]) H → va_S A s.heap H locs → lv_has ls 3 [(0, .ref o), (1, .int (nI kz)), (2, .int (nI jz))] → W p l e (headSpec wsL_hangs ({ frames := 6, cells := 0, slots := 0, locals := 129 } : Room)).room s m #[Value.ref o, Value.int (nI kz)] below meth c H locs (0) (0) (MQ below (va_Qi (fun (r : Int32) (_ : Unit) => r = hgF cn wd nr 2 kz) (fun _ _ => True) A) #[Value.ref o, Value.int (nI kz)] s 0 0 A) (F0 m 14 ls []) := by
      intro NN
      induction NN with
      | zero =>
        intro jz hmu hj hin H locs ls hP hS hl
        exact absurd hmu (Nat.not_lt_zero _)
      | succ NN ih14 =>
        intro jz hmu hj hin H locs ls hP hS hl
        have hR := keepR hR0 hS hAn
        refine lv_iload_n hx hb dL_hangs_14 rfl (lv_at hl 2 rfl) ?_
        refine lv_iload_n hx hb dL_hangs_15 rfl (lv_at hl 1 rfl) ?_
        refine lv_icmp_ge (tgt := 49) hx hb dL_hangs_16 (by decide) (fun c_3 => ?_) (fun c_3 => ?_)
        · have hke : kz ≤ jz := leK (by omega) (by omega) c_3
          obtain rfl : jz = kz := by omega
          refine lv_iconst (v := 0) hx hb dL_hangs_49 (by decide) ?_
          refine W.widen (k := 0) (n := 0) (by omega) (by omega) ?_
          exact W.zret (v := 0) hx hb hr (by first | rfl | simp [narrow] | assumption) (fun t ht hW => ⟨⟨0, (), rfl, (by rw [hgF, if_neg c_2, hin]), trivial⟩, hS.F ht⟩) hS.2.2 dL_hangs_50
        · have hjl : jz < kz := ltK (by omega) (by omega) c_3
          refine lv_aload_n hx hb dL_hangs_19 rfl (lv_at hl 0 rfl) ?_
          refine lv_iload_n hx hb dL_hangs_20 rfl (lv_at hl 1 rfl) ?_
          refine lv_iconst (v := 0) hx hb dL_hangs_21 (by decide) ?_
          have hPc : va_P (dC, dI) vwCl ([(o, .inr (iX5, [.ref g, .ref ce, .ref lu, .ref cl, .ref se, .int tu, .int ja, .int re])), (cl, .inr (iX0, [.int (nI cn), .int wd, .ref xn, .ref xf])), (xn, .inl (cI, 12, .inl (nr)))]) _ := hR.sub [0, 1, 2] rfl
          have hFc := frZ hS hA
          refine va_calli (va_runV (As := [.int (nI kz), .int 0]) (rest := []) ⟨hx, hb, hml, hown, hts⟩ (c_p_X5_ofClaim l dC dI cI cF tr (H).size o ce lu cl se tu ja re g cn wd xn xf nr (nI kz) 0 (winW hkn (by omega)) (winK (k := 0) (b := 3) (by decide) (by decide)) hcn) (cwV 2 hts gL_hangs_X5_ofClaim rfl rfl rfl (by decide +kernel) ⟨Nat.le_of_ble_eq_true rfl, Nat.le_of_ble_eq_true rfl⟩) ⟨cBl, (va_recv hK hPc (ci := iX5) (q0 := 0) rfl rfl), (cPre hPc hK hN)⟩ rfl rfl hl.1 rfl (lv_room (Nat.le_of_ble_eq_true rfl)) dL_hangs_22 ⟨(Nat.le_of_ble_eq_true rfl), (Nat.le_of_ble_eq_true rfl)⟩) hS (fun q _ h => hFc q h) hFc (fun r_4 u t H1 locs ht hvm hw_r_4 hB hz1 hk1 hS => ?_)
          refine W.widen (k := 0) (n := 0) (Nat.le_refl _) (Nat.le_refl _) ?_
          have hP := keepP hP hk1
          have hR := keepP hR hk1
          generalize H1 = H at hP hR hS ⊢
          have hP : va_P (dC, dI) vwCl ([]) H := hP
          try dsimp only at hw_r_4
          subst hw_r_4
          refine lv_iload_n hx hb dL_hangs_25 rfl (lv_at hl 2 rfl) ?_
          refine lv_ishr hx hb dL_hangs_26 ?_
          refine lv_iconst (v := 1) hx hb dL_hangs_27 (by decide) ?_
          refine lv_iand hx hb dL_hangs_28 ?_
          refine lv_iconst (v := 1) hx hb dL_hangs_29 (by decide) ?_
          refine lv_icmp_ne (tgt := 43) hx hb dL_hangs_30 (by decide) (fun c_5 => ?_) (fun c_5 => ?_)
          · refine lv_iinc (v := nI (jz + 1)) (lv' := [(2, .int (nI (jz + 1))), (0, .ref o), (1, .int (nI kz))]) hx hb dL_hangs_43 hl (k := 2) rfl (nI_1 jz) (by decide) rfl (fun ls hl => ?_)
            refine lv_goto (tgt := 14) hx hb dL_hangs_46 (by decide) ?_
            refine W.widen (k := 0) (n := 0) (by omega) (by omega) ?_
            exact ih14 (jz + 1) (by omega) hjl (by rw [hgL, hin, if_neg (by decide)]; first | rw [if_neg c_5] | rw [if_pos c_3, if_pos c_5]) _ _ ls hP hS (lv_sub hl [1, 2, 0] rfl)
          · refine lv_aload_n hx hb dL_hangs_33 rfl (lv_at hl 0 rfl) ?_
            refine lv_iload_n hx hb dL_hangs_34 rfl (lv_at hl 2 rfl) ?_
            have hPc : va_P (dC, dI) vwCl ([(o, .inr (iX5, [.ref g, .ref ce, .ref lu, .ref cl, .ref se, .int tu, .int ja, .int re])), (cl, .inr (iX0, [.int (nI cn), .int wd, .ref xn, .ref xf])), (xn, .inl (cI, 12, .inl (nr)))]) _ := hR.sub [0, 1, 2] rfl
            have hFc := frZ hS hA
            refine va_calli (va_runS (As := [.ref o, .int (nI jz)]) (rest := []) ⟨hx, hb, hml, hown, hts⟩ (c_L_hangs_1 l dC dI cI cF tr (H).size o ce lu cl se tu ja re g cn wd xn xf nr jz hcn (Nat.lt_trans hjl hkn) (by omega)) (va_cwS 2 hts gL_hangs_L_hangs rfl rfl rfl (by decide +kernel) ⟨Nat.le_of_ble_eq_true rfl, Nat.le_of_ble_eq_true rfl⟩) ⟨cBl, (cPre hPc hK hN)⟩ rfl rfl hl.1 rfl (lv_room (Nat.le_of_ble_eq_true rfl)) dL_hangs_35 ⟨(Nat.le_of_ble_eq_true rfl), (Nat.le_of_ble_eq_true rfl)⟩) hS (fun q _ h => hFc q h) hFc (fun r_6 u t H1 locs ht hvm hw_r_6 hB hz1 hk1 hS => ?_)
            refine W.widen (k := 0) (n := 0) (Nat.le_refl _) (Nat.le_refl _) ?_
            have hP := keepP hP hk1
            have hR := keepP hR hk1
            generalize H1 = H at hP hR hS ⊢
            have hP : va_P (dC, dI) vwCl ([]) H := hP
            try dsimp only at hw_r_6
            subst hw_r_6
            refine lv_if_eq (tgt := 43) hx hb dL_hangs_38 (by decide) (fun c_7 => ?_) (fun c_7 => ?_)
            · refine lv_iinc (v := nI (jz + 1)) (lv' := [(2, .int (nI (jz + 1))), (0, .ref o), (1, .int (nI kz))]) hx hb dL_hangs_43 hl (k := 2) rfl (nI_1 jz) (by decide) rfl (fun ls hl => ?_)
              refine lv_goto (tgt := 14) hx hb dL_hangs_46 (by decide) ?_
              refine W.widen (k := 0) (n := 0) (by omega) (by omega) ?_
              exact ih14 (jz + 1) (by omega) hjl (by rw [hgL, hin, if_neg (by decide)]; first | rw [if_neg c_7] | rw [if_pos c_5, if_pos c_7]) _ _ ls hP hS (lv_sub hl [1, 2, 0] rfl)
            · refine lv_iconst (v := 1) hx hb dL_hangs_41 (by decide) ?_
              refine W.widen (k := 0) (n := 0) (by omega) (by omega) ?_
              exact W.zret (v := 1) hx hb hr (by first | rfl | simp [narrow] | assumption) (fun t ht hW => ⟨⟨1, (), rfl, (by rw [hgF, if_neg c_2]; exact (hgL_up (j := jz + 1) (by rw [hgL, hin, if_neg (by decide), if_pos c_5, if_neg c_7]) kz hjl).symm), trivial⟩, hS.F ht⟩) hS.2.2 dL_hangs_42
    refine W.widen (k := 0) (n := 0) (by omega) (by omega) ?_
    exact K14 (kz - 0 + 1) 0 (by omega) (Nat.zero_le _) rfl _ _ ls hP hS (lv_sub hl [1, 2, 0] rfl)
  · refine lv_iconst (v := 1) hx hb dL_hangs_10 (by decide) ?_
    refine W.widen (k := 0) (n := 0) (by omega) (by omega) ?_
    exact W.zret (v := 1) hx hb hr (by first | rfl | simp [narrow] | assumption) (fun t ht hW => ⟨⟨1, (), rfl, (by rw [hgF, if_pos c_2]), trivial⟩, hS.F ht⟩) hS.2.2 dL_hangs_11

set_option maxHeartbeats 4000000 in
set_option maxRecDepth 100000 in
theorem c_L_hangs_3 (l : Launch) (dC : Nat → ClassId) (dI : Nat → Nat → Nat) (cI cF : ClassId) (tr : List (ClassId × FieldType)) (sz : Nat) (o : Nat) (ce : Nat) (lu : Nat) (cl : Nat) (se : Nat) (tu : Int32) (ja : Int32) (re : Int32) (g : Nat) (cn : Nat) (wd : Int32) (xn : Nat) (xf : Nat) (nr : Nat → Int32) (kz : Nat) (hcn : cn ≤ 12) (hkn : kz < cn) (hkd : kz < 3) : Met l yL_hangs wsL_hangs ({ frames := 7, cells := 0, slots := 0, locals := 151 } : Room) (cPc dC dI ((cI, .int) :: (cF, .object RX1) :: tr) sz ([(o, .inr (iX5, [.ref g, .ref ce, .ref lu, .ref cl, .ref se, .int tu, .int ja, .int re])), (cl, .inr (iX0, [.int (nI cn), .int wd, .ref xn, .ref xf])), (xn, .inl (cI, 12, .inl (nr)))]) [.ref o, .int (nI kz)]) (va_Qi (fun (r : Int32) (_ : Unit) => r = hgF cn wd nr 3 kz) (fun _ _ => True) (va_A ([]) sz)) 0 0 (va_A ([]) sz) := by
  refine Met.ofW (cc := cL_hangs) (maxL := 3) (ret := (some .boolean)) (by decide) rfl ?_
  intro p e s m args below meth c s₁ B hml hv
  obtain ⟨rfl, hsz, hP, hK, hN⟩ := hv
  have hx := B.exec
  have hb := B.bytes
  have hr := B.returns
  have hts := atoms_spec (ws := wsL_hangs) B.pre
  have hown : s.vm.findClass RL = some m.cls := findClass_of_methodNamed B.named
  have hlocks := B.notSynchronized
  subst hsz
  generalize hAe : va_A [] s.heap.size = A
  have hA : ∀ q : Nat, s.heap.size ≤ q → A q := fun q h => by rw [← hAe]; exact Or.inr h
  have hS : va_S A s.heap s.heap [] := va_S.rf
  have hAn : ∀ q : Nat, q < s.heap.size → ¬ A q := fun q h => by rw [← hAe]; exact notZ h
  have hAg : ∀ q : Nat, A q → s.heap.size ≤ q := fun q h => geZ (hAe ▸ h)
  have hR0 : va_P (dC, dI) vwCl ([(o, .inr (iX5, [.ref g, .ref ce, .ref lu, .ref cl, .ref se, .int tu, .int ja, .int re])), (cl, .inr (iX0, [.int (nI cn), .int wd, .ref xn, .ref xf])), (xn, .inl (cI, 12, .inl (nr)))]) s.heap := hP
  have hR : va_P (dC, dI) vwCl ([(o, .inr (iX5, [.ref g, .ref ce, .ref lu, .ref cl, .ref se, .int tu, .int ja, .int re])), (cl, .inr (iX0, [.int (nI cn), .int wd, .ref xn, .ref xf])), (xn, .inl (cI, 12, .inl (nr)))]) s.heap := hP
  have hP : va_P (dC, dI) vwCl [] s.heap := fun k q h => by simp at h
  have hD : va_D A [] := ⟨fun i j p q h => by simp at h, fun k q h => by simp at h⟩
  have hl := lv_entry ([.ref o, .int (nI kz)]) (n := 3) (Nat.le_of_ble_eq_true rfl)
  rw [lg_entry_eq]
  generalize (lg_sl ([.ref o, .int (nI kz)]) ++ List.replicate (3 - (lg_sl ([.ref o, .int (nI kz)])).length) Slot.unset).toArray = ls at hl ⊢
  have hl : lv_has ls 3 [(0, .ref o), (1, .int (nI kz))] := hl
  refine lv_aload_n hx hb dL_hangs_0 rfl (lv_at hl 0 rfl) ?_
  refine lv_iload_n hx hb dL_hangs_1 rfl (lv_at hl 1 rfl) ?_
  refine lv_iconst (v := 1) hx hb dL_hangs_2 (by decide) ?_
  have hPc : va_P (dC, dI) vwCl ([(o, .inr (iX5, [.ref g, .ref ce, .ref lu, .ref cl, .ref se, .int tu, .int ja, .int re])), (cl, .inr (iX0, [.int (nI cn), .int wd, .ref xn, .ref xf])), (xn, .inl (cI, 12, .inl (nr)))]) _ := hR.sub [0, 1, 2] rfl
  have hFc := frZ hS hA
  refine va_calli (va_runV (As := [.int (nI kz), .int 1]) (rest := []) ⟨hx, hb, hml, hown, hts⟩ (c_p_X5_ofClaim l dC dI cI cF tr (s.heap).size o ce lu cl se tu ja re g cn wd xn xf nr (nI kz) 1 (winW hkn (by omega)) (winK (k := 1) (b := 3) (by decide) (by decide)) hcn) (cwV 2 hts gL_hangs_X5_ofClaim rfl rfl rfl (by decide +kernel) ⟨Nat.le_of_ble_eq_true rfl, Nat.le_of_ble_eq_true rfl⟩) ⟨cBl, (va_recv hK hPc (ci := iX5) (q0 := 0) rfl rfl), (cPre hPc hK hN)⟩ rfl rfl hl.1 rfl (lv_room (Nat.le_of_ble_eq_true rfl)) dL_hangs_3 ⟨(Nat.le_of_ble_eq_true rfl), (Nat.le_of_ble_eq_true rfl)⟩) hS (fun q _ h => hFc q h) hFc (fun r_1 u t H1 locs ht hvm hw_r_1 hB hz1 hk1 hS => ?_)
  refine W.widen (k := 0) (n := 0) (Nat.le_refl _) (Nat.le_refl _) ?_
  have hP := keepP hP hk1
  have hR := keepP hR hk1
  generalize H1 = H at hP hR hS ⊢
  have hP : va_P (dC, dI) vwCl ([]) H := hP
  try dsimp only at hw_r_1
  subst hw_r_1
  refine lv_iconst (v := 1) hx hb dL_hangs_6 (by decide) ?_
  refine lv_icmp_ne (tgt := 12) hx hb dL_hangs_7 (by decide) (fun c_2 => ?_) (fun c_2 => ?_)
  · refine lv_iconst (v := 0) hx hb dL_hangs_12 (by decide) ?_
    refine lv_istore_n (lv' := [(2, .int 0), (0, .ref o), (1, .int (nI kz))]) hx hb dL_hangs_13 rfl hl (by decide) rfl (fun ls hl => ?_)
    have K14 : ∀ (NN : Nat), ∀ (jz : Nat), (kz - jz) < NN → (jz ≤ kz) → (hgL (ocF cn wd nr (nI kz) 0) (hgF cn wd nr 2) jz = 0) → ∀ (H : Heap) (locs : List Loc) (ls : Array Slot), va_P (dC, dI) vwCl ([]) H → va_S A s.heap H locs → lv_has ls 3 [(0, .ref o), (1, .int (nI kz)), (2, .int (nI jz))] → W p l e (headSpec wsL_hangs ({ frames := 7, cells := 0, slots := 0, locals := 151 } : Room)).room s m #[Value.ref o, Value.int (nI kz)] below meth c H locs (0) (0) (MQ below (va_Qi (fun (r : Int32) (_ : Unit) => r = hgF cn wd nr 3 kz) (fun _ _ => True) A) #[Value.ref o, Value.int (nI kz)] s 0 0 A) (F0 m 14 ls []) := by
      intro NN
      induction NN with
      | zero =>
        intro jz hmu hj hin H locs ls hP hS hl
        exact absurd hmu (Nat.not_lt_zero _)
      | succ NN ih14 =>
        intro jz hmu hj hin H locs ls hP hS hl
        have hR := keepR hR0 hS hAn
        refine lv_iload_n hx hb dL_hangs_14 rfl (lv_at hl 2 rfl) ?_
        refine lv_iload_n hx hb dL_hangs_15 rfl (lv_at hl 1 rfl) ?_
        refine lv_icmp_ge (tgt := 49) hx hb dL_hangs_16 (by decide) (fun c_3 => ?_) (fun c_3 => ?_)
        · have hke : kz ≤ jz := leK (by omega) (by omega) c_3
          obtain rfl : jz = kz := by omega
          refine lv_iconst (v := 0) hx hb dL_hangs_49 (by decide) ?_
          refine W.widen (k := 0) (n := 0) (by omega) (by omega) ?_
          exact W.zret (v := 0) hx hb hr (by first | rfl | simp [narrow] | assumption) (fun t ht hW => ⟨⟨0, (), rfl, (by rw [hgF, if_neg c_2, hin]), trivial⟩, hS.F ht⟩) hS.2.2 dL_hangs_50
        · have hjl : jz < kz := ltK (by omega) (by omega) c_3
          refine lv_aload_n hx hb dL_hangs_19 rfl (lv_at hl 0 rfl) ?_
          refine lv_iload_n hx hb dL_hangs_20 rfl (lv_at hl 1 rfl) ?_
          refine lv_iconst (v := 0) hx hb dL_hangs_21 (by decide) ?_
          have hPc : va_P (dC, dI) vwCl ([(o, .inr (iX5, [.ref g, .ref ce, .ref lu, .ref cl, .ref se, .int tu, .int ja, .int re])), (cl, .inr (iX0, [.int (nI cn), .int wd, .ref xn, .ref xf])), (xn, .inl (cI, 12, .inl (nr)))]) _ := hR.sub [0, 1, 2] rfl
          have hFc := frZ hS hA
          refine va_calli (va_runV (As := [.int (nI kz), .int 0]) (rest := []) ⟨hx, hb, hml, hown, hts⟩ (c_p_X5_ofClaim l dC dI cI cF tr (H).size o ce lu cl se tu ja re g cn wd xn xf nr (nI kz) 0 (winW hkn (by omega)) (winK (k := 0) (b := 3) (by decide) (by decide)) hcn) (cwV 2 hts gL_hangs_X5_ofClaim rfl rfl rfl (by decide +kernel) ⟨Nat.le_of_ble_eq_true rfl, Nat.le_of_ble_eq_true rfl⟩) ⟨cBl, (va_recv hK hPc (ci := iX5) (q0 := 0) rfl rfl), (cPre hPc hK hN)⟩ rfl rfl hl.1 rfl (lv_room (Nat.le_of_ble_eq_true rfl)) dL_hangs_22 ⟨(Nat.le_of_ble_eq_true rfl), (Nat.le_of_ble_eq_true rfl)⟩) hS (fun q _ h => hFc q h) hFc (fun r_4 u t H1 locs ht hvm hw_r_4 hB hz1 hk1 hS => ?_)
          refine W.widen (k := 0) (n := 0) (Nat.le_refl _) (Nat.le_refl _) ?_
          have hP := keepP hP hk1
          have hR := keepP hR hk1
          generalize H1 = H at hP hR hS ⊢
          have hP : va_P (dC, dI) vwCl ([]) H := hP
          try dsimp only at hw_r_4
          subst hw_r_4
          refine lv_iload_n hx hb dL_hangs_25 rfl (lv_at hl 2 rfl) ?_
          refine lv_ishr hx hb dL_hangs_26 ?_
          refine lv_iconst (v := 1) hx hb dL_hangs_27 (by decide) ?_
          refine lv_iand hx hb dL_hangs_28 ?_
          refine lv_iconst (v := 1) hx hb dL_hangs_29 (by decide) ?_
          refine lv_icmp_ne (tgt := 43) hx hb dL_hangs_30 (by decide) (fun c_5 => ?_) (fun c_5 => ?_)
          · refine lv_iinc (v := nI (jz + 1)) (lv' := [(2, .int (nI (jz + 1))), (0, .ref o), (1, .int (nI kz))]) hx hb dL_hangs_43 hl (k := 2) rfl (nI_1 jz) (by decide) rfl (fun ls hl => ?_)
            refine lv_goto (tgt := 14) hx hb dL_hangs_46 (by decide) ?_
            refine W.widen (k := 0) (n := 0) (by omega) (by omega) ?_
            exact ih14 (jz + 1) (by omega) hjl (by rw [hgL, hin, if_neg (by decide)]; first | rw [if_neg c_5] | rw [if_pos c_3, if_pos c_5]) _ _ ls hP hS (lv_sub hl [1, 2, 0] rfl)
          · refine lv_aload_n hx hb dL_hangs_33 rfl (lv_at hl 0 rfl) ?_
            refine lv_iload_n hx hb dL_hangs_34 rfl (lv_at hl 2 rfl) ?_
            have hPc : va_P (dC, dI) vwCl ([(o, .inr (iX5, [.ref g, .ref ce, .ref lu, .ref cl, .ref se, .int tu, .int ja, .int re])), (cl, .inr (iX0, [.int (nI cn), .int wd, .ref xn, .ref xf])), (xn, .inl (cI, 12, .inl (nr)))]) _ := hR.sub [0, 1, 2] rfl
            have hFc := frZ hS hA
            refine va_calli (va_runS (As := [.ref o, .int (nI jz)]) (rest := []) ⟨hx, hb, hml, hown, hts⟩ (c_L_hangs_2 l dC dI cI cF tr (H).size o ce lu cl se tu ja re g cn wd xn xf nr jz hcn (Nat.lt_trans hjl hkn) (by omega)) (va_cwS 2 hts gL_hangs_L_hangs rfl rfl rfl (by decide +kernel) ⟨Nat.le_of_ble_eq_true rfl, Nat.le_of_ble_eq_true rfl⟩) ⟨cBl, (cPre hPc hK hN)⟩ rfl rfl hl.1 rfl (lv_room (Nat.le_of_ble_eq_true rfl)) dL_hangs_35 ⟨(Nat.le_of_ble_eq_true rfl), (Nat.le_of_ble_eq_true rfl)⟩) hS (fun q _ h => hFc q h) hFc (fun r_6 u t H1 locs ht hvm hw_r_6 hB hz1 hk1 hS => ?_)
            refine W.widen (k := 0) (n := 0) (Nat.le_refl _) (Nat.le_refl _) ?_
            have hP := keepP hP hk1
            have hR := keepP hR hk1
            generalize H1 = H at hP hR hS ⊢
            have hP : va_P (dC, dI) vwCl ([]) H := hP
            try dsimp only at hw_r_6
            subst hw_r_6
            refine lv_if_eq (tgt := 43) hx hb dL_hangs_38 (by decide) (fun c_7 => ?_) (fun c_7 => ?_)
            · refine lv_iinc (v := nI (jz + 1)) (lv' := [(2, .int (nI (jz + 1))), (0, .ref o), (1, .int (nI kz))]) hx hb dL_hangs_43 hl (k := 2) rfl (nI_1 jz) (by decide) rfl (fun ls hl => ?_)
              refine lv_goto (tgt := 14) hx hb dL_hangs_46 (by decide) ?_
              refine W.widen (k := 0) (n := 0) (by omega) (by omega) ?_
              exact ih14 (jz + 1) (by omega) hjl (by rw [hgL, hin, if_neg (by decide)]; first | rw [if_neg c_7] | rw [if_pos c_5, if_pos c_7]) _ _ ls hP hS (lv_sub hl [1, 2, 0] rfl)
            · refine lv_iconst (v := 1) hx hb dL_hangs_41 (by decide) ?_
              refine W.widen (k := 0) (n := 0) (by omega) (by omega) ?_
              exact W.zret (v := 1) hx hb hr (by first | rfl | simp [narrow] | assumption) (fun t ht hW => ⟨⟨1, (), rfl, (by rw [hgF, if_neg c_2]; exact (hgL_up (j := jz + 1) (by rw [hgL, hin, if_neg (by decide), if_pos c_5, if_neg c_7]) kz hjl).symm), trivial⟩, hS.F ht⟩) hS.2.2 dL_hangs_42
    refine W.widen (k := 0) (n := 0) (by omega) (by omega) ?_
    exact K14 (kz - 0 + 1) 0 (by omega) (Nat.zero_le _) rfl _ _ ls hP hS (lv_sub hl [1, 2, 0] rfl)
  · refine lv_iconst (v := 1) hx hb dL_hangs_10 (by decide) ?_
    refine W.widen (k := 0) (n := 0) (by omega) (by omega) ?_
    exact W.zret (v := 1) hx hb hr (by first | rfl | simp [narrow] | assumption) (fun t ht hW => ⟨⟨1, (), rfl, (by rw [hgF, if_pos c_2]), trivial⟩, hS.F ht⟩) hS.2.2 dL_hangs_11

set_option maxHeartbeats 4000000 in
set_option maxRecDepth 100000 in
theorem c_L_hangs_4 (l : Launch) (dC : Nat → ClassId) (dI : Nat → Nat → Nat) (cI cF : ClassId) (tr : List (ClassId × FieldType)) (sz : Nat) (o : Nat) (ce : Nat) (lu : Nat) (cl : Nat) (se : Nat) (tu : Int32) (ja : Int32) (re : Int32) (g : Nat) (cn : Nat) (wd : Int32) (xn : Nat) (xf : Nat) (nr : Nat → Int32) (kz : Nat) (hcn : cn ≤ 12) (hkn : kz < cn) (hkd : kz < 4) : Met l yL_hangs wsL_hangs ({ frames := 8, cells := 0, slots := 0, locals := 173 } : Room) (cPc dC dI ((cI, .int) :: (cF, .object RX1) :: tr) sz ([(o, .inr (iX5, [.ref g, .ref ce, .ref lu, .ref cl, .ref se, .int tu, .int ja, .int re])), (cl, .inr (iX0, [.int (nI cn), .int wd, .ref xn, .ref xf])), (xn, .inl (cI, 12, .inl (nr)))]) [.ref o, .int (nI kz)]) (va_Qi (fun (r : Int32) (_ : Unit) => r = hgF cn wd nr 4 kz) (fun _ _ => True) (va_A ([]) sz)) 0 0 (va_A ([]) sz) := by
  refine Met.ofW (cc := cL_hangs) (maxL := 3) (ret := (some .boolean)) (by decide) rfl ?_
  intro p e s m args below meth c s₁ B hml hv
  obtain ⟨rfl, hsz, hP, hK, hN⟩ := hv
  have hx := B.exec
  have hb := B.bytes
  have hr := B.returns
  have hts := atoms_spec (ws := wsL_hangs) B.pre
  have hown : s.vm.findClass RL = some m.cls := findClass_of_methodNamed B.named
  have hlocks := B.notSynchronized
  subst hsz
  generalize hAe : va_A [] s.heap.size = A
  have hA : ∀ q : Nat, s.heap.size ≤ q → A q := fun q h => by rw [← hAe]; exact Or.inr h
  have hS : va_S A s.heap s.heap [] := va_S.rf
  have hAn : ∀ q : Nat, q < s.heap.size → ¬ A q := fun q h => by rw [← hAe]; exact notZ h
  have hAg : ∀ q : Nat, A q → s.heap.size ≤ q := fun q h => geZ (hAe ▸ h)
  have hR0 : va_P (dC, dI) vwCl ([(o, .inr (iX5, [.ref g, .ref ce, .ref lu, .ref cl, .ref se, .int tu, .int ja, .int re])), (cl, .inr (iX0, [.int (nI cn), .int wd, .ref xn, .ref xf])), (xn, .inl (cI, 12, .inl (nr)))]) s.heap := hP
  have hR : va_P (dC, dI) vwCl ([(o, .inr (iX5, [.ref g, .ref ce, .ref lu, .ref cl, .ref se, .int tu, .int ja, .int re])), (cl, .inr (iX0, [.int (nI cn), .int wd, .ref xn, .ref xf])), (xn, .inl (cI, 12, .inl (nr)))]) s.heap := hP
  have hP : va_P (dC, dI) vwCl [] s.heap := fun k q h => by simp at h
  have hD : va_D A [] := ⟨fun i j p q h => by simp at h, fun k q h => by simp at h⟩
  have hl := lv_entry ([.ref o, .int (nI kz)]) (n := 3) (Nat.le_of_ble_eq_true rfl)
  rw [lg_entry_eq]
  generalize (lg_sl ([.ref o, .int (nI kz)]) ++ List.replicate (3 - (lg_sl ([.ref o, .int (nI kz)])).length) Slot.unset).toArray = ls at hl ⊢
  have hl : lv_has ls 3 [(0, .ref o), (1, .int (nI kz))] := hl
  refine lv_aload_n hx hb dL_hangs_0 rfl (lv_at hl 0 rfl) ?_
  refine lv_iload_n hx hb dL_hangs_1 rfl (lv_at hl 1 rfl) ?_
  refine lv_iconst (v := 1) hx hb dL_hangs_2 (by decide) ?_
  have hPc : va_P (dC, dI) vwCl ([(o, .inr (iX5, [.ref g, .ref ce, .ref lu, .ref cl, .ref se, .int tu, .int ja, .int re])), (cl, .inr (iX0, [.int (nI cn), .int wd, .ref xn, .ref xf])), (xn, .inl (cI, 12, .inl (nr)))]) _ := hR.sub [0, 1, 2] rfl
  have hFc := frZ hS hA
  refine va_calli (va_runV (As := [.int (nI kz), .int 1]) (rest := []) ⟨hx, hb, hml, hown, hts⟩ (c_p_X5_ofClaim l dC dI cI cF tr (s.heap).size o ce lu cl se tu ja re g cn wd xn xf nr (nI kz) 1 (winW hkn (by omega)) (winK (k := 1) (b := 3) (by decide) (by decide)) hcn) (cwV 2 hts gL_hangs_X5_ofClaim rfl rfl rfl (by decide +kernel) ⟨Nat.le_of_ble_eq_true rfl, Nat.le_of_ble_eq_true rfl⟩) ⟨cBl, (va_recv hK hPc (ci := iX5) (q0 := 0) rfl rfl), (cPre hPc hK hN)⟩ rfl rfl hl.1 rfl (lv_room (Nat.le_of_ble_eq_true rfl)) dL_hangs_3 ⟨(Nat.le_of_ble_eq_true rfl), (Nat.le_of_ble_eq_true rfl)⟩) hS (fun q _ h => hFc q h) hFc (fun r_1 u t H1 locs ht hvm hw_r_1 hB hz1 hk1 hS => ?_)
  refine W.widen (k := 0) (n := 0) (Nat.le_refl _) (Nat.le_refl _) ?_
  have hP := keepP hP hk1
  have hR := keepP hR hk1
  generalize H1 = H at hP hR hS ⊢
  have hP : va_P (dC, dI) vwCl ([]) H := hP
  try dsimp only at hw_r_1
  subst hw_r_1
  refine lv_iconst (v := 1) hx hb dL_hangs_6 (by decide) ?_
  refine lv_icmp_ne (tgt := 12) hx hb dL_hangs_7 (by decide) (fun c_2 => ?_) (fun c_2 => ?_)
  · refine lv_iconst (v := 0) hx hb dL_hangs_12 (by decide) ?_
    refine lv_istore_n (lv' := [(2, .int 0), (0, .ref o), (1, .int (nI kz))]) hx hb dL_hangs_13 rfl hl (by decide) rfl (fun ls hl => ?_)
    have K14 : ∀ (NN : Nat), ∀ (jz : Nat), (kz - jz) < NN → (jz ≤ kz) → (hgL (ocF cn wd nr (nI kz) 0) (hgF cn wd nr 3) jz = 0) → ∀ (H : Heap) (locs : List Loc) (ls : Array Slot), va_P (dC, dI) vwCl ([]) H → va_S A s.heap H locs → lv_has ls 3 [(0, .ref o), (1, .int (nI kz)), (2, .int (nI jz))] → W p l e (headSpec wsL_hangs ({ frames := 8, cells := 0, slots := 0, locals := 173 } : Room)).room s m #[Value.ref o, Value.int (nI kz)] below meth c H locs (0) (0) (MQ below (va_Qi (fun (r : Int32) (_ : Unit) => r = hgF cn wd nr 4 kz) (fun _ _ => True) A) #[Value.ref o, Value.int (nI kz)] s 0 0 A) (F0 m 14 ls []) := by
      intro NN
      induction NN with
      | zero =>
        intro jz hmu hj hin H locs ls hP hS hl
        exact absurd hmu (Nat.not_lt_zero _)
      | succ NN ih14 =>
        intro jz hmu hj hin H locs ls hP hS hl
        have hR := keepR hR0 hS hAn
        refine lv_iload_n hx hb dL_hangs_14 rfl (lv_at hl 2 rfl) ?_
        refine lv_iload_n hx hb dL_hangs_15 rfl (lv_at hl 1 rfl) ?_
        refine lv_icmp_ge (tgt := 49) hx hb dL_hangs_16 (by decide) (fun c_3 => ?_) (fun c_3 => ?_)
        · have hke : kz ≤ jz := leK (by omega) (by omega) c_3
          obtain rfl : jz = kz := by omega
          refine lv_iconst (v := 0) hx hb dL_hangs_49 (by decide) ?_
          refine W.widen (k := 0) (n := 0) (by omega) (by omega) ?_
          exact W.zret (v := 0) hx hb hr (by first | rfl | simp [narrow] | assumption) (fun t ht hW => ⟨⟨0, (), rfl, (by rw [hgF, if_neg c_2, hin]), trivial⟩, hS.F ht⟩) hS.2.2 dL_hangs_50
        · have hjl : jz < kz := ltK (by omega) (by omega) c_3
          refine lv_aload_n hx hb dL_hangs_19 rfl (lv_at hl 0 rfl) ?_
          refine lv_iload_n hx hb dL_hangs_20 rfl (lv_at hl 1 rfl) ?_
          refine lv_iconst (v := 0) hx hb dL_hangs_21 (by decide) ?_
          have hPc : va_P (dC, dI) vwCl ([(o, .inr (iX5, [.ref g, .ref ce, .ref lu, .ref cl, .ref se, .int tu, .int ja, .int re])), (cl, .inr (iX0, [.int (nI cn), .int wd, .ref xn, .ref xf])), (xn, .inl (cI, 12, .inl (nr)))]) _ := hR.sub [0, 1, 2] rfl
          have hFc := frZ hS hA
          refine va_calli (va_runV (As := [.int (nI kz), .int 0]) (rest := []) ⟨hx, hb, hml, hown, hts⟩ (c_p_X5_ofClaim l dC dI cI cF tr (H).size o ce lu cl se tu ja re g cn wd xn xf nr (nI kz) 0 (winW hkn (by omega)) (winK (k := 0) (b := 3) (by decide) (by decide)) hcn) (cwV 2 hts gL_hangs_X5_ofClaim rfl rfl rfl (by decide +kernel) ⟨Nat.le_of_ble_eq_true rfl, Nat.le_of_ble_eq_true rfl⟩) ⟨cBl, (va_recv hK hPc (ci := iX5) (q0 := 0) rfl rfl), (cPre hPc hK hN)⟩ rfl rfl hl.1 rfl (lv_room (Nat.le_of_ble_eq_true rfl)) dL_hangs_22 ⟨(Nat.le_of_ble_eq_true rfl), (Nat.le_of_ble_eq_true rfl)⟩) hS (fun q _ h => hFc q h) hFc (fun r_4 u t H1 locs ht hvm hw_r_4 hB hz1 hk1 hS => ?_)
          refine W.widen (k := 0) (n := 0) (Nat.le_refl _) (Nat.le_refl _) ?_
          have hP := keepP hP hk1
          have hR := keepP hR hk1
          generalize H1 = H at hP hR hS ⊢
          have hP : va_P (dC, dI) vwCl ([]) H := hP
          try dsimp only at hw_r_4
          subst hw_r_4
          refine lv_iload_n hx hb dL_hangs_25 rfl (lv_at hl 2 rfl) ?_
          refine lv_ishr hx hb dL_hangs_26 ?_
          refine lv_iconst (v := 1) hx hb dL_hangs_27 (by decide) ?_
          refine lv_iand hx hb dL_hangs_28 ?_
          refine lv_iconst (v := 1) hx hb dL_hangs_29 (by decide) ?_
          refine lv_icmp_ne (tgt := 43) hx hb dL_hangs_30 (by decide) (fun c_5 => ?_) (fun c_5 => ?_)
          · refine lv_iinc (v := nI (jz + 1)) (lv' := [(2, .int (nI (jz + 1))), (0, .ref o), (1, .int (nI kz))]) hx hb dL_hangs_43 hl (k := 2) rfl (nI_1 jz) (by decide) rfl (fun ls hl => ?_)
            refine lv_goto (tgt := 14) hx hb dL_hangs_46 (by decide) ?_
            refine W.widen (k := 0) (n := 0) (by omega) (by omega) ?_
            exact ih14 (jz + 1) (by omega) hjl (by rw [hgL, hin, if_neg (by decide)]; first | rw [if_neg c_5] | rw [if_pos c_3, if_pos c_5]) _ _ ls hP hS (lv_sub hl [1, 2, 0] rfl)
          · refine lv_aload_n hx hb dL_hangs_33 rfl (lv_at hl 0 rfl) ?_
            refine lv_iload_n hx hb dL_hangs_34 rfl (lv_at hl 2 rfl) ?_
            have hPc : va_P (dC, dI) vwCl ([(o, .inr (iX5, [.ref g, .ref ce, .ref lu, .ref cl, .ref se, .int tu, .int ja, .int re])), (cl, .inr (iX0, [.int (nI cn), .int wd, .ref xn, .ref xf])), (xn, .inl (cI, 12, .inl (nr)))]) _ := hR.sub [0, 1, 2] rfl
            have hFc := frZ hS hA
            refine va_calli (va_runS (As := [.ref o, .int (nI jz)]) (rest := []) ⟨hx, hb, hml, hown, hts⟩ (c_L_hangs_3 l dC dI cI cF tr (H).size o ce lu cl se tu ja re g cn wd xn xf nr jz hcn (Nat.lt_trans hjl hkn) (by omega)) (va_cwS 2 hts gL_hangs_L_hangs rfl rfl rfl (by decide +kernel) ⟨Nat.le_of_ble_eq_true rfl, Nat.le_of_ble_eq_true rfl⟩) ⟨cBl, (cPre hPc hK hN)⟩ rfl rfl hl.1 rfl (lv_room (Nat.le_of_ble_eq_true rfl)) dL_hangs_35 ⟨(Nat.le_of_ble_eq_true rfl), (Nat.le_of_ble_eq_true rfl)⟩) hS (fun q _ h => hFc q h) hFc (fun r_6 u t H1 locs ht hvm hw_r_6 hB hz1 hk1 hS => ?_)
            refine W.widen (k := 0) (n := 0) (Nat.le_refl _) (Nat.le_refl _) ?_
            have hP := keepP hP hk1
            have hR := keepP hR hk1
            generalize H1 = H at hP hR hS ⊢
            have hP : va_P (dC, dI) vwCl ([]) H := hP
            try dsimp only at hw_r_6
            subst hw_r_6
            refine lv_if_eq (tgt := 43) hx hb dL_hangs_38 (by decide) (fun c_7 => ?_) (fun c_7 => ?_)
            · refine lv_iinc (v := nI (jz + 1)) (lv' := [(2, .int (nI (jz + 1))), (0, .ref o), (1, .int (nI kz))]) hx hb dL_hangs_43 hl (k := 2) rfl (nI_1 jz) (by decide) rfl (fun ls hl => ?_)
              refine lv_goto (tgt := 14) hx hb dL_hangs_46 (by decide) ?_
              refine W.widen (k := 0) (n := 0) (by omega) (by omega) ?_
              exact ih14 (jz + 1) (by omega) hjl (by rw [hgL, hin, if_neg (by decide)]; first | rw [if_neg c_7] | rw [if_pos c_5, if_pos c_7]) _ _ ls hP hS (lv_sub hl [1, 2, 0] rfl)
            · refine lv_iconst (v := 1) hx hb dL_hangs_41 (by decide) ?_
              refine W.widen (k := 0) (n := 0) (by omega) (by omega) ?_
              exact W.zret (v := 1) hx hb hr (by first | rfl | simp [narrow] | assumption) (fun t ht hW => ⟨⟨1, (), rfl, (by rw [hgF, if_neg c_2]; exact (hgL_up (j := jz + 1) (by rw [hgL, hin, if_neg (by decide), if_pos c_5, if_neg c_7]) kz hjl).symm), trivial⟩, hS.F ht⟩) hS.2.2 dL_hangs_42
    refine W.widen (k := 0) (n := 0) (by omega) (by omega) ?_
    exact K14 (kz - 0 + 1) 0 (by omega) (Nat.zero_le _) rfl _ _ ls hP hS (lv_sub hl [1, 2, 0] rfl)
  · refine lv_iconst (v := 1) hx hb dL_hangs_10 (by decide) ?_
    refine W.widen (k := 0) (n := 0) (by omega) (by omega) ?_
    exact W.zret (v := 1) hx hb hr (by first | rfl | simp [narrow] | assumption) (fun t ht hW => ⟨⟨1, (), rfl, (by rw [hgF, if_pos c_2]), trivial⟩, hS.F ht⟩) hS.2.2 dL_hangs_11

set_option maxHeartbeats 4000000 in
set_option maxRecDepth 100000 in
theorem c_L_hangs_5 (l : Launch) (dC : Nat → ClassId) (dI : Nat → Nat → Nat) (cI cF : ClassId) (tr : List (ClassId × FieldType)) (sz : Nat) (o : Nat) (ce : Nat) (lu : Nat) (cl : Nat) (se : Nat) (tu : Int32) (ja : Int32) (re : Int32) (g : Nat) (cn : Nat) (wd : Int32) (xn : Nat) (xf : Nat) (nr : Nat → Int32) (kz : Nat) (hcn : cn ≤ 12) (hkn : kz < cn) (hkd : kz < 5) : Met l yL_hangs wsL_hangs ({ frames := 9, cells := 0, slots := 0, locals := 195 } : Room) (cPc dC dI ((cI, .int) :: (cF, .object RX1) :: tr) sz ([(o, .inr (iX5, [.ref g, .ref ce, .ref lu, .ref cl, .ref se, .int tu, .int ja, .int re])), (cl, .inr (iX0, [.int (nI cn), .int wd, .ref xn, .ref xf])), (xn, .inl (cI, 12, .inl (nr)))]) [.ref o, .int (nI kz)]) (va_Qi (fun (r : Int32) (_ : Unit) => r = hgF cn wd nr 5 kz) (fun _ _ => True) (va_A ([]) sz)) 0 0 (va_A ([]) sz) := by
  refine Met.ofW (cc := cL_hangs) (maxL := 3) (ret := (some .boolean)) (by decide) rfl ?_
  intro p e s m args below meth c s₁ B hml hv
  obtain ⟨rfl, hsz, hP, hK, hN⟩ := hv
  have hx := B.exec
  have hb := B.bytes
  have hr := B.returns
  have hts := atoms_spec (ws := wsL_hangs) B.pre
  have hown : s.vm.findClass RL = some m.cls := findClass_of_methodNamed B.named
  have hlocks := B.notSynchronized
  subst hsz
  generalize hAe : va_A [] s.heap.size = A
  have hA : ∀ q : Nat, s.heap.size ≤ q → A q := fun q h => by rw [← hAe]; exact Or.inr h
  have hS : va_S A s.heap s.heap [] := va_S.rf
  have hAn : ∀ q : Nat, q < s.heap.size → ¬ A q := fun q h => by rw [← hAe]; exact notZ h
  have hAg : ∀ q : Nat, A q → s.heap.size ≤ q := fun q h => geZ (hAe ▸ h)
  have hR0 : va_P (dC, dI) vwCl ([(o, .inr (iX5, [.ref g, .ref ce, .ref lu, .ref cl, .ref se, .int tu, .int ja, .int re])), (cl, .inr (iX0, [.int (nI cn), .int wd, .ref xn, .ref xf])), (xn, .inl (cI, 12, .inl (nr)))]) s.heap := hP
  have hR : va_P (dC, dI) vwCl ([(o, .inr (iX5, [.ref g, .ref ce, .ref lu, .ref cl, .ref se, .int tu, .int ja, .int re])), (cl, .inr (iX0, [.int (nI cn), .int wd, .ref xn, .ref xf])), (xn, .inl (cI, 12, .inl (nr)))]) s.heap := hP
  have hP : va_P (dC, dI) vwCl [] s.heap := fun k q h => by simp at h
  have hD : va_D A [] := ⟨fun i j p q h => by simp at h, fun k q h => by simp at h⟩
  have hl := lv_entry ([.ref o, .int (nI kz)]) (n := 3) (Nat.le_of_ble_eq_true rfl)
  rw [lg_entry_eq]
  generalize (lg_sl ([.ref o, .int (nI kz)]) ++ List.replicate (3 - (lg_sl ([.ref o, .int (nI kz)])).length) Slot.unset).toArray = ls at hl ⊢
  have hl : lv_has ls 3 [(0, .ref o), (1, .int (nI kz))] := hl
  refine lv_aload_n hx hb dL_hangs_0 rfl (lv_at hl 0 rfl) ?_
  refine lv_iload_n hx hb dL_hangs_1 rfl (lv_at hl 1 rfl) ?_
  refine lv_iconst (v := 1) hx hb dL_hangs_2 (by decide) ?_
  have hPc : va_P (dC, dI) vwCl ([(o, .inr (iX5, [.ref g, .ref ce, .ref lu, .ref cl, .ref se, .int tu, .int ja, .int re])), (cl, .inr (iX0, [.int (nI cn), .int wd, .ref xn, .ref xf])), (xn, .inl (cI, 12, .inl (nr)))]) _ := hR.sub [0, 1, 2] rfl
  have hFc := frZ hS hA
  refine va_calli (va_runV (As := [.int (nI kz), .int 1]) (rest := []) ⟨hx, hb, hml, hown, hts⟩ (c_p_X5_ofClaim l dC dI cI cF tr (s.heap).size o ce lu cl se tu ja re g cn wd xn xf nr (nI kz) 1 (winW hkn (by omega)) (winK (k := 1) (b := 3) (by decide) (by decide)) hcn) (cwV 2 hts gL_hangs_X5_ofClaim rfl rfl rfl (by decide +kernel) ⟨Nat.le_of_ble_eq_true rfl, Nat.le_of_ble_eq_true rfl⟩) ⟨cBl, (va_recv hK hPc (ci := iX5) (q0 := 0) rfl rfl), (cPre hPc hK hN)⟩ rfl rfl hl.1 rfl (lv_room (Nat.le_of_ble_eq_true rfl)) dL_hangs_3 ⟨(Nat.le_of_ble_eq_true rfl), (Nat.le_of_ble_eq_true rfl)⟩) hS (fun q _ h => hFc q h) hFc (fun r_1 u t H1 locs ht hvm hw_r_1 hB hz1 hk1 hS => ?_)
  refine W.widen (k := 0) (n := 0) (Nat.le_refl _) (Nat.le_refl _) ?_
  have hP := keepP hP hk1
  have hR := keepP hR hk1
  generalize H1 = H at hP hR hS ⊢
  have hP : va_P (dC, dI) vwCl ([]) H := hP
  try dsimp only at hw_r_1
  subst hw_r_1
  refine lv_iconst (v := 1) hx hb dL_hangs_6 (by decide) ?_
  refine lv_icmp_ne (tgt := 12) hx hb dL_hangs_7 (by decide) (fun c_2 => ?_) (fun c_2 => ?_)
  · refine lv_iconst (v := 0) hx hb dL_hangs_12 (by decide) ?_
    refine lv_istore_n (lv' := [(2, .int 0), (0, .ref o), (1, .int (nI kz))]) hx hb dL_hangs_13 rfl hl (by decide) rfl (fun ls hl => ?_)
    have K14 : ∀ (NN : Nat), ∀ (jz : Nat), (kz - jz) < NN → (jz ≤ kz) → (hgL (ocF cn wd nr (nI kz) 0) (hgF cn wd nr 4) jz = 0) → ∀ (H : Heap) (locs : List Loc) (ls : Array Slot), va_P (dC, dI) vwCl ([]) H → va_S A s.heap H locs → lv_has ls 3 [(0, .ref o), (1, .int (nI kz)), (2, .int (nI jz))] → W p l e (headSpec wsL_hangs ({ frames := 9, cells := 0, slots := 0, locals := 195 } : Room)).room s m #[Value.ref o, Value.int (nI kz)] below meth c H locs (0) (0) (MQ below (va_Qi (fun (r : Int32) (_ : Unit) => r = hgF cn wd nr 5 kz) (fun _ _ => True) A) #[Value.ref o, Value.int (nI kz)] s 0 0 A) (F0 m 14 ls []) := by
      intro NN
      induction NN with
      | zero =>
        intro jz hmu hj hin H locs ls hP hS hl
        exact absurd hmu (Nat.not_lt_zero _)
      | succ NN ih14 =>
        intro jz hmu hj hin H locs ls hP hS hl
        have hR := keepR hR0 hS hAn
        refine lv_iload_n hx hb dL_hangs_14 rfl (lv_at hl 2 rfl) ?_
        refine lv_iload_n hx hb dL_hangs_15 rfl (lv_at hl 1 rfl) ?_
        refine lv_icmp_ge (tgt := 49) hx hb dL_hangs_16 (by decide) (fun c_3 => ?_) (fun c_3 => ?_)
        · have hke : kz ≤ jz := leK (by omega) (by omega) c_3
          obtain rfl : jz = kz := by omega
          refine lv_iconst (v := 0) hx hb dL_hangs_49 (by decide) ?_
          refine W.widen (k := 0) (n := 0) (by omega) (by omega) ?_
          exact W.zret (v := 0) hx hb hr (by first | rfl | simp [narrow] | assumption) (fun t ht hW => ⟨⟨0, (), rfl, (by rw [hgF, if_neg c_2, hin]), trivial⟩, hS.F ht⟩) hS.2.2 dL_hangs_50
        · have hjl : jz < kz := ltK (by omega) (by omega) c_3
          refine lv_aload_n hx hb dL_hangs_19 rfl (lv_at hl 0 rfl) ?_
          refine lv_iload_n hx hb dL_hangs_20 rfl (lv_at hl 1 rfl) ?_
          refine lv_iconst (v := 0) hx hb dL_hangs_21 (by decide) ?_
          have hPc : va_P (dC, dI) vwCl ([(o, .inr (iX5, [.ref g, .ref ce, .ref lu, .ref cl, .ref se, .int tu, .int ja, .int re])), (cl, .inr (iX0, [.int (nI cn), .int wd, .ref xn, .ref xf])), (xn, .inl (cI, 12, .inl (nr)))]) _ := hR.sub [0, 1, 2] rfl
          have hFc := frZ hS hA
          refine va_calli (va_runV (As := [.int (nI kz), .int 0]) (rest := []) ⟨hx, hb, hml, hown, hts⟩ (c_p_X5_ofClaim l dC dI cI cF tr (H).size o ce lu cl se tu ja re g cn wd xn xf nr (nI kz) 0 (winW hkn (by omega)) (winK (k := 0) (b := 3) (by decide) (by decide)) hcn) (cwV 2 hts gL_hangs_X5_ofClaim rfl rfl rfl (by decide +kernel) ⟨Nat.le_of_ble_eq_true rfl, Nat.le_of_ble_eq_true rfl⟩) ⟨cBl, (va_recv hK hPc (ci := iX5) (q0 := 0) rfl rfl), (cPre hPc hK hN)⟩ rfl rfl hl.1 rfl (lv_room (Nat.le_of_ble_eq_true rfl)) dL_hangs_22 ⟨(Nat.le_of_ble_eq_true rfl), (Nat.le_of_ble_eq_true rfl)⟩) hS (fun q _ h => hFc q h) hFc (fun r_4 u t H1 locs ht hvm hw_r_4 hB hz1 hk1 hS => ?_)
          refine W.widen (k := 0) (n := 0) (Nat.le_refl _) (Nat.le_refl _) ?_
          have hP := keepP hP hk1
          have hR := keepP hR hk1
          generalize H1 = H at hP hR hS ⊢
          have hP : va_P (dC, dI) vwCl ([]) H := hP
          try dsimp only at hw_r_4
          subst hw_r_4
          refine lv_iload_n hx hb dL_hangs_25 rfl (lv_at hl 2 rfl) ?_
          refine lv_ishr hx hb dL_hangs_26 ?_
          refine lv_iconst (v := 1) hx hb dL_hangs_27 (by decide) ?_
          refine lv_iand hx hb dL_hangs_28 ?_
          refine lv_iconst (v := 1) hx hb dL_hangs_29 (by decide) ?_
          refine lv_icmp_ne (tgt := 43) hx hb dL_hangs_30 (by decide) (fun c_5 => ?_) (fun c_5 => ?_)
          · refine lv_iinc (v := nI (jz + 1)) (lv' := [(2, .int (nI (jz + 1))), (0, .ref o), (1, .int (nI kz))]) hx hb dL_hangs_43 hl (k := 2) rfl (nI_1 jz) (by decide) rfl (fun ls hl => ?_)
            refine lv_goto (tgt := 14) hx hb dL_hangs_46 (by decide) ?_
            refine W.widen (k := 0) (n := 0) (by omega) (by omega) ?_
            exact ih14 (jz + 1) (by omega) hjl (by rw [hgL, hin, if_neg (by decide)]; first | rw [if_neg c_5] | rw [if_pos c_3, if_pos c_5]) _ _ ls hP hS (lv_sub hl [1, 2, 0] rfl)
          · refine lv_aload_n hx hb dL_hangs_33 rfl (lv_at hl 0 rfl) ?_
            refine lv_iload_n hx hb dL_hangs_34 rfl (lv_at hl 2 rfl) ?_
            have hPc : va_P (dC, dI) vwCl ([(o, .inr (iX5, [.ref g, .ref ce, .ref lu, .ref cl, .ref se, .int tu, .int ja, .int re])), (cl, .inr (iX0, [.int (nI cn), .int wd, .ref xn, .ref xf])), (xn, .inl (cI, 12, .inl (nr)))]) _ := hR.sub [0, 1, 2] rfl
            have hFc := frZ hS hA
            refine va_calli (va_runS (As := [.ref o, .int (nI jz)]) (rest := []) ⟨hx, hb, hml, hown, hts⟩ (c_L_hangs_4 l dC dI cI cF tr (H).size o ce lu cl se tu ja re g cn wd xn xf nr jz hcn (Nat.lt_trans hjl hkn) (by omega)) (va_cwS 2 hts gL_hangs_L_hangs rfl rfl rfl (by decide +kernel) ⟨Nat.le_of_ble_eq_true rfl, Nat.le_of_ble_eq_true rfl⟩) ⟨cBl, (cPre hPc hK hN)⟩ rfl rfl hl.1 rfl (lv_room (Nat.le_of_ble_eq_true rfl)) dL_hangs_35 ⟨(Nat.le_of_ble_eq_true rfl), (Nat.le_of_ble_eq_true rfl)⟩) hS (fun q _ h => hFc q h) hFc (fun r_6 u t H1 locs ht hvm hw_r_6 hB hz1 hk1 hS => ?_)
            refine W.widen (k := 0) (n := 0) (Nat.le_refl _) (Nat.le_refl _) ?_
            have hP := keepP hP hk1
            have hR := keepP hR hk1
            generalize H1 = H at hP hR hS ⊢
            have hP : va_P (dC, dI) vwCl ([]) H := hP
            try dsimp only at hw_r_6
            subst hw_r_6
            refine lv_if_eq (tgt := 43) hx hb dL_hangs_38 (by decide) (fun c_7 => ?_) (fun c_7 => ?_)
            · refine lv_iinc (v := nI (jz + 1)) (lv' := [(2, .int (nI (jz + 1))), (0, .ref o), (1, .int (nI kz))]) hx hb dL_hangs_43 hl (k := 2) rfl (nI_1 jz) (by decide) rfl (fun ls hl => ?_)
              refine lv_goto (tgt := 14) hx hb dL_hangs_46 (by decide) ?_
              refine W.widen (k := 0) (n := 0) (by omega) (by omega) ?_
              exact ih14 (jz + 1) (by omega) hjl (by rw [hgL, hin, if_neg (by decide)]; first | rw [if_neg c_7] | rw [if_pos c_5, if_pos c_7]) _ _ ls hP hS (lv_sub hl [1, 2, 0] rfl)
            · refine lv_iconst (v := 1) hx hb dL_hangs_41 (by decide) ?_
              refine W.widen (k := 0) (n := 0) (by omega) (by omega) ?_
              exact W.zret (v := 1) hx hb hr (by first | rfl | simp [narrow] | assumption) (fun t ht hW => ⟨⟨1, (), rfl, (by rw [hgF, if_neg c_2]; exact (hgL_up (j := jz + 1) (by rw [hgL, hin, if_neg (by decide), if_pos c_5, if_neg c_7]) kz hjl).symm), trivial⟩, hS.F ht⟩) hS.2.2 dL_hangs_42
    refine W.widen (k := 0) (n := 0) (by omega) (by omega) ?_
    exact K14 (kz - 0 + 1) 0 (by omega) (Nat.zero_le _) rfl _ _ ls hP hS (lv_sub hl [1, 2, 0] rfl)
  · refine lv_iconst (v := 1) hx hb dL_hangs_10 (by decide) ?_
    refine W.widen (k := 0) (n := 0) (by omega) (by omega) ?_
    exact W.zret (v := 1) hx hb hr (by first | rfl | simp [narrow] | assumption) (fun t ht hW => ⟨⟨1, (), rfl, (by rw [hgF, if_pos c_2]), trivial⟩, hS.F ht⟩) hS.2.2 dL_hangs_11

set_option maxHeartbeats 4000000 in
set_option maxRecDepth 100000 in
theorem c_L_hangs_6 (l : Launch) (dC : Nat → ClassId) (dI : Nat → Nat → Nat) (cI cF : ClassId) (tr : List (ClassId × FieldType)) (sz : Nat) (o : Nat) (ce : Nat) (lu : Nat) (cl : Nat) (se : Nat) (tu : Int32) (ja : Int32) (re : Int32) (g : Nat) (cn : Nat) (wd : Int32) (xn : Nat) (xf : Nat) (nr : Nat → Int32) (kz : Nat) (hcn : cn ≤ 12) (hkn : kz < cn) (hkd : kz < 6) : Met l yL_hangs wsL_hangs ({ frames := 10, cells := 0, slots := 0, locals := 217 } : Room) (cPc dC dI ((cI, .int) :: (cF, .object RX1) :: tr) sz ([(o, .inr (iX5, [.ref g, .ref ce, .ref lu, .ref cl, .ref se, .int tu, .int ja, .int re])), (cl, .inr (iX0, [.int (nI cn), .int wd, .ref xn, .ref xf])), (xn, .inl (cI, 12, .inl (nr)))]) [.ref o, .int (nI kz)]) (va_Qi (fun (r : Int32) (_ : Unit) => r = hgF cn wd nr 6 kz) (fun _ _ => True) (va_A ([]) sz)) 0 0 (va_A ([]) sz) := by
  refine Met.ofW (cc := cL_hangs) (maxL := 3) (ret := (some .boolean)) (by decide) rfl ?_
  intro p e s m args below meth c s₁ B hml hv
  obtain ⟨rfl, hsz, hP, hK, hN⟩ := hv
  have hx := B.exec
  have hb := B.bytes
  have hr := B.returns
  have hts := atoms_spec (ws := wsL_hangs) B.pre
  have hown : s.vm.findClass RL = some m.cls := findClass_of_methodNamed B.named
  have hlocks := B.notSynchronized
  subst hsz
  generalize hAe : va_A [] s.heap.size = A
  have hA : ∀ q : Nat, s.heap.size ≤ q → A q := fun q h => by rw [← hAe]; exact Or.inr h
  have hS : va_S A s.heap s.heap [] := va_S.rf
  have hAn : ∀ q : Nat, q < s.heap.size → ¬ A q := fun q h => by rw [← hAe]; exact notZ h
  have hAg : ∀ q : Nat, A q → s.heap.size ≤ q := fun q h => geZ (hAe ▸ h)
  have hR0 : va_P (dC, dI) vwCl ([(o, .inr (iX5, [.ref g, .ref ce, .ref lu, .ref cl, .ref se, .int tu, .int ja, .int re])), (cl, .inr (iX0, [.int (nI cn), .int wd, .ref xn, .ref xf])), (xn, .inl (cI, 12, .inl (nr)))]) s.heap := hP
  have hR : va_P (dC, dI) vwCl ([(o, .inr (iX5, [.ref g, .ref ce, .ref lu, .ref cl, .ref se, .int tu, .int ja, .int re])), (cl, .inr (iX0, [.int (nI cn), .int wd, .ref xn, .ref xf])), (xn, .inl (cI, 12, .inl (nr)))]) s.heap := hP
  have hP : va_P (dC, dI) vwCl [] s.heap := fun k q h => by simp at h
  have hD : va_D A [] := ⟨fun i j p q h => by simp at h, fun k q h => by simp at h⟩
  have hl := lv_entry ([.ref o, .int (nI kz)]) (n := 3) (Nat.le_of_ble_eq_true rfl)
  rw [lg_entry_eq]
  generalize (lg_sl ([.ref o, .int (nI kz)]) ++ List.replicate (3 - (lg_sl ([.ref o, .int (nI kz)])).length) Slot.unset).toArray = ls at hl ⊢
  have hl : lv_has ls 3 [(0, .ref o), (1, .int (nI kz))] := hl
  refine lv_aload_n hx hb dL_hangs_0 rfl (lv_at hl 0 rfl) ?_
  refine lv_iload_n hx hb dL_hangs_1 rfl (lv_at hl 1 rfl) ?_
  refine lv_iconst (v := 1) hx hb dL_hangs_2 (by decide) ?_
  have hPc : va_P (dC, dI) vwCl ([(o, .inr (iX5, [.ref g, .ref ce, .ref lu, .ref cl, .ref se, .int tu, .int ja, .int re])), (cl, .inr (iX0, [.int (nI cn), .int wd, .ref xn, .ref xf])), (xn, .inl (cI, 12, .inl (nr)))]) _ := hR.sub [0, 1, 2] rfl
  have hFc := frZ hS hA
  refine va_calli (va_runV (As := [.int (nI kz), .int 1]) (rest := []) ⟨hx, hb, hml, hown, hts⟩ (c_p_X5_ofClaim l dC dI cI cF tr (s.heap).size o ce lu cl se tu ja re g cn wd xn xf nr (nI kz) 1 (winW hkn (by omega)) (winK (k := 1) (b := 3) (by decide) (by decide)) hcn) (cwV 2 hts gL_hangs_X5_ofClaim rfl rfl rfl (by decide +kernel) ⟨Nat.le_of_ble_eq_true rfl, Nat.le_of_ble_eq_true rfl⟩) ⟨cBl, (va_recv hK hPc (ci := iX5) (q0 := 0) rfl rfl), (cPre hPc hK hN)⟩ rfl rfl hl.1 rfl (lv_room (Nat.le_of_ble_eq_true rfl)) dL_hangs_3 ⟨(Nat.le_of_ble_eq_true rfl), (Nat.le_of_ble_eq_true rfl)⟩) hS (fun q _ h => hFc q h) hFc (fun r_1 u t H1 locs ht hvm hw_r_1 hB hz1 hk1 hS => ?_)
  refine W.widen (k := 0) (n := 0) (Nat.le_refl _) (Nat.le_refl _) ?_
  have hP := keepP hP hk1
  have hR := keepP hR hk1
  generalize H1 = H at hP hR hS ⊢
  have hP : va_P (dC, dI) vwCl ([]) H := hP
  try dsimp only at hw_r_1
  subst hw_r_1
  refine lv_iconst (v := 1) hx hb dL_hangs_6 (by decide) ?_
  refine lv_icmp_ne (tgt := 12) hx hb dL_hangs_7 (by decide) (fun c_2 => ?_) (fun c_2 => ?_)
  · refine lv_iconst (v := 0) hx hb dL_hangs_12 (by decide) ?_
    refine lv_istore_n (lv' := [(2, .int 0), (0, .ref o), (1, .int (nI kz))]) hx hb dL_hangs_13 rfl hl (by decide) rfl (fun ls hl => ?_)
    have K14 : ∀ (NN : Nat), ∀ (jz : Nat), (kz - jz) < NN → (jz ≤ kz) → (hgL (ocF cn wd nr (nI kz) 0) (hgF cn wd nr 5) jz = 0) → ∀ (H : Heap) (locs : List Loc) (ls : Array Slot), va_P (dC, dI) vwCl ([]) H → va_S A s.heap H locs → lv_has ls 3 [(0, .ref o), (1, .int (nI kz)), (2, .int (nI jz))] → W p l e (headSpec wsL_hangs ({ frames := 10, cells := 0, slots := 0, locals := 217 } : Room)).room s m #[Value.ref o, Value.int (nI kz)] below meth c H locs (0) (0) (MQ below (va_Qi (fun (r : Int32) (_ : Unit) => r = hgF cn wd nr 6 kz) (fun _ _ => True) A) #[Value.ref o, Value.int (nI kz)] s 0 0 A) (F0 m 14 ls []) := by
      intro NN
      induction NN with
      | zero =>
        intro jz hmu hj hin H locs ls hP hS hl
        exact absurd hmu (Nat.not_lt_zero _)
      | succ NN ih14 =>
        intro jz hmu hj hin H locs ls hP hS hl
        have hR := keepR hR0 hS hAn
        refine lv_iload_n hx hb dL_hangs_14 rfl (lv_at hl 2 rfl) ?_
        refine lv_iload_n hx hb dL_hangs_15 rfl (lv_at hl 1 rfl) ?_
        refine lv_icmp_ge (tgt := 49) hx hb dL_hangs_16 (by decide) (fun c_3 => ?_) (fun c_3 => ?_)
        · have hke : kz ≤ jz := leK (by omega) (by omega) c_3
          obtain rfl : jz = kz := by omega
          refine lv_iconst (v := 0) hx hb dL_hangs_49 (by decide) ?_
          refine W.widen (k := 0) (n := 0) (by omega) (by omega) ?_
          exact W.zret (v := 0) hx hb hr (by first | rfl | simp [narrow] | assumption) (fun t ht hW => ⟨⟨0, (), rfl, (by rw [hgF, if_neg c_2, hin]), trivial⟩, hS.F ht⟩) hS.2.2 dL_hangs_50
        · have hjl : jz < kz := ltK (by omega) (by omega) c_3
          refine lv_aload_n hx hb dL_hangs_19 rfl (lv_at hl 0 rfl) ?_
          refine lv_iload_n hx hb dL_hangs_20 rfl (lv_at hl 1 rfl) ?_
          refine lv_iconst (v := 0) hx hb dL_hangs_21 (by decide) ?_
          have hPc : va_P (dC, dI) vwCl ([(o, .inr (iX5, [.ref g, .ref ce, .ref lu, .ref cl, .ref se, .int tu, .int ja, .int re])), (cl, .inr (iX0, [.int (nI cn), .int wd, .ref xn, .ref xf])), (xn, .inl (cI, 12, .inl (nr)))]) _ := hR.sub [0, 1, 2] rfl
          have hFc := frZ hS hA
          refine va_calli (va_runV (As := [.int (nI kz), .int 0]) (rest := []) ⟨hx, hb, hml, hown, hts⟩ (c_p_X5_ofClaim l dC dI cI cF tr (H).size o ce lu cl se tu ja re g cn wd xn xf nr (nI kz) 0 (winW hkn (by omega)) (winK (k := 0) (b := 3) (by decide) (by decide)) hcn) (cwV 2 hts gL_hangs_X5_ofClaim rfl rfl rfl (by decide +kernel) ⟨Nat.le_of_ble_eq_true rfl, Nat.le_of_ble_eq_true rfl⟩) ⟨cBl, (va_recv hK hPc (ci := iX5) (q0 := 0) rfl rfl), (cPre hPc hK hN)⟩ rfl rfl hl.1 rfl (lv_room (Nat.le_of_ble_eq_true rfl)) dL_hangs_22 ⟨(Nat.le_of_ble_eq_true rfl), (Nat.le_of_ble_eq_true rfl)⟩) hS (fun q _ h => hFc q h) hFc (fun r_4 u t H1 locs ht hvm hw_r_4 hB hz1 hk1 hS => ?_)
          refine W.widen (k := 0) (n := 0) (Nat.le_refl _) (Nat.le_refl _) ?_
          have hP := keepP hP hk1
          have hR := keepP hR hk1
          generalize H1 = H at hP hR hS ⊢
          have hP : va_P (dC, dI) vwCl ([]) H := hP
          try dsimp only at hw_r_4
          subst hw_r_4
          refine lv_iload_n hx hb dL_hangs_25 rfl (lv_at hl 2 rfl) ?_
          refine lv_ishr hx hb dL_hangs_26 ?_
          refine lv_iconst (v := 1) hx hb dL_hangs_27 (by decide) ?_
          refine lv_iand hx hb dL_hangs_28 ?_
          refine lv_iconst (v := 1) hx hb dL_hangs_29 (by decide) ?_
          refine lv_icmp_ne (tgt := 43) hx hb dL_hangs_30 (by decide) (fun c_5 => ?_) (fun c_5 => ?_)
          · refine lv_iinc (v := nI (jz + 1)) (lv' := [(2, .int (nI (jz + 1))), (0, .ref o), (1, .int (nI kz))]) hx hb dL_hangs_43 hl (k := 2) rfl (nI_1 jz) (by decide) rfl (fun ls hl => ?_)
            refine lv_goto (tgt := 14) hx hb dL_hangs_46 (by decide) ?_
            refine W.widen (k := 0) (n := 0) (by omega) (by omega) ?_
            exact ih14 (jz + 1) (by omega) hjl (by rw [hgL, hin, if_neg (by decide)]; first | rw [if_neg c_5] | rw [if_pos c_3, if_pos c_5]) _ _ ls hP hS (lv_sub hl [1, 2, 0] rfl)
          · refine lv_aload_n hx hb dL_hangs_33 rfl (lv_at hl 0 rfl) ?_
            refine lv_iload_n hx hb dL_hangs_34 rfl (lv_at hl 2 rfl) ?_
            have hPc : va_P (dC, dI) vwCl ([(o, .inr (iX5, [.ref g, .ref ce, .ref lu, .ref cl, .ref se, .int tu, .int ja, .int re])), (cl, .inr (iX0, [.int (nI cn), .int wd, .ref xn, .ref xf])), (xn, .inl (cI, 12, .inl (nr)))]) _ := hR.sub [0, 1, 2] rfl
            have hFc := frZ hS hA
            refine va_calli (va_runS (As := [.ref o, .int (nI jz)]) (rest := []) ⟨hx, hb, hml, hown, hts⟩ (c_L_hangs_5 l dC dI cI cF tr (H).size o ce lu cl se tu ja re g cn wd xn xf nr jz hcn (Nat.lt_trans hjl hkn) (by omega)) (va_cwS 2 hts gL_hangs_L_hangs rfl rfl rfl (by decide +kernel) ⟨Nat.le_of_ble_eq_true rfl, Nat.le_of_ble_eq_true rfl⟩) ⟨cBl, (cPre hPc hK hN)⟩ rfl rfl hl.1 rfl (lv_room (Nat.le_of_ble_eq_true rfl)) dL_hangs_35 ⟨(Nat.le_of_ble_eq_true rfl), (Nat.le_of_ble_eq_true rfl)⟩) hS (fun q _ h => hFc q h) hFc (fun r_6 u t H1 locs ht hvm hw_r_6 hB hz1 hk1 hS => ?_)
            refine W.widen (k := 0) (n := 0) (Nat.le_refl _) (Nat.le_refl _) ?_
            have hP := keepP hP hk1
            have hR := keepP hR hk1
            generalize H1 = H at hP hR hS ⊢
            have hP : va_P (dC, dI) vwCl ([]) H := hP
            try dsimp only at hw_r_6
            subst hw_r_6
            refine lv_if_eq (tgt := 43) hx hb dL_hangs_38 (by decide) (fun c_7 => ?_) (fun c_7 => ?_)
            · refine lv_iinc (v := nI (jz + 1)) (lv' := [(2, .int (nI (jz + 1))), (0, .ref o), (1, .int (nI kz))]) hx hb dL_hangs_43 hl (k := 2) rfl (nI_1 jz) (by decide) rfl (fun ls hl => ?_)
              refine lv_goto (tgt := 14) hx hb dL_hangs_46 (by decide) ?_
              refine W.widen (k := 0) (n := 0) (by omega) (by omega) ?_
              exact ih14 (jz + 1) (by omega) hjl (by rw [hgL, hin, if_neg (by decide)]; first | rw [if_neg c_7] | rw [if_pos c_5, if_pos c_7]) _ _ ls hP hS (lv_sub hl [1, 2, 0] rfl)
            · refine lv_iconst (v := 1) hx hb dL_hangs_41 (by decide) ?_
              refine W.widen (k := 0) (n := 0) (by omega) (by omega) ?_
              exact W.zret (v := 1) hx hb hr (by first | rfl | simp [narrow] | assumption) (fun t ht hW => ⟨⟨1, (), rfl, (by rw [hgF, if_neg c_2]; exact (hgL_up (j := jz + 1) (by rw [hgL, hin, if_neg (by decide), if_pos c_5, if_neg c_7]) kz hjl).symm), trivial⟩, hS.F ht⟩) hS.2.2 dL_hangs_42
    refine W.widen (k := 0) (n := 0) (by omega) (by omega) ?_
    exact K14 (kz - 0 + 1) 0 (by omega) (Nat.zero_le _) rfl _ _ ls hP hS (lv_sub hl [1, 2, 0] rfl)
  · refine lv_iconst (v := 1) hx hb dL_hangs_10 (by decide) ?_
    refine W.widen (k := 0) (n := 0) (by omega) (by omega) ?_
    exact W.zret (v := 1) hx hb hr (by first | rfl | simp [narrow] | assumption) (fun t ht hW => ⟨⟨1, (), rfl, (by rw [hgF, if_pos c_2]), trivial⟩, hS.F ht⟩) hS.2.2 dL_hangs_11

set_option maxHeartbeats 4000000 in
set_option maxRecDepth 100000 in
theorem c_L_hangs_7 (l : Launch) (dC : Nat → ClassId) (dI : Nat → Nat → Nat) (cI cF : ClassId) (tr : List (ClassId × FieldType)) (sz : Nat) (o : Nat) (ce : Nat) (lu : Nat) (cl : Nat) (se : Nat) (tu : Int32) (ja : Int32) (re : Int32) (g : Nat) (cn : Nat) (wd : Int32) (xn : Nat) (xf : Nat) (nr : Nat → Int32) (kz : Nat) (hcn : cn ≤ 12) (hkn : kz < cn) (hkd : kz < 7) : Met l yL_hangs wsL_hangs ({ frames := 11, cells := 0, slots := 0, locals := 239 } : Room) (cPc dC dI ((cI, .int) :: (cF, .object RX1) :: tr) sz ([(o, .inr (iX5, [.ref g, .ref ce, .ref lu, .ref cl, .ref se, .int tu, .int ja, .int re])), (cl, .inr (iX0, [.int (nI cn), .int wd, .ref xn, .ref xf])), (xn, .inl (cI, 12, .inl (nr)))]) [.ref o, .int (nI kz)]) (va_Qi (fun (r : Int32) (_ : Unit) => r = hgF cn wd nr 7 kz) (fun _ _ => True) (va_A ([]) sz)) 0 0 (va_A ([]) sz) := by
  refine Met.ofW (cc := cL_hangs) (maxL := 3) (ret := (some .boolean)) (by decide) rfl ?_
  intro p e s m args below meth c s₁ B hml hv
  obtain ⟨rfl, hsz, hP, hK, hN⟩ := hv
  have hx := B.exec
  have hb := B.bytes
  have hr := B.returns
  have hts := atoms_spec (ws := wsL_hangs) B.pre
  have hown : s.vm.findClass RL = some m.cls := findClass_of_methodNamed B.named
  have hlocks := B.notSynchronized
  subst hsz
  generalize hAe : va_A [] s.heap.size = A
  have hA : ∀ q : Nat, s.heap.size ≤ q → A q := fun q h => by rw [← hAe]; exact Or.inr h
  have hS : va_S A s.heap s.heap [] := va_S.rf
  have hAn : ∀ q : Nat, q < s.heap.size → ¬ A q := fun q h => by rw [← hAe]; exact notZ h
  have hAg : ∀ q : Nat, A q → s.heap.size ≤ q := fun q h => geZ (hAe ▸ h)
  have hR0 : va_P (dC, dI) vwCl ([(o, .inr (iX5, [.ref g, .ref ce, .ref lu, .ref cl, .ref se, .int tu, .int ja, .int re])), (cl, .inr (iX0, [.int (nI cn), .int wd, .ref xn, .ref xf])), (xn, .inl (cI, 12, .inl (nr)))]) s.heap := hP
  have hR : va_P (dC, dI) vwCl ([(o, .inr (iX5, [.ref g, .ref ce, .ref lu, .ref cl, .ref se, .int tu, .int ja, .int re])), (cl, .inr (iX0, [.int (nI cn), .int wd, .ref xn, .ref xf])), (xn, .inl (cI, 12, .inl (nr)))]) s.heap := hP
  have hP : va_P (dC, dI) vwCl [] s.heap := fun k q h => by simp at h
  have hD : va_D A [] := ⟨fun i j p q h => by simp at h, fun k q h => by simp at h⟩
  have hl := lv_entry ([.ref o, .int (nI kz)]) (n := 3) (Nat.le_of_ble_eq_true rfl)
  rw [lg_entry_eq]
  generalize (lg_sl ([.ref o, .int (nI kz)]) ++ List.replicate (3 - (lg_sl ([.ref o, .int (nI kz)])).length) Slot.unset).toArray = ls at hl ⊢
  have hl : lv_has ls 3 [(0, .ref o), (1, .int (nI kz))] := hl
  refine lv_aload_n hx hb dL_hangs_0 rfl (lv_at hl 0 rfl) ?_
  refine lv_iload_n hx hb dL_hangs_1 rfl (lv_at hl 1 rfl) ?_
  refine lv_iconst (v := 1) hx hb dL_hangs_2 (by decide) ?_
  have hPc : va_P (dC, dI) vwCl ([(o, .inr (iX5, [.ref g, .ref ce, .ref lu, .ref cl, .ref se, .int tu, .int ja, .int re])), (cl, .inr (iX0, [.int (nI cn), .int wd, .ref xn, .ref xf])), (xn, .inl (cI, 12, .inl (nr)))]) _ := hR.sub [0, 1, 2] rfl
  have hFc := frZ hS hA
  refine va_calli (va_runV (As := [.int (nI kz), .int 1]) (rest := []) ⟨hx, hb, hml, hown, hts⟩ (c_p_X5_ofClaim l dC dI cI cF tr (s.heap).size o ce lu cl se tu ja re g cn wd xn xf nr (nI kz) 1 (winW hkn (by omega)) (winK (k := 1) (b := 3) (by decide) (by decide)) hcn) (cwV 2 hts gL_hangs_X5_ofClaim rfl rfl rfl (by decide +kernel) ⟨Nat.le_of_ble_eq_true rfl, Nat.le_of_ble_eq_true rfl⟩) ⟨cBl, (va_recv hK hPc (ci := iX5) (q0 := 0) rfl rfl), (cPre hPc hK hN)⟩ rfl rfl hl.1 rfl (lv_room (Nat.le_of_ble_eq_true rfl)) dL_hangs_3 ⟨(Nat.le_of_ble_eq_true rfl), (Nat.le_of_ble_eq_true rfl)⟩) hS (fun q _ h => hFc q h) hFc (fun r_1 u t H1 locs ht hvm hw_r_1 hB hz1 hk1 hS => ?_)
  refine W.widen (k := 0) (n := 0) (Nat.le_refl _) (Nat.le_refl _) ?_
  have hP := keepP hP hk1
  have hR := keepP hR hk1
  generalize H1 = H at hP hR hS ⊢
  have hP : va_P (dC, dI) vwCl ([]) H := hP
  try dsimp only at hw_r_1
  subst hw_r_1
  refine lv_iconst (v := 1) hx hb dL_hangs_6 (by decide) ?_
  refine lv_icmp_ne (tgt := 12) hx hb dL_hangs_7 (by decide) (fun c_2 => ?_) (fun c_2 => ?_)
  · refine lv_iconst (v := 0) hx hb dL_hangs_12 (by decide) ?_
    refine lv_istore_n (lv' := [(2, .int 0), (0, .ref o), (1, .int (nI kz))]) hx hb dL_hangs_13 rfl hl (by decide) rfl (fun ls hl => ?_)
    have K14 : ∀ (NN : Nat), ∀ (jz : Nat), (kz - jz) < NN → (jz ≤ kz) → (hgL (ocF cn wd nr (nI kz) 0) (hgF cn wd nr 6) jz = 0) → ∀ (H : Heap) (locs : List Loc) (ls : Array Slot), va_P (dC, dI) vwCl ([]) H → va_S A s.heap H locs → lv_has ls 3 [(0, .ref o), (1, .int (nI kz)), (2, .int (nI jz))] → W p l e (headSpec wsL_hangs ({ frames := 11, cells := 0, slots := 0, locals := 239 } : Room)).room s m #[Value.ref o, Value.int (nI kz)] below meth c H locs (0) (0) (MQ below (va_Qi (fun (r : Int32) (_ : Unit) => r = hgF cn wd nr 7 kz) (fun _ _ => True) A) #[Value.ref o, Value.int (nI kz)] s 0 0 A) (F0 m 14 ls []) := by
      intro NN
      induction NN with
      | zero =>
        intro jz hmu hj hin H locs ls hP hS hl
        exact absurd hmu (Nat.not_lt_zero _)
      | succ NN ih14 =>
        intro jz hmu hj hin H locs ls hP hS hl
        have hR := keepR hR0 hS hAn
        refine lv_iload_n hx hb dL_hangs_14 rfl (lv_at hl 2 rfl) ?_
        refine lv_iload_n hx hb dL_hangs_15 rfl (lv_at hl 1 rfl) ?_
        refine lv_icmp_ge (tgt := 49) hx hb dL_hangs_16 (by decide) (fun c_3 => ?_) (fun c_3 => ?_)
        · have hke : kz ≤ jz := leK (by omega) (by omega) c_3
          obtain rfl : jz = kz := by omega
          refine lv_iconst (v := 0) hx hb dL_hangs_49 (by decide) ?_
          refine W.widen (k := 0) (n := 0) (by omega) (by omega) ?_
          exact W.zret (v := 0) hx hb hr (by first | rfl | simp [narrow] | assumption) (fun t ht hW => ⟨⟨0, (), rfl, (by rw [hgF, if_neg c_2, hin]), trivial⟩, hS.F ht⟩) hS.2.2 dL_hangs_50
        · have hjl : jz < kz := ltK (by omega) (by omega) c_3
          refine lv_aload_n hx hb dL_hangs_19 rfl (lv_at hl 0 rfl) ?_
          refine lv_iload_n hx hb dL_hangs_20 rfl (lv_at hl 1 rfl) ?_
          refine lv_iconst (v := 0) hx hb dL_hangs_21 (by decide) ?_
          have hPc : va_P (dC, dI) vwCl ([(o, .inr (iX5, [.ref g, .ref ce, .ref lu, .ref cl, .ref se, .int tu, .int ja, .int re])), (cl, .inr (iX0, [.int (nI cn), .int wd, .ref xn, .ref xf])), (xn, .inl (cI, 12, .inl (nr)))]) _ := hR.sub [0, 1, 2] rfl
          have hFc := frZ hS hA
          refine va_calli (va_runV (As := [.int (nI kz), .int 0]) (rest := []) ⟨hx, hb, hml, hown, hts⟩ (c_p_X5_ofClaim l dC dI cI cF tr (H).size o ce lu cl se tu ja re g cn wd xn xf nr (nI kz) 0 (winW hkn (by omega)) (winK (k := 0) (b := 3) (by decide) (by decide)) hcn) (cwV 2 hts gL_hangs_X5_ofClaim rfl rfl rfl (by decide +kernel) ⟨Nat.le_of_ble_eq_true rfl, Nat.le_of_ble_eq_true rfl⟩) ⟨cBl, (va_recv hK hPc (ci := iX5) (q0 := 0) rfl rfl), (cPre hPc hK hN)⟩ rfl rfl hl.1 rfl (lv_room (Nat.le_of_ble_eq_true rfl)) dL_hangs_22 ⟨(Nat.le_of_ble_eq_true rfl), (Nat.le_of_ble_eq_true rfl)⟩) hS (fun q _ h => hFc q h) hFc (fun r_4 u t H1 locs ht hvm hw_r_4 hB hz1 hk1 hS => ?_)
          refine W.widen (k := 0) (n := 0) (Nat.le_refl _) (Nat.le_refl _) ?_
          have hP := keepP hP hk1
          have hR := keepP hR hk1
          generalize H1 = H at hP hR hS ⊢
          have hP : va_P (dC, dI) vwCl ([]) H := hP
          try dsimp only at hw_r_4
          subst hw_r_4
          refine lv_iload_n hx hb dL_hangs_25 rfl (lv_at hl 2 rfl) ?_
          refine lv_ishr hx hb dL_hangs_26 ?_
          refine lv_iconst (v := 1) hx hb dL_hangs_27 (by decide) ?_
          refine lv_iand hx hb dL_hangs_28 ?_
          refine lv_iconst (v := 1) hx hb dL_hangs_29 (by decide) ?_
          refine lv_icmp_ne (tgt := 43) hx hb dL_hangs_30 (by decide) (fun c_5 => ?_) (fun c_5 => ?_)
          · refine lv_iinc (v := nI (jz + 1)) (lv' := [(2, .int (nI (jz + 1))), (0, .ref o), (1, .int (nI kz))]) hx hb dL_hangs_43 hl (k := 2) rfl (nI_1 jz) (by decide) rfl (fun ls hl => ?_)
            refine lv_goto (tgt := 14) hx hb dL_hangs_46 (by decide) ?_
            refine W.widen (k := 0) (n := 0) (by omega) (by omega) ?_
            exact ih14 (jz + 1) (by omega) hjl (by rw [hgL, hin, if_neg (by decide)]; first | rw [if_neg c_5] | rw [if_pos c_3, if_pos c_5]) _ _ ls hP hS (lv_sub hl [1, 2, 0] rfl)
          · refine lv_aload_n hx hb dL_hangs_33 rfl (lv_at hl 0 rfl) ?_
            refine lv_iload_n hx hb dL_hangs_34 rfl (lv_at hl 2 rfl) ?_
            have hPc : va_P (dC, dI) vwCl ([(o, .inr (iX5, [.ref g, .ref ce, .ref lu, .ref cl, .ref se, .int tu, .int ja, .int re])), (cl, .inr (iX0, [.int (nI cn), .int wd, .ref xn, .ref xf])), (xn, .inl (cI, 12, .inl (nr)))]) _ := hR.sub [0, 1, 2] rfl
            have hFc := frZ hS hA
            refine va_calli (va_runS (As := [.ref o, .int (nI jz)]) (rest := []) ⟨hx, hb, hml, hown, hts⟩ (c_L_hangs_6 l dC dI cI cF tr (H).size o ce lu cl se tu ja re g cn wd xn xf nr jz hcn (Nat.lt_trans hjl hkn) (by omega)) (va_cwS 2 hts gL_hangs_L_hangs rfl rfl rfl (by decide +kernel) ⟨Nat.le_of_ble_eq_true rfl, Nat.le_of_ble_eq_true rfl⟩) ⟨cBl, (cPre hPc hK hN)⟩ rfl rfl hl.1 rfl (lv_room (Nat.le_of_ble_eq_true rfl)) dL_hangs_35 ⟨(Nat.le_of_ble_eq_true rfl), (Nat.le_of_ble_eq_true rfl)⟩) hS (fun q _ h => hFc q h) hFc (fun r_6 u t H1 locs ht hvm hw_r_6 hB hz1 hk1 hS => ?_)
            refine W.widen (k := 0) (n := 0) (Nat.le_refl _) (Nat.le_refl _) ?_
            have hP := keepP hP hk1
            have hR := keepP hR hk1
            generalize H1 = H at hP hR hS ⊢
            have hP : va_P (dC, dI) vwCl ([]) H := hP
            try dsimp only at hw_r_6
            subst hw_r_6
            refine lv_if_eq (tgt := 43) hx hb dL_hangs_38 (by decide) (fun c_7 => ?_) (fun c_7 => ?_)
            · refine lv_iinc (v := nI (jz + 1)) (lv' := [(2, .int (nI (jz + 1))), (0, .ref o), (1, .int (nI kz))]) hx hb dL_hangs_43 hl (k := 2) rfl (nI_1 jz) (by decide) rfl (fun ls hl => ?_)
              refine lv_goto (tgt := 14) hx hb dL_hangs_46 (by decide) ?_
              refine W.widen (k := 0) (n := 0) (by omega) (by omega) ?_
              exact ih14 (jz + 1) (by omega) hjl (by rw [hgL, hin, if_neg (by decide)]; first | rw [if_neg c_7] | rw [if_pos c_5, if_pos c_7]) _ _ ls hP hS (lv_sub hl [1, 2, 0] rfl)
            · refine lv_iconst (v := 1) hx hb dL_hangs_41 (by decide) ?_
              refine W.widen (k := 0) (n := 0) (by omega) (by omega) ?_
              exact W.zret (v := 1) hx hb hr (by first | rfl | simp [narrow] | assumption) (fun t ht hW => ⟨⟨1, (), rfl, (by rw [hgF, if_neg c_2]; exact (hgL_up (j := jz + 1) (by rw [hgL, hin, if_neg (by decide), if_pos c_5, if_neg c_7]) kz hjl).symm), trivial⟩, hS.F ht⟩) hS.2.2 dL_hangs_42
    refine W.widen (k := 0) (n := 0) (by omega) (by omega) ?_
    exact K14 (kz - 0 + 1) 0 (by omega) (Nat.zero_le _) rfl _ _ ls hP hS (lv_sub hl [1, 2, 0] rfl)
  · refine lv_iconst (v := 1) hx hb dL_hangs_10 (by decide) ?_
    refine W.widen (k := 0) (n := 0) (by omega) (by omega) ?_
    exact W.zret (v := 1) hx hb hr (by first | rfl | simp [narrow] | assumption) (fun t ht hW => ⟨⟨1, (), rfl, (by rw [hgF, if_pos c_2]), trivial⟩, hS.F ht⟩) hS.2.2 dL_hangs_11

set_option maxHeartbeats 4000000 in
set_option maxRecDepth 100000 in
theorem c_L_hangs_8 (l : Launch) (dC : Nat → ClassId) (dI : Nat → Nat → Nat) (cI cF : ClassId) (tr : List (ClassId × FieldType)) (sz : Nat) (o : Nat) (ce : Nat) (lu : Nat) (cl : Nat) (se : Nat) (tu : Int32) (ja : Int32) (re : Int32) (g : Nat) (cn : Nat) (wd : Int32) (xn : Nat) (xf : Nat) (nr : Nat → Int32) (kz : Nat) (hcn : cn ≤ 12) (hkn : kz < cn) (hkd : kz < 8) : Met l yL_hangs wsL_hangs ({ frames := 12, cells := 0, slots := 0, locals := 261 } : Room) (cPc dC dI ((cI, .int) :: (cF, .object RX1) :: tr) sz ([(o, .inr (iX5, [.ref g, .ref ce, .ref lu, .ref cl, .ref se, .int tu, .int ja, .int re])), (cl, .inr (iX0, [.int (nI cn), .int wd, .ref xn, .ref xf])), (xn, .inl (cI, 12, .inl (nr)))]) [.ref o, .int (nI kz)]) (va_Qi (fun (r : Int32) (_ : Unit) => r = hgF cn wd nr 8 kz) (fun _ _ => True) (va_A ([]) sz)) 0 0 (va_A ([]) sz) := by
  refine Met.ofW (cc := cL_hangs) (maxL := 3) (ret := (some .boolean)) (by decide) rfl ?_
  intro p e s m args below meth c s₁ B hml hv
  obtain ⟨rfl, hsz, hP, hK, hN⟩ := hv
  have hx := B.exec
  have hb := B.bytes
  have hr := B.returns
  have hts := atoms_spec (ws := wsL_hangs) B.pre
  have hown : s.vm.findClass RL = some m.cls := findClass_of_methodNamed B.named
  have hlocks := B.notSynchronized
  subst hsz
  generalize hAe : va_A [] s.heap.size = A
  have hA : ∀ q : Nat, s.heap.size ≤ q → A q := fun q h => by rw [← hAe]; exact Or.inr h
  have hS : va_S A s.heap s.heap [] := va_S.rf
  have hAn : ∀ q : Nat, q < s.heap.size → ¬ A q := fun q h => by rw [← hAe]; exact notZ h
  have hAg : ∀ q : Nat, A q → s.heap.size ≤ q := fun q h => geZ (hAe ▸ h)
  have hR0 : va_P (dC, dI) vwCl ([(o, .inr (iX5, [.ref g, .ref ce, .ref lu, .ref cl, .ref se, .int tu, .int ja, .int re])), (cl, .inr (iX0, [.int (nI cn), .int wd, .ref xn, .ref xf])), (xn, .inl (cI, 12, .inl (nr)))]) s.heap := hP
  have hR : va_P (dC, dI) vwCl ([(o, .inr (iX5, [.ref g, .ref ce, .ref lu, .ref cl, .ref se, .int tu, .int ja, .int re])), (cl, .inr (iX0, [.int (nI cn), .int wd, .ref xn, .ref xf])), (xn, .inl (cI, 12, .inl (nr)))]) s.heap := hP
  have hP : va_P (dC, dI) vwCl [] s.heap := fun k q h => by simp at h
  have hD : va_D A [] := ⟨fun i j p q h => by simp at h, fun k q h => by simp at h⟩
  have hl := lv_entry ([.ref o, .int (nI kz)]) (n := 3) (Nat.le_of_ble_eq_true rfl)
  rw [lg_entry_eq]
  generalize (lg_sl ([.ref o, .int (nI kz)]) ++ List.replicate (3 - (lg_sl ([.ref o, .int (nI kz)])).length) Slot.unset).toArray = ls at hl ⊢
  have hl : lv_has ls 3 [(0, .ref o), (1, .int (nI kz))] := hl
  refine lv_aload_n hx hb dL_hangs_0 rfl (lv_at hl 0 rfl) ?_
  refine lv_iload_n hx hb dL_hangs_1 rfl (lv_at hl 1 rfl) ?_
  refine lv_iconst (v := 1) hx hb dL_hangs_2 (by decide) ?_
  have hPc : va_P (dC, dI) vwCl ([(o, .inr (iX5, [.ref g, .ref ce, .ref lu, .ref cl, .ref se, .int tu, .int ja, .int re])), (cl, .inr (iX0, [.int (nI cn), .int wd, .ref xn, .ref xf])), (xn, .inl (cI, 12, .inl (nr)))]) _ := hR.sub [0, 1, 2] rfl
  have hFc := frZ hS hA
  refine va_calli (va_runV (As := [.int (nI kz), .int 1]) (rest := []) ⟨hx, hb, hml, hown, hts⟩ (c_p_X5_ofClaim l dC dI cI cF tr (s.heap).size o ce lu cl se tu ja re g cn wd xn xf nr (nI kz) 1 (winW hkn (by omega)) (winK (k := 1) (b := 3) (by decide) (by decide)) hcn) (cwV 2 hts gL_hangs_X5_ofClaim rfl rfl rfl (by decide +kernel) ⟨Nat.le_of_ble_eq_true rfl, Nat.le_of_ble_eq_true rfl⟩) ⟨cBl, (va_recv hK hPc (ci := iX5) (q0 := 0) rfl rfl), (cPre hPc hK hN)⟩ rfl rfl hl.1 rfl (lv_room (Nat.le_of_ble_eq_true rfl)) dL_hangs_3 ⟨(Nat.le_of_ble_eq_true rfl), (Nat.le_of_ble_eq_true rfl)⟩) hS (fun q _ h => hFc q h) hFc (fun r_1 u t H1 locs ht hvm hw_r_1 hB hz1 hk1 hS => ?_)
  refine W.widen (k := 0) (n := 0) (Nat.le_refl _) (Nat.le_refl _) ?_
  have hP := keepP hP hk1
  have hR := keepP hR hk1
  generalize H1 = H at hP hR hS ⊢
  have hP : va_P (dC, dI) vwCl ([]) H := hP
  try dsimp only at hw_r_1
  subst hw_r_1
  refine lv_iconst (v := 1) hx hb dL_hangs_6 (by decide) ?_
  refine lv_icmp_ne (tgt := 12) hx hb dL_hangs_7 (by decide) (fun c_2 => ?_) (fun c_2 => ?_)
  · refine lv_iconst (v := 0) hx hb dL_hangs_12 (by decide) ?_
    refine lv_istore_n (lv' := [(2, .int 0), (0, .ref o), (1, .int (nI kz))]) hx hb dL_hangs_13 rfl hl (by decide) rfl (fun ls hl => ?_)
    have K14 : ∀ (NN : Nat), ∀ (jz : Nat), (kz - jz) < NN → (jz ≤ kz) → (hgL (ocF cn wd nr (nI kz) 0) (hgF cn wd nr 7) jz = 0) → ∀ (H : Heap) (locs : List Loc) (ls : Array Slot), va_P (dC, dI) vwCl ([]) H → va_S A s.heap H locs → lv_has ls 3 [(0, .ref o), (1, .int (nI kz)), (2, .int (nI jz))] → W p l e (headSpec wsL_hangs ({ frames := 12, cells := 0, slots := 0, locals := 261 } : Room)).room s m #[Value.ref o, Value.int (nI kz)] below meth c H locs (0) (0) (MQ below (va_Qi (fun (r : Int32) (_ : Unit) => r = hgF cn wd nr 8 kz) (fun _ _ => True) A) #[Value.ref o, Value.int (nI kz)] s 0 0 A) (F0 m 14 ls []) := by
      intro NN
      induction NN with
      | zero =>
        intro jz hmu hj hin H locs ls hP hS hl
        exact absurd hmu (Nat.not_lt_zero _)
      | succ NN ih14 =>
        intro jz hmu hj hin H locs ls hP hS hl
        have hR := keepR hR0 hS hAn
        refine lv_iload_n hx hb dL_hangs_14 rfl (lv_at hl 2 rfl) ?_
        refine lv_iload_n hx hb dL_hangs_15 rfl (lv_at hl 1 rfl) ?_
        refine lv_icmp_ge (tgt := 49) hx hb dL_hangs_16 (by decide) (fun c_3 => ?_) (fun c_3 => ?_)
        · have hke : kz ≤ jz := leK (by omega) (by omega) c_3
          obtain rfl : jz = kz := by omega
          refine lv_iconst (v := 0) hx hb dL_hangs_49 (by decide) ?_
          refine W.widen (k := 0) (n := 0) (by omega) (by omega) ?_
          exact W.zret (v := 0) hx hb hr (by first | rfl | simp [narrow] | assumption) (fun t ht hW => ⟨⟨0, (), rfl, (by rw [hgF, if_neg c_2, hin]), trivial⟩, hS.F ht⟩) hS.2.2 dL_hangs_50
        · have hjl : jz < kz := ltK (by omega) (by omega) c_3
          refine lv_aload_n hx hb dL_hangs_19 rfl (lv_at hl 0 rfl) ?_
          refine lv_iload_n hx hb dL_hangs_20 rfl (lv_at hl 1 rfl) ?_
          refine lv_iconst (v := 0) hx hb dL_hangs_21 (by decide) ?_
          have hPc : va_P (dC, dI) vwCl ([(o, .inr (iX5, [.ref g, .ref ce, .ref lu, .ref cl, .ref se, .int tu, .int ja, .int re])), (cl, .inr (iX0, [.int (nI cn), .int wd, .ref xn, .ref xf])), (xn, .inl (cI, 12, .inl (nr)))]) _ := hR.sub [0, 1, 2] rfl
          have hFc := frZ hS hA
          refine va_calli (va_runV (As := [.int (nI kz), .int 0]) (rest := []) ⟨hx, hb, hml, hown, hts⟩ (c_p_X5_ofClaim l dC dI cI cF tr (H).size o ce lu cl se tu ja re g cn wd xn xf nr (nI kz) 0 (winW hkn (by omega)) (winK (k := 0) (b := 3) (by decide) (by decide)) hcn) (cwV 2 hts gL_hangs_X5_ofClaim rfl rfl rfl (by decide +kernel) ⟨Nat.le_of_ble_eq_true rfl, Nat.le_of_ble_eq_true rfl⟩) ⟨cBl, (va_recv hK hPc (ci := iX5) (q0 := 0) rfl rfl), (cPre hPc hK hN)⟩ rfl rfl hl.1 rfl (lv_room (Nat.le_of_ble_eq_true rfl)) dL_hangs_22 ⟨(Nat.le_of_ble_eq_true rfl), (Nat.le_of_ble_eq_true rfl)⟩) hS (fun q _ h => hFc q h) hFc (fun r_4 u t H1 locs ht hvm hw_r_4 hB hz1 hk1 hS => ?_)
          refine W.widen (k := 0) (n := 0) (Nat.le_refl _) (Nat.le_refl _) ?_
          have hP := keepP hP hk1
          have hR := keepP hR hk1
          generalize H1 = H at hP hR hS ⊢
          have hP : va_P (dC, dI) vwCl ([]) H := hP
          try dsimp only at hw_r_4
          subst hw_r_4
          refine lv_iload_n hx hb dL_hangs_25 rfl (lv_at hl 2 rfl) ?_
          refine lv_ishr hx hb dL_hangs_26 ?_
          refine lv_iconst (v := 1) hx hb dL_hangs_27 (by decide) ?_
          refine lv_iand hx hb dL_hangs_28 ?_
          refine lv_iconst (v := 1) hx hb dL_hangs_29 (by decide) ?_
          refine lv_icmp_ne (tgt := 43) hx hb dL_hangs_30 (by decide) (fun c_5 => ?_) (fun c_5 => ?_)
          · refine lv_iinc (v := nI (jz + 1)) (lv' := [(2, .int (nI (jz + 1))), (0, .ref o), (1, .int (nI kz))]) hx hb dL_hangs_43 hl (k := 2) rfl (nI_1 jz) (by decide) rfl (fun ls hl => ?_)
            refine lv_goto (tgt := 14) hx hb dL_hangs_46 (by decide) ?_
            refine W.widen (k := 0) (n := 0) (by omega) (by omega) ?_
            exact ih14 (jz + 1) (by omega) hjl (by rw [hgL, hin, if_neg (by decide)]; first | rw [if_neg c_5] | rw [if_pos c_3, if_pos c_5]) _ _ ls hP hS (lv_sub hl [1, 2, 0] rfl)
          · refine lv_aload_n hx hb dL_hangs_33 rfl (lv_at hl 0 rfl) ?_
            refine lv_iload_n hx hb dL_hangs_34 rfl (lv_at hl 2 rfl) ?_
            have hPc : va_P (dC, dI) vwCl ([(o, .inr (iX5, [.ref g, .ref ce, .ref lu, .ref cl, .ref se, .int tu, .int ja, .int re])), (cl, .inr (iX0, [.int (nI cn), .int wd, .ref xn, .ref xf])), (xn, .inl (cI, 12, .inl (nr)))]) _ := hR.sub [0, 1, 2] rfl
            have hFc := frZ hS hA
            refine va_calli (va_runS (As := [.ref o, .int (nI jz)]) (rest := []) ⟨hx, hb, hml, hown, hts⟩ (c_L_hangs_7 l dC dI cI cF tr (H).size o ce lu cl se tu ja re g cn wd xn xf nr jz hcn (Nat.lt_trans hjl hkn) (by omega)) (va_cwS 2 hts gL_hangs_L_hangs rfl rfl rfl (by decide +kernel) ⟨Nat.le_of_ble_eq_true rfl, Nat.le_of_ble_eq_true rfl⟩) ⟨cBl, (cPre hPc hK hN)⟩ rfl rfl hl.1 rfl (lv_room (Nat.le_of_ble_eq_true rfl)) dL_hangs_35 ⟨(Nat.le_of_ble_eq_true rfl), (Nat.le_of_ble_eq_true rfl)⟩) hS (fun q _ h => hFc q h) hFc (fun r_6 u t H1 locs ht hvm hw_r_6 hB hz1 hk1 hS => ?_)
            refine W.widen (k := 0) (n := 0) (Nat.le_refl _) (Nat.le_refl _) ?_
            have hP := keepP hP hk1
            have hR := keepP hR hk1
            generalize H1 = H at hP hR hS ⊢
            have hP : va_P (dC, dI) vwCl ([]) H := hP
            try dsimp only at hw_r_6
            subst hw_r_6
            refine lv_if_eq (tgt := 43) hx hb dL_hangs_38 (by decide) (fun c_7 => ?_) (fun c_7 => ?_)
            · refine lv_iinc (v := nI (jz + 1)) (lv' := [(2, .int (nI (jz + 1))), (0, .ref o), (1, .int (nI kz))]) hx hb dL_hangs_43 hl (k := 2) rfl (nI_1 jz) (by decide) rfl (fun ls hl => ?_)
              refine lv_goto (tgt := 14) hx hb dL_hangs_46 (by decide) ?_
              refine W.widen (k := 0) (n := 0) (by omega) (by omega) ?_
              exact ih14 (jz + 1) (by omega) hjl (by rw [hgL, hin, if_neg (by decide)]; first | rw [if_neg c_7] | rw [if_pos c_5, if_pos c_7]) _ _ ls hP hS (lv_sub hl [1, 2, 0] rfl)
            · refine lv_iconst (v := 1) hx hb dL_hangs_41 (by decide) ?_
              refine W.widen (k := 0) (n := 0) (by omega) (by omega) ?_
              exact W.zret (v := 1) hx hb hr (by first | rfl | simp [narrow] | assumption) (fun t ht hW => ⟨⟨1, (), rfl, (by rw [hgF, if_neg c_2]; exact (hgL_up (j := jz + 1) (by rw [hgL, hin, if_neg (by decide), if_pos c_5, if_neg c_7]) kz hjl).symm), trivial⟩, hS.F ht⟩) hS.2.2 dL_hangs_42
    refine W.widen (k := 0) (n := 0) (by omega) (by omega) ?_
    exact K14 (kz - 0 + 1) 0 (by omega) (Nat.zero_le _) rfl _ _ ls hP hS (lv_sub hl [1, 2, 0] rfl)
  · refine lv_iconst (v := 1) hx hb dL_hangs_10 (by decide) ?_
    refine W.widen (k := 0) (n := 0) (by omega) (by omega) ?_
    exact W.zret (v := 1) hx hb hr (by first | rfl | simp [narrow] | assumption) (fun t ht hW => ⟨⟨1, (), rfl, (by rw [hgF, if_pos c_2]), trivial⟩, hS.F ht⟩) hS.2.2 dL_hangs_11

set_option maxHeartbeats 4000000 in
set_option maxRecDepth 100000 in
theorem c_L_hangs_9 (l : Launch) (dC : Nat → ClassId) (dI : Nat → Nat → Nat) (cI cF : ClassId) (tr : List (ClassId × FieldType)) (sz : Nat) (o : Nat) (ce : Nat) (lu : Nat) (cl : Nat) (se : Nat) (tu : Int32) (ja : Int32) (re : Int32) (g : Nat) (cn : Nat) (wd : Int32) (xn : Nat) (xf : Nat) (nr : Nat → Int32) (kz : Nat) (hcn : cn ≤ 12) (hkn : kz < cn) (hkd : kz < 9) : Met l yL_hangs wsL_hangs ({ frames := 13, cells := 0, slots := 0, locals := 283 } : Room) (cPc dC dI ((cI, .int) :: (cF, .object RX1) :: tr) sz ([(o, .inr (iX5, [.ref g, .ref ce, .ref lu, .ref cl, .ref se, .int tu, .int ja, .int re])), (cl, .inr (iX0, [.int (nI cn), .int wd, .ref xn, .ref xf])), (xn, .inl (cI, 12, .inl (nr)))]) [.ref o, .int (nI kz)]) (va_Qi (fun (r : Int32) (_ : Unit) => r = hgF cn wd nr 9 kz) (fun _ _ => True) (va_A ([]) sz)) 0 0 (va_A ([]) sz) := by
  refine Met.ofW (cc := cL_hangs) (maxL := 3) (ret := (some .boolean)) (by decide) rfl ?_
  intro p e s m args below meth c s₁ B hml hv
  obtain ⟨rfl, hsz, hP, hK, hN⟩ := hv
  have hx := B.exec
  have hb := B.bytes
  have hr := B.returns
  have hts := atoms_spec (ws := wsL_hangs) B.pre
  have hown : s.vm.findClass RL = some m.cls := findClass_of_methodNamed B.named
  have hlocks := B.notSynchronized
  subst hsz
  generalize hAe : va_A [] s.heap.size = A
  have hA : ∀ q : Nat, s.heap.size ≤ q → A q := fun q h => by rw [← hAe]; exact Or.inr h
  have hS : va_S A s.heap s.heap [] := va_S.rf
  have hAn : ∀ q : Nat, q < s.heap.size → ¬ A q := fun q h => by rw [← hAe]; exact notZ h
  have hAg : ∀ q : Nat, A q → s.heap.size ≤ q := fun q h => geZ (hAe ▸ h)
  have hR0 : va_P (dC, dI) vwCl ([(o, .inr (iX5, [.ref g, .ref ce, .ref lu, .ref cl, .ref se, .int tu, .int ja, .int re])), (cl, .inr (iX0, [.int (nI cn), .int wd, .ref xn, .ref xf])), (xn, .inl (cI, 12, .inl (nr)))]) s.heap := hP
  have hR : va_P (dC, dI) vwCl ([(o, .inr (iX5, [.ref g, .ref ce, .ref lu, .ref cl, .ref se, .int tu, .int ja, .int re])), (cl, .inr (iX0, [.int (nI cn), .int wd, .ref xn, .ref xf])), (xn, .inl (cI, 12, .inl (nr)))]) s.heap := hP
  have hP : va_P (dC, dI) vwCl [] s.heap := fun k q h => by simp at h
  have hD : va_D A [] := ⟨fun i j p q h => by simp at h, fun k q h => by simp at h⟩
  have hl := lv_entry ([.ref o, .int (nI kz)]) (n := 3) (Nat.le_of_ble_eq_true rfl)
  rw [lg_entry_eq]
  generalize (lg_sl ([.ref o, .int (nI kz)]) ++ List.replicate (3 - (lg_sl ([.ref o, .int (nI kz)])).length) Slot.unset).toArray = ls at hl ⊢
  have hl : lv_has ls 3 [(0, .ref o), (1, .int (nI kz))] := hl
  refine lv_aload_n hx hb dL_hangs_0 rfl (lv_at hl 0 rfl) ?_
  refine lv_iload_n hx hb dL_hangs_1 rfl (lv_at hl 1 rfl) ?_
  refine lv_iconst (v := 1) hx hb dL_hangs_2 (by decide) ?_
  have hPc : va_P (dC, dI) vwCl ([(o, .inr (iX5, [.ref g, .ref ce, .ref lu, .ref cl, .ref se, .int tu, .int ja, .int re])), (cl, .inr (iX0, [.int (nI cn), .int wd, .ref xn, .ref xf])), (xn, .inl (cI, 12, .inl (nr)))]) _ := hR.sub [0, 1, 2] rfl
  have hFc := frZ hS hA
  refine va_calli (va_runV (As := [.int (nI kz), .int 1]) (rest := []) ⟨hx, hb, hml, hown, hts⟩ (c_p_X5_ofClaim l dC dI cI cF tr (s.heap).size o ce lu cl se tu ja re g cn wd xn xf nr (nI kz) 1 (winW hkn (by omega)) (winK (k := 1) (b := 3) (by decide) (by decide)) hcn) (cwV 2 hts gL_hangs_X5_ofClaim rfl rfl rfl (by decide +kernel) ⟨Nat.le_of_ble_eq_true rfl, Nat.le_of_ble_eq_true rfl⟩) ⟨cBl, (va_recv hK hPc (ci := iX5) (q0 := 0) rfl rfl), (cPre hPc hK hN)⟩ rfl rfl hl.1 rfl (lv_room (Nat.le_of_ble_eq_true rfl)) dL_hangs_3 ⟨(Nat.le_of_ble_eq_true rfl), (Nat.le_of_ble_eq_true rfl)⟩) hS (fun q _ h => hFc q h) hFc (fun r_1 u t H1 locs ht hvm hw_r_1 hB hz1 hk1 hS => ?_)
  refine W.widen (k := 0) (n := 0) (Nat.le_refl _) (Nat.le_refl _) ?_
  have hP := keepP hP hk1
  have hR := keepP hR hk1
  generalize H1 = H at hP hR hS ⊢
  have hP : va_P (dC, dI) vwCl ([]) H := hP
  try dsimp only at hw_r_1
  subst hw_r_1
  refine lv_iconst (v := 1) hx hb dL_hangs_6 (by decide) ?_
  refine lv_icmp_ne (tgt := 12) hx hb dL_hangs_7 (by decide) (fun c_2 => ?_) (fun c_2 => ?_)
  · refine lv_iconst (v := 0) hx hb dL_hangs_12 (by decide) ?_
    refine lv_istore_n (lv' := [(2, .int 0), (0, .ref o), (1, .int (nI kz))]) hx hb dL_hangs_13 rfl hl (by decide) rfl (fun ls hl => ?_)
    have K14 : ∀ (NN : Nat), ∀ (jz : Nat), (kz - jz) < NN → (jz ≤ kz) → (hgL (ocF cn wd nr (nI kz) 0) (hgF cn wd nr 8) jz = 0) → ∀ (H : Heap) (locs : List Loc) (ls : Array Slot), va_P (dC, dI) vwCl ([]) H → va_S A s.heap H locs → lv_has ls 3 [(0, .ref o), (1, .int (nI kz)), (2, .int (nI jz))] → W p l e (headSpec wsL_hangs ({ frames := 13, cells := 0, slots := 0, locals := 283 } : Room)).room s m #[Value.ref o, Value.int (nI kz)] below meth c H locs (0) (0) (MQ below (va_Qi (fun (r : Int32) (_ : Unit) => r = hgF cn wd nr 9 kz) (fun _ _ => True) A) #[Value.ref o, Value.int (nI kz)] s 0 0 A) (F0 m 14 ls []) := by
      intro NN
      induction NN with
      | zero =>
        intro jz hmu hj hin H locs ls hP hS hl
        exact absurd hmu (Nat.not_lt_zero _)
      | succ NN ih14 =>
        intro jz hmu hj hin H locs ls hP hS hl
        have hR := keepR hR0 hS hAn
        refine lv_iload_n hx hb dL_hangs_14 rfl (lv_at hl 2 rfl) ?_
        refine lv_iload_n hx hb dL_hangs_15 rfl (lv_at hl 1 rfl) ?_
        refine lv_icmp_ge (tgt := 49) hx hb dL_hangs_16 (by decide) (fun c_3 => ?_) (fun c_3 => ?_)
        · have hke : kz ≤ jz := leK (by omega) (by omega) c_3
          obtain rfl : jz = kz := by omega
          refine lv_iconst (v := 0) hx hb dL_hangs_49 (by decide) ?_
          refine W.widen (k := 0) (n := 0) (by omega) (by omega) ?_
          exact W.zret (v := 0) hx hb hr (by first | rfl | simp [narrow] | assumption) (fun t ht hW => ⟨⟨0, (), rfl, (by rw [hgF, if_neg c_2, hin]), trivial⟩, hS.F ht⟩) hS.2.2 dL_hangs_50
        · have hjl : jz < kz := ltK (by omega) (by omega) c_3
          refine lv_aload_n hx hb dL_hangs_19 rfl (lv_at hl 0 rfl) ?_
          refine lv_iload_n hx hb dL_hangs_20 rfl (lv_at hl 1 rfl) ?_
          refine lv_iconst (v := 0) hx hb dL_hangs_21 (by decide) ?_
          have hPc : va_P (dC, dI) vwCl ([(o, .inr (iX5, [.ref g, .ref ce, .ref lu, .ref cl, .ref se, .int tu, .int ja, .int re])), (cl, .inr (iX0, [.int (nI cn), .int wd, .ref xn, .ref xf])), (xn, .inl (cI, 12, .inl (nr)))]) _ := hR.sub [0, 1, 2] rfl
          have hFc := frZ hS hA
          refine va_calli (va_runV (As := [.int (nI kz), .int 0]) (rest := []) ⟨hx, hb, hml, hown, hts⟩ (c_p_X5_ofClaim l dC dI cI cF tr (H).size o ce lu cl se tu ja re g cn wd xn xf nr (nI kz) 0 (winW hkn (by omega)) (winK (k := 0) (b := 3) (by decide) (by decide)) hcn) (cwV 2 hts gL_hangs_X5_ofClaim rfl rfl rfl (by decide +kernel) ⟨Nat.le_of_ble_eq_true rfl, Nat.le_of_ble_eq_true rfl⟩) ⟨cBl, (va_recv hK hPc (ci := iX5) (q0 := 0) rfl rfl), (cPre hPc hK hN)⟩ rfl rfl hl.1 rfl (lv_room (Nat.le_of_ble_eq_true rfl)) dL_hangs_22 ⟨(Nat.le_of_ble_eq_true rfl), (Nat.le_of_ble_eq_true rfl)⟩) hS (fun q _ h => hFc q h) hFc (fun r_4 u t H1 locs ht hvm hw_r_4 hB hz1 hk1 hS => ?_)
          refine W.widen (k := 0) (n := 0) (Nat.le_refl _) (Nat.le_refl _) ?_
          have hP := keepP hP hk1
          have hR := keepP hR hk1
          generalize H1 = H at hP hR hS ⊢
          have hP : va_P (dC, dI) vwCl ([]) H := hP
          try dsimp only at hw_r_4
          subst hw_r_4
          refine lv_iload_n hx hb dL_hangs_25 rfl (lv_at hl 2 rfl) ?_
          refine lv_ishr hx hb dL_hangs_26 ?_
          refine lv_iconst (v := 1) hx hb dL_hangs_27 (by decide) ?_
          refine lv_iand hx hb dL_hangs_28 ?_
          refine lv_iconst (v := 1) hx hb dL_hangs_29 (by decide) ?_
          refine lv_icmp_ne (tgt := 43) hx hb dL_hangs_30 (by decide) (fun c_5 => ?_) (fun c_5 => ?_)
          · refine lv_iinc (v := nI (jz + 1)) (lv' := [(2, .int (nI (jz + 1))), (0, .ref o), (1, .int (nI kz))]) hx hb dL_hangs_43 hl (k := 2) rfl (nI_1 jz) (by decide) rfl (fun ls hl => ?_)
            refine lv_goto (tgt := 14) hx hb dL_hangs_46 (by decide) ?_
            refine W.widen (k := 0) (n := 0) (by omega) (by omega) ?_
            exact ih14 (jz + 1) (by omega) hjl (by rw [hgL, hin, if_neg (by decide)]; first | rw [if_neg c_5] | rw [if_pos c_3, if_pos c_5]) _ _ ls hP hS (lv_sub hl [1, 2, 0] rfl)
          · refine lv_aload_n hx hb dL_hangs_33 rfl (lv_at hl 0 rfl) ?_
            refine lv_iload_n hx hb dL_hangs_34 rfl (lv_at hl 2 rfl) ?_
            have hPc : va_P (dC, dI) vwCl ([(o, .inr (iX5, [.ref g, .ref ce, .ref lu, .ref cl, .ref se, .int tu, .int ja, .int re])), (cl, .inr (iX0, [.int (nI cn), .int wd, .ref xn, .ref xf])), (xn, .inl (cI, 12, .inl (nr)))]) _ := hR.sub [0, 1, 2] rfl
            have hFc := frZ hS hA
            refine va_calli (va_runS (As := [.ref o, .int (nI jz)]) (rest := []) ⟨hx, hb, hml, hown, hts⟩ (c_L_hangs_8 l dC dI cI cF tr (H).size o ce lu cl se tu ja re g cn wd xn xf nr jz hcn (Nat.lt_trans hjl hkn) (by omega)) (va_cwS 2 hts gL_hangs_L_hangs rfl rfl rfl (by decide +kernel) ⟨Nat.le_of_ble_eq_true rfl, Nat.le_of_ble_eq_true rfl⟩) ⟨cBl, (cPre hPc hK hN)⟩ rfl rfl hl.1 rfl (lv_room (Nat.le_of_ble_eq_true rfl)) dL_hangs_35 ⟨(Nat.le_of_ble_eq_true rfl), (Nat.le_of_ble_eq_true rfl)⟩) hS (fun q _ h => hFc q h) hFc (fun r_6 u t H1 locs ht hvm hw_r_6 hB hz1 hk1 hS => ?_)
            refine W.widen (k := 0) (n := 0) (Nat.le_refl _) (Nat.le_refl _) ?_
            have hP := keepP hP hk1
            have hR := keepP hR hk1
            generalize H1 = H at hP hR hS ⊢
            have hP : va_P (dC, dI) vwCl ([]) H := hP
            try dsimp only at hw_r_6
            subst hw_r_6
            refine lv_if_eq (tgt := 43) hx hb dL_hangs_38 (by decide) (fun c_7 => ?_) (fun c_7 => ?_)
            · refine lv_iinc (v := nI (jz + 1)) (lv' := [(2, .int (nI (jz + 1))), (0, .ref o), (1, .int (nI kz))]) hx hb dL_hangs_43 hl (k := 2) rfl (nI_1 jz) (by decide) rfl (fun ls hl => ?_)
              refine lv_goto (tgt := 14) hx hb dL_hangs_46 (by decide) ?_
              refine W.widen (k := 0) (n := 0) (by omega) (by omega) ?_
              exact ih14 (jz + 1) (by omega) hjl (by rw [hgL, hin, if_neg (by decide)]; first | rw [if_neg c_7] | rw [if_pos c_5, if_pos c_7]) _ _ ls hP hS (lv_sub hl [1, 2, 0] rfl)
            · refine lv_iconst (v := 1) hx hb dL_hangs_41 (by decide) ?_
              refine W.widen (k := 0) (n := 0) (by omega) (by omega) ?_
              exact W.zret (v := 1) hx hb hr (by first | rfl | simp [narrow] | assumption) (fun t ht hW => ⟨⟨1, (), rfl, (by rw [hgF, if_neg c_2]; exact (hgL_up (j := jz + 1) (by rw [hgL, hin, if_neg (by decide), if_pos c_5, if_neg c_7]) kz hjl).symm), trivial⟩, hS.F ht⟩) hS.2.2 dL_hangs_42
    refine W.widen (k := 0) (n := 0) (by omega) (by omega) ?_
    exact K14 (kz - 0 + 1) 0 (by omega) (Nat.zero_le _) rfl _ _ ls hP hS (lv_sub hl [1, 2, 0] rfl)
  · refine lv_iconst (v := 1) hx hb dL_hangs_10 (by decide) ?_
    refine W.widen (k := 0) (n := 0) (by omega) (by omega) ?_
    exact W.zret (v := 1) hx hb hr (by first | rfl | simp [narrow] | assumption) (fun t ht hW => ⟨⟨1, (), rfl, (by rw [hgF, if_pos c_2]), trivial⟩, hS.F ht⟩) hS.2.2 dL_hangs_11

set_option maxHeartbeats 4000000 in
set_option maxRecDepth 100000 in
theorem c_L_hangs_10 (l : Launch) (dC : Nat → ClassId) (dI : Nat → Nat → Nat) (cI cF : ClassId) (tr : List (ClassId × FieldType)) (sz : Nat) (o : Nat) (ce : Nat) (lu : Nat) (cl : Nat) (se : Nat) (tu : Int32) (ja : Int32) (re : Int32) (g : Nat) (cn : Nat) (wd : Int32) (xn : Nat) (xf : Nat) (nr : Nat → Int32) (kz : Nat) (hcn : cn ≤ 12) (hkn : kz < cn) (hkd : kz < 10) : Met l yL_hangs wsL_hangs ({ frames := 14, cells := 0, slots := 0, locals := 305 } : Room) (cPc dC dI ((cI, .int) :: (cF, .object RX1) :: tr) sz ([(o, .inr (iX5, [.ref g, .ref ce, .ref lu, .ref cl, .ref se, .int tu, .int ja, .int re])), (cl, .inr (iX0, [.int (nI cn), .int wd, .ref xn, .ref xf])), (xn, .inl (cI, 12, .inl (nr)))]) [.ref o, .int (nI kz)]) (va_Qi (fun (r : Int32) (_ : Unit) => r = hgF cn wd nr 10 kz) (fun _ _ => True) (va_A ([]) sz)) 0 0 (va_A ([]) sz) := by
  refine Met.ofW (cc := cL_hangs) (maxL := 3) (ret := (some .boolean)) (by decide) rfl ?_
  intro p e s m args below meth c s₁ B hml hv
  obtain ⟨rfl, hsz, hP, hK, hN⟩ := hv
  have hx := B.exec
  have hb := B.bytes
  have hr := B.returns
  have hts := atoms_spec (ws := wsL_hangs) B.pre
  have hown : s.vm.findClass RL = some m.cls := findClass_of_methodNamed B.named
  have hlocks := B.notSynchronized
  subst hsz
  generalize hAe : va_A [] s.heap.size = A
  have hA : ∀ q : Nat, s.heap.size ≤ q → A q := fun q h => by rw [← hAe]; exact Or.inr h
  have hS : va_S A s.heap s.heap [] := va_S.rf
  have hAn : ∀ q : Nat, q < s.heap.size → ¬ A q := fun q h => by rw [← hAe]; exact notZ h
  have hAg : ∀ q : Nat, A q → s.heap.size ≤ q := fun q h => geZ (hAe ▸ h)
  have hR0 : va_P (dC, dI) vwCl ([(o, .inr (iX5, [.ref g, .ref ce, .ref lu, .ref cl, .ref se, .int tu, .int ja, .int re])), (cl, .inr (iX0, [.int (nI cn), .int wd, .ref xn, .ref xf])), (xn, .inl (cI, 12, .inl (nr)))]) s.heap := hP
  have hR : va_P (dC, dI) vwCl ([(o, .inr (iX5, [.ref g, .ref ce, .ref lu, .ref cl, .ref se, .int tu, .int ja, .int re])), (cl, .inr (iX0, [.int (nI cn), .int wd, .ref xn, .ref xf])), (xn, .inl (cI, 12, .inl (nr)))]) s.heap := hP
  have hP : va_P (dC, dI) vwCl [] s.heap := fun k q h => by simp at h
  have hD : va_D A [] := ⟨fun i j p q h => by simp at h, fun k q h => by simp at h⟩
  have hl := lv_entry ([.ref o, .int (nI kz)]) (n := 3) (Nat.le_of_ble_eq_true rfl)
  rw [lg_entry_eq]
  generalize (lg_sl ([.ref o, .int (nI kz)]) ++ List.replicate (3 - (lg_sl ([.ref o, .int (nI kz)])).length) Slot.unset).toArray = ls at hl ⊢
  have hl : lv_has ls 3 [(0, .ref o), (1, .int (nI kz))] := hl
  refine lv_aload_n hx hb dL_hangs_0 rfl (lv_at hl 0 rfl) ?_
  refine lv_iload_n hx hb dL_hangs_1 rfl (lv_at hl 1 rfl) ?_
  refine lv_iconst (v := 1) hx hb dL_hangs_2 (by decide) ?_
  have hPc : va_P (dC, dI) vwCl ([(o, .inr (iX5, [.ref g, .ref ce, .ref lu, .ref cl, .ref se, .int tu, .int ja, .int re])), (cl, .inr (iX0, [.int (nI cn), .int wd, .ref xn, .ref xf])), (xn, .inl (cI, 12, .inl (nr)))]) _ := hR.sub [0, 1, 2] rfl
  have hFc := frZ hS hA
  refine va_calli (va_runV (As := [.int (nI kz), .int 1]) (rest := []) ⟨hx, hb, hml, hown, hts⟩ (c_p_X5_ofClaim l dC dI cI cF tr (s.heap).size o ce lu cl se tu ja re g cn wd xn xf nr (nI kz) 1 (winW hkn (by omega)) (winK (k := 1) (b := 3) (by decide) (by decide)) hcn) (cwV 2 hts gL_hangs_X5_ofClaim rfl rfl rfl (by decide +kernel) ⟨Nat.le_of_ble_eq_true rfl, Nat.le_of_ble_eq_true rfl⟩) ⟨cBl, (va_recv hK hPc (ci := iX5) (q0 := 0) rfl rfl), (cPre hPc hK hN)⟩ rfl rfl hl.1 rfl (lv_room (Nat.le_of_ble_eq_true rfl)) dL_hangs_3 ⟨(Nat.le_of_ble_eq_true rfl), (Nat.le_of_ble_eq_true rfl)⟩) hS (fun q _ h => hFc q h) hFc (fun r_1 u t H1 locs ht hvm hw_r_1 hB hz1 hk1 hS => ?_)
  refine W.widen (k := 0) (n := 0) (Nat.le_refl _) (Nat.le_refl _) ?_
  have hP := keepP hP hk1
  have hR := keepP hR hk1
  generalize H1 = H at hP hR hS ⊢
  have hP : va_P (dC, dI) vwCl ([]) H := hP
  try dsimp only at hw_r_1
  subst hw_r_1
  refine lv_iconst (v := 1) hx hb dL_hangs_6 (by decide) ?_
  refine lv_icmp_ne (tgt := 12) hx hb dL_hangs_7 (by decide) (fun c_2 => ?_) (fun c_2 => ?_)
  · refine lv_iconst (v := 0) hx hb dL_hangs_12 (by decide) ?_
    refine lv_istore_n (lv' := [(2, .int 0), (0, .ref o), (1, .int (nI kz))]) hx hb dL_hangs_13 rfl hl (by decide) rfl (fun ls hl => ?_)
    have K14 : ∀ (NN : Nat), ∀ (jz : Nat), (kz - jz) < NN → (jz ≤ kz) → (hgL (ocF cn wd nr (nI kz) 0) (hgF cn wd nr 9) jz = 0) → ∀ (H : Heap) (locs : List Loc) (ls : Array Slot), va_P (dC, dI) vwCl ([]) H → va_S A s.heap H locs → lv_has ls 3 [(0, .ref o), (1, .int (nI kz)), (2, .int (nI jz))] → W p l e (headSpec wsL_hangs ({ frames := 14, cells := 0, slots := 0, locals := 305 } : Room)).room s m #[Value.ref o, Value.int (nI kz)] below meth c H locs (0) (0) (MQ below (va_Qi (fun (r : Int32) (_ : Unit) => r = hgF cn wd nr 10 kz) (fun _ _ => True) A) #[Value.ref o, Value.int (nI kz)] s 0 0 A) (F0 m 14 ls []) := by
      intro NN
      induction NN with
      | zero =>
        intro jz hmu hj hin H locs ls hP hS hl
        exact absurd hmu (Nat.not_lt_zero _)
      | succ NN ih14 =>
        intro jz hmu hj hin H locs ls hP hS hl
        have hR := keepR hR0 hS hAn
        refine lv_iload_n hx hb dL_hangs_14 rfl (lv_at hl 2 rfl) ?_
        refine lv_iload_n hx hb dL_hangs_15 rfl (lv_at hl 1 rfl) ?_
        refine lv_icmp_ge (tgt := 49) hx hb dL_hangs_16 (by decide) (fun c_3 => ?_) (fun c_3 => ?_)
        · have hke : kz ≤ jz := leK (by omega) (by omega) c_3
          obtain rfl : jz = kz := by omega
          refine lv_iconst (v := 0) hx hb dL_hangs_49 (by decide) ?_
          refine W.widen (k := 0) (n := 0) (by omega) (by omega) ?_
          exact W.zret (v := 0) hx hb hr (by first | rfl | simp [narrow] | assumption) (fun t ht hW => ⟨⟨0, (), rfl, (by rw [hgF, if_neg c_2, hin]), trivial⟩, hS.F ht⟩) hS.2.2 dL_hangs_50
        · have hjl : jz < kz := ltK (by omega) (by omega) c_3
          refine lv_aload_n hx hb dL_hangs_19 rfl (lv_at hl 0 rfl) ?_
          refine lv_iload_n hx hb dL_hangs_20 rfl (lv_at hl 1 rfl) ?_
          refine lv_iconst (v := 0) hx hb dL_hangs_21 (by decide) ?_
          have hPc : va_P (dC, dI) vwCl ([(o, .inr (iX5, [.ref g, .ref ce, .ref lu, .ref cl, .ref se, .int tu, .int ja, .int re])), (cl, .inr (iX0, [.int (nI cn), .int wd, .ref xn, .ref xf])), (xn, .inl (cI, 12, .inl (nr)))]) _ := hR.sub [0, 1, 2] rfl
          have hFc := frZ hS hA
          refine va_calli (va_runV (As := [.int (nI kz), .int 0]) (rest := []) ⟨hx, hb, hml, hown, hts⟩ (c_p_X5_ofClaim l dC dI cI cF tr (H).size o ce lu cl se tu ja re g cn wd xn xf nr (nI kz) 0 (winW hkn (by omega)) (winK (k := 0) (b := 3) (by decide) (by decide)) hcn) (cwV 2 hts gL_hangs_X5_ofClaim rfl rfl rfl (by decide +kernel) ⟨Nat.le_of_ble_eq_true rfl, Nat.le_of_ble_eq_true rfl⟩) ⟨cBl, (va_recv hK hPc (ci := iX5) (q0 := 0) rfl rfl), (cPre hPc hK hN)⟩ rfl rfl hl.1 rfl (lv_room (Nat.le_of_ble_eq_true rfl)) dL_hangs_22 ⟨(Nat.le_of_ble_eq_true rfl), (Nat.le_of_ble_eq_true rfl)⟩) hS (fun q _ h => hFc q h) hFc (fun r_4 u t H1 locs ht hvm hw_r_4 hB hz1 hk1 hS => ?_)
          refine W.widen (k := 0) (n := 0) (Nat.le_refl _) (Nat.le_refl _) ?_
          have hP := keepP hP hk1
          have hR := keepP hR hk1
          generalize H1 = H at hP hR hS ⊢
          have hP : va_P (dC, dI) vwCl ([]) H := hP
          try dsimp only at hw_r_4
          subst hw_r_4
          refine lv_iload_n hx hb dL_hangs_25 rfl (lv_at hl 2 rfl) ?_
          refine lv_ishr hx hb dL_hangs_26 ?_
          refine lv_iconst (v := 1) hx hb dL_hangs_27 (by decide) ?_
          refine lv_iand hx hb dL_hangs_28 ?_
          refine lv_iconst (v := 1) hx hb dL_hangs_29 (by decide) ?_
          refine lv_icmp_ne (tgt := 43) hx hb dL_hangs_30 (by decide) (fun c_5 => ?_) (fun c_5 => ?_)
          · refine lv_iinc (v := nI (jz + 1)) (lv' := [(2, .int (nI (jz + 1))), (0, .ref o), (1, .int (nI kz))]) hx hb dL_hangs_43 hl (k := 2) rfl (nI_1 jz) (by decide) rfl (fun ls hl => ?_)
            refine lv_goto (tgt := 14) hx hb dL_hangs_46 (by decide) ?_
            refine W.widen (k := 0) (n := 0) (by omega) (by omega) ?_
            exact ih14 (jz + 1) (by omega) hjl (by rw [hgL, hin, if_neg (by decide)]; first | rw [if_neg c_5] | rw [if_pos c_3, if_pos c_5]) _ _ ls hP hS (lv_sub hl [1, 2, 0] rfl)
          · refine lv_aload_n hx hb dL_hangs_33 rfl (lv_at hl 0 rfl) ?_
            refine lv_iload_n hx hb dL_hangs_34 rfl (lv_at hl 2 rfl) ?_
            have hPc : va_P (dC, dI) vwCl ([(o, .inr (iX5, [.ref g, .ref ce, .ref lu, .ref cl, .ref se, .int tu, .int ja, .int re])), (cl, .inr (iX0, [.int (nI cn), .int wd, .ref xn, .ref xf])), (xn, .inl (cI, 12, .inl (nr)))]) _ := hR.sub [0, 1, 2] rfl
            have hFc := frZ hS hA
            refine va_calli (va_runS (As := [.ref o, .int (nI jz)]) (rest := []) ⟨hx, hb, hml, hown, hts⟩ (c_L_hangs_9 l dC dI cI cF tr (H).size o ce lu cl se tu ja re g cn wd xn xf nr jz hcn (Nat.lt_trans hjl hkn) (by omega)) (va_cwS 2 hts gL_hangs_L_hangs rfl rfl rfl (by decide +kernel) ⟨Nat.le_of_ble_eq_true rfl, Nat.le_of_ble_eq_true rfl⟩) ⟨cBl, (cPre hPc hK hN)⟩ rfl rfl hl.1 rfl (lv_room (Nat.le_of_ble_eq_true rfl)) dL_hangs_35 ⟨(Nat.le_of_ble_eq_true rfl), (Nat.le_of_ble_eq_true rfl)⟩) hS (fun q _ h => hFc q h) hFc (fun r_6 u t H1 locs ht hvm hw_r_6 hB hz1 hk1 hS => ?_)
            refine W.widen (k := 0) (n := 0) (Nat.le_refl _) (Nat.le_refl _) ?_
            have hP := keepP hP hk1
            have hR := keepP hR hk1
            generalize H1 = H at hP hR hS ⊢
            have hP : va_P (dC, dI) vwCl ([]) H := hP
            try dsimp only at hw_r_6
            subst hw_r_6
            refine lv_if_eq (tgt := 43) hx hb dL_hangs_38 (by decide) (fun c_7 => ?_) (fun c_7 => ?_)
            · refine lv_iinc (v := nI (jz + 1)) (lv' := [(2, .int (nI (jz + 1))), (0, .ref o), (1, .int (nI kz))]) hx hb dL_hangs_43 hl (k := 2) rfl (nI_1 jz) (by decide) rfl (fun ls hl => ?_)
              refine lv_goto (tgt := 14) hx hb dL_hangs_46 (by decide) ?_
              refine W.widen (k := 0) (n := 0) (by omega) (by omega) ?_
              exact ih14 (jz + 1) (by omega) hjl (by rw [hgL, hin, if_neg (by decide)]; first | rw [if_neg c_7] | rw [if_pos c_5, if_pos c_7]) _ _ ls hP hS (lv_sub hl [1, 2, 0] rfl)
            · refine lv_iconst (v := 1) hx hb dL_hangs_41 (by decide) ?_
              refine W.widen (k := 0) (n := 0) (by omega) (by omega) ?_
              exact W.zret (v := 1) hx hb hr (by first | rfl | simp [narrow] | assumption) (fun t ht hW => ⟨⟨1, (), rfl, (by rw [hgF, if_neg c_2]; exact (hgL_up (j := jz + 1) (by rw [hgL, hin, if_neg (by decide), if_pos c_5, if_neg c_7]) kz hjl).symm), trivial⟩, hS.F ht⟩) hS.2.2 dL_hangs_42
    refine W.widen (k := 0) (n := 0) (by omega) (by omega) ?_
    exact K14 (kz - 0 + 1) 0 (by omega) (Nat.zero_le _) rfl _ _ ls hP hS (lv_sub hl [1, 2, 0] rfl)
  · refine lv_iconst (v := 1) hx hb dL_hangs_10 (by decide) ?_
    refine W.widen (k := 0) (n := 0) (by omega) (by omega) ?_
    exact W.zret (v := 1) hx hb hr (by first | rfl | simp [narrow] | assumption) (fun t ht hW => ⟨⟨1, (), rfl, (by rw [hgF, if_pos c_2]), trivial⟩, hS.F ht⟩) hS.2.2 dL_hangs_11

set_option maxHeartbeats 4000000 in
set_option maxRecDepth 100000 in
theorem c_L_hangs_11 (l : Launch) (dC : Nat → ClassId) (dI : Nat → Nat → Nat) (cI cF : ClassId) (tr : List (ClassId × FieldType)) (sz : Nat) (o : Nat) (ce : Nat) (lu : Nat) (cl : Nat) (se : Nat) (tu : Int32) (ja : Int32) (re : Int32) (g : Nat) (cn : Nat) (wd : Int32) (xn : Nat) (xf : Nat) (nr : Nat → Int32) (kz : Nat) (hcn : cn ≤ 12) (hkn : kz < cn) (hkd : kz < 11) : Met l yL_hangs wsL_hangs ({ frames := 15, cells := 0, slots := 0, locals := 327 } : Room) (cPc dC dI ((cI, .int) :: (cF, .object RX1) :: tr) sz ([(o, .inr (iX5, [.ref g, .ref ce, .ref lu, .ref cl, .ref se, .int tu, .int ja, .int re])), (cl, .inr (iX0, [.int (nI cn), .int wd, .ref xn, .ref xf])), (xn, .inl (cI, 12, .inl (nr)))]) [.ref o, .int (nI kz)]) (va_Qi (fun (r : Int32) (_ : Unit) => r = hgF cn wd nr 11 kz) (fun _ _ => True) (va_A ([]) sz)) 0 0 (va_A ([]) sz) := by
  refine Met.ofW (cc := cL_hangs) (maxL := 3) (ret := (some .boolean)) (by decide) rfl ?_
  intro p e s m args below meth c s₁ B hml hv
  obtain ⟨rfl, hsz, hP, hK, hN⟩ := hv
  have hx := B.exec
  have hb := B.bytes
  have hr := B.returns
  have hts := atoms_spec (ws := wsL_hangs) B.pre
  have hown : s.vm.findClass RL = some m.cls := findClass_of_methodNamed B.named
  have hlocks := B.notSynchronized
  subst hsz
  generalize hAe : va_A [] s.heap.size = A
  have hA : ∀ q : Nat, s.heap.size ≤ q → A q := fun q h => by rw [← hAe]; exact Or.inr h
  have hS : va_S A s.heap s.heap [] := va_S.rf
  have hAn : ∀ q : Nat, q < s.heap.size → ¬ A q := fun q h => by rw [← hAe]; exact notZ h
  have hAg : ∀ q : Nat, A q → s.heap.size ≤ q := fun q h => geZ (hAe ▸ h)
  have hR0 : va_P (dC, dI) vwCl ([(o, .inr (iX5, [.ref g, .ref ce, .ref lu, .ref cl, .ref se, .int tu, .int ja, .int re])), (cl, .inr (iX0, [.int (nI cn), .int wd, .ref xn, .ref xf])), (xn, .inl (cI, 12, .inl (nr)))]) s.heap := hP
  have hR : va_P (dC, dI) vwCl ([(o, .inr (iX5, [.ref g, .ref ce, .ref lu, .ref cl, .ref se, .int tu, .int ja, .int re])), (cl, .inr (iX0, [.int (nI cn), .int wd, .ref xn, .ref xf])), (xn, .inl (cI, 12, .inl (nr)))]) s.heap := hP
  have hP : va_P (dC, dI) vwCl [] s.heap := fun k q h => by simp at h
  have hD : va_D A [] := ⟨fun i j p q h => by simp at h, fun k q h => by simp at h⟩
  have hl := lv_entry ([.ref o, .int (nI kz)]) (n := 3) (Nat.le_of_ble_eq_true rfl)
  rw [lg_entry_eq]
  generalize (lg_sl ([.ref o, .int (nI kz)]) ++ List.replicate (3 - (lg_sl ([.ref o, .int (nI kz)])).length) Slot.unset).toArray = ls at hl ⊢
  have hl : lv_has ls 3 [(0, .ref o), (1, .int (nI kz))] := hl
  refine lv_aload_n hx hb dL_hangs_0 rfl (lv_at hl 0 rfl) ?_
  refine lv_iload_n hx hb dL_hangs_1 rfl (lv_at hl 1 rfl) ?_
  refine lv_iconst (v := 1) hx hb dL_hangs_2 (by decide) ?_
  have hPc : va_P (dC, dI) vwCl ([(o, .inr (iX5, [.ref g, .ref ce, .ref lu, .ref cl, .ref se, .int tu, .int ja, .int re])), (cl, .inr (iX0, [.int (nI cn), .int wd, .ref xn, .ref xf])), (xn, .inl (cI, 12, .inl (nr)))]) _ := hR.sub [0, 1, 2] rfl
  have hFc := frZ hS hA
  refine va_calli (va_runV (As := [.int (nI kz), .int 1]) (rest := []) ⟨hx, hb, hml, hown, hts⟩ (c_p_X5_ofClaim l dC dI cI cF tr (s.heap).size o ce lu cl se tu ja re g cn wd xn xf nr (nI kz) 1 (winW hkn (by omega)) (winK (k := 1) (b := 3) (by decide) (by decide)) hcn) (cwV 2 hts gL_hangs_X5_ofClaim rfl rfl rfl (by decide +kernel) ⟨Nat.le_of_ble_eq_true rfl, Nat.le_of_ble_eq_true rfl⟩) ⟨cBl, (va_recv hK hPc (ci := iX5) (q0 := 0) rfl rfl), (cPre hPc hK hN)⟩ rfl rfl hl.1 rfl (lv_room (Nat.le_of_ble_eq_true rfl)) dL_hangs_3 ⟨(Nat.le_of_ble_eq_true rfl), (Nat.le_of_ble_eq_true rfl)⟩) hS (fun q _ h => hFc q h) hFc (fun r_1 u t H1 locs ht hvm hw_r_1 hB hz1 hk1 hS => ?_)
  refine W.widen (k := 0) (n := 0) (Nat.le_refl _) (Nat.le_refl _) ?_
  have hP := keepP hP hk1
  have hR := keepP hR hk1
  generalize H1 = H at hP hR hS ⊢
  have hP : va_P (dC, dI) vwCl ([]) H := hP
  try dsimp only at hw_r_1
  subst hw_r_1
  refine lv_iconst (v := 1) hx hb dL_hangs_6 (by decide) ?_
  refine lv_icmp_ne (tgt := 12) hx hb dL_hangs_7 (by decide) (fun c_2 => ?_) (fun c_2 => ?_)
  · refine lv_iconst (v := 0) hx hb dL_hangs_12 (by decide) ?_
    refine lv_istore_n (lv' := [(2, .int 0), (0, .ref o), (1, .int (nI kz))]) hx hb dL_hangs_13 rfl hl (by decide) rfl (fun ls hl => ?_)
    have K14 : ∀ (NN : Nat), ∀ (jz : Nat), (kz - jz) < NN → (jz ≤ kz) → (hgL (ocF cn wd nr (nI kz) 0) (hgF cn wd nr 10) jz = 0) → ∀ (H : Heap) (locs : List Loc) (ls : Array Slot), va_P (dC, dI) vwCl ([]) H → va_S A s.heap H locs → lv_has ls 3 [(0, .ref o), (1, .int (nI kz)), (2, .int (nI jz))] → W p l e (headSpec wsL_hangs ({ frames := 15, cells := 0, slots := 0, locals := 327 } : Room)).room s m #[Value.ref o, Value.int (nI kz)] below meth c H locs (0) (0) (MQ below (va_Qi (fun (r : Int32) (_ : Unit) => r = hgF cn wd nr 11 kz) (fun _ _ => True) A) #[Value.ref o, Value.int (nI kz)] s 0 0 A) (F0 m 14 ls []) := by
      intro NN
      induction NN with
      | zero =>
        intro jz hmu hj hin H locs ls hP hS hl
        exact absurd hmu (Nat.not_lt_zero _)
      | succ NN ih14 =>
        intro jz hmu hj hin H locs ls hP hS hl
        have hR := keepR hR0 hS hAn
        refine lv_iload_n hx hb dL_hangs_14 rfl (lv_at hl 2 rfl) ?_
        refine lv_iload_n hx hb dL_hangs_15 rfl (lv_at hl 1 rfl) ?_
        refine lv_icmp_ge (tgt := 49) hx hb dL_hangs_16 (by decide) (fun c_3 => ?_) (fun c_3 => ?_)
        · have hke : kz ≤ jz := leK (by omega) (by omega) c_3
          obtain rfl : jz = kz := by omega
          refine lv_iconst (v := 0) hx hb dL_hangs_49 (by decide) ?_
          refine W.widen (k := 0) (n := 0) (by omega) (by omega) ?_
          exact W.zret (v := 0) hx hb hr (by first | rfl | simp [narrow] | assumption) (fun t ht hW => ⟨⟨0, (), rfl, (by rw [hgF, if_neg c_2, hin]), trivial⟩, hS.F ht⟩) hS.2.2 dL_hangs_50
        · have hjl : jz < kz := ltK (by omega) (by omega) c_3
          refine lv_aload_n hx hb dL_hangs_19 rfl (lv_at hl 0 rfl) ?_
          refine lv_iload_n hx hb dL_hangs_20 rfl (lv_at hl 1 rfl) ?_
          refine lv_iconst (v := 0) hx hb dL_hangs_21 (by decide) ?_
          have hPc : va_P (dC, dI) vwCl ([(o, .inr (iX5, [.ref g, .ref ce, .ref lu, .ref cl, .ref se, .int tu, .int ja, .int re])), (cl, .inr (iX0, [.int (nI cn), .int wd, .ref xn, .ref xf])), (xn, .inl (cI, 12, .inl (nr)))]) _ := hR.sub [0, 1, 2] rfl
          have hFc := frZ hS hA
          refine va_calli (va_runV (As := [.int (nI kz), .int 0]) (rest := []) ⟨hx, hb, hml, hown, hts⟩ (c_p_X5_ofClaim l dC dI cI cF tr (H).size o ce lu cl se tu ja re g cn wd xn xf nr (nI kz) 0 (winW hkn (by omega)) (winK (k := 0) (b := 3) (by decide) (by decide)) hcn) (cwV 2 hts gL_hangs_X5_ofClaim rfl rfl rfl (by decide +kernel) ⟨Nat.le_of_ble_eq_true rfl, Nat.le_of_ble_eq_true rfl⟩) ⟨cBl, (va_recv hK hPc (ci := iX5) (q0 := 0) rfl rfl), (cPre hPc hK hN)⟩ rfl rfl hl.1 rfl (lv_room (Nat.le_of_ble_eq_true rfl)) dL_hangs_22 ⟨(Nat.le_of_ble_eq_true rfl), (Nat.le_of_ble_eq_true rfl)⟩) hS (fun q _ h => hFc q h) hFc (fun r_4 u t H1 locs ht hvm hw_r_4 hB hz1 hk1 hS => ?_)
          refine W.widen (k := 0) (n := 0) (Nat.le_refl _) (Nat.le_refl _) ?_
          have hP := keepP hP hk1
          have hR := keepP hR hk1
          generalize H1 = H at hP hR hS ⊢
          have hP : va_P (dC, dI) vwCl ([]) H := hP
          try dsimp only at hw_r_4
          subst hw_r_4
          refine lv_iload_n hx hb dL_hangs_25 rfl (lv_at hl 2 rfl) ?_
          refine lv_ishr hx hb dL_hangs_26 ?_
          refine lv_iconst (v := 1) hx hb dL_hangs_27 (by decide) ?_
          refine lv_iand hx hb dL_hangs_28 ?_
          refine lv_iconst (v := 1) hx hb dL_hangs_29 (by decide) ?_
          refine lv_icmp_ne (tgt := 43) hx hb dL_hangs_30 (by decide) (fun c_5 => ?_) (fun c_5 => ?_)
          · refine lv_iinc (v := nI (jz + 1)) (lv' := [(2, .int (nI (jz + 1))), (0, .ref o), (1, .int (nI kz))]) hx hb dL_hangs_43 hl (k := 2) rfl (nI_1 jz) (by decide) rfl (fun ls hl => ?_)
            refine lv_goto (tgt := 14) hx hb dL_hangs_46 (by decide) ?_
            refine W.widen (k := 0) (n := 0) (by omega) (by omega) ?_
            exact ih14 (jz + 1) (by omega) hjl (by rw [hgL, hin, if_neg (by decide)]; first | rw [if_neg c_5] | rw [if_pos c_3, if_pos c_5]) _ _ ls hP hS (lv_sub hl [1, 2, 0] rfl)
          · refine lv_aload_n hx hb dL_hangs_33 rfl (lv_at hl 0 rfl) ?_
            refine lv_iload_n hx hb dL_hangs_34 rfl (lv_at hl 2 rfl) ?_
            have hPc : va_P (dC, dI) vwCl ([(o, .inr (iX5, [.ref g, .ref ce, .ref lu, .ref cl, .ref se, .int tu, .int ja, .int re])), (cl, .inr (iX0, [.int (nI cn), .int wd, .ref xn, .ref xf])), (xn, .inl (cI, 12, .inl (nr)))]) _ := hR.sub [0, 1, 2] rfl
            have hFc := frZ hS hA
            refine va_calli (va_runS (As := [.ref o, .int (nI jz)]) (rest := []) ⟨hx, hb, hml, hown, hts⟩ (c_L_hangs_10 l dC dI cI cF tr (H).size o ce lu cl se tu ja re g cn wd xn xf nr jz hcn (Nat.lt_trans hjl hkn) (by omega)) (va_cwS 2 hts gL_hangs_L_hangs rfl rfl rfl (by decide +kernel) ⟨Nat.le_of_ble_eq_true rfl, Nat.le_of_ble_eq_true rfl⟩) ⟨cBl, (cPre hPc hK hN)⟩ rfl rfl hl.1 rfl (lv_room (Nat.le_of_ble_eq_true rfl)) dL_hangs_35 ⟨(Nat.le_of_ble_eq_true rfl), (Nat.le_of_ble_eq_true rfl)⟩) hS (fun q _ h => hFc q h) hFc (fun r_6 u t H1 locs ht hvm hw_r_6 hB hz1 hk1 hS => ?_)
            refine W.widen (k := 0) (n := 0) (Nat.le_refl _) (Nat.le_refl _) ?_
            have hP := keepP hP hk1
            have hR := keepP hR hk1
            generalize H1 = H at hP hR hS ⊢
            have hP : va_P (dC, dI) vwCl ([]) H := hP
            try dsimp only at hw_r_6
            subst hw_r_6
            refine lv_if_eq (tgt := 43) hx hb dL_hangs_38 (by decide) (fun c_7 => ?_) (fun c_7 => ?_)
            · refine lv_iinc (v := nI (jz + 1)) (lv' := [(2, .int (nI (jz + 1))), (0, .ref o), (1, .int (nI kz))]) hx hb dL_hangs_43 hl (k := 2) rfl (nI_1 jz) (by decide) rfl (fun ls hl => ?_)
              refine lv_goto (tgt := 14) hx hb dL_hangs_46 (by decide) ?_
              refine W.widen (k := 0) (n := 0) (by omega) (by omega) ?_
              exact ih14 (jz + 1) (by omega) hjl (by rw [hgL, hin, if_neg (by decide)]; first | rw [if_neg c_7] | rw [if_pos c_5, if_pos c_7]) _ _ ls hP hS (lv_sub hl [1, 2, 0] rfl)
            · refine lv_iconst (v := 1) hx hb dL_hangs_41 (by decide) ?_
              refine W.widen (k := 0) (n := 0) (by omega) (by omega) ?_
              exact W.zret (v := 1) hx hb hr (by first | rfl | simp [narrow] | assumption) (fun t ht hW => ⟨⟨1, (), rfl, (by rw [hgF, if_neg c_2]; exact (hgL_up (j := jz + 1) (by rw [hgL, hin, if_neg (by decide), if_pos c_5, if_neg c_7]) kz hjl).symm), trivial⟩, hS.F ht⟩) hS.2.2 dL_hangs_42
    refine W.widen (k := 0) (n := 0) (by omega) (by omega) ?_
    exact K14 (kz - 0 + 1) 0 (by omega) (Nat.zero_le _) rfl _ _ ls hP hS (lv_sub hl [1, 2, 0] rfl)
  · refine lv_iconst (v := 1) hx hb dL_hangs_10 (by decide) ?_
    refine W.widen (k := 0) (n := 0) (by omega) (by omega) ?_
    exact W.zret (v := 1) hx hb hr (by first | rfl | simp [narrow] | assumption) (fun t ht hW => ⟨⟨1, (), rfl, (by rw [hgF, if_pos c_2]), trivial⟩, hS.F ht⟩) hS.2.2 dL_hangs_11

set_option maxHeartbeats 4000000 in
set_option maxRecDepth 100000 in
theorem c_L_hangs_12 (l : Launch) (dC : Nat → ClassId) (dI : Nat → Nat → Nat) (cI cF : ClassId) (tr : List (ClassId × FieldType)) (sz : Nat) (o : Nat) (ce : Nat) (lu : Nat) (cl : Nat) (se : Nat) (tu : Int32) (ja : Int32) (re : Int32) (g : Nat) (cn : Nat) (wd : Int32) (xn : Nat) (xf : Nat) (nr : Nat → Int32) (kz : Nat) (hcn : cn ≤ 12) (hkn : kz < cn) (hkd : kz < 12) : Met l yL_hangs wsL_hangs ({ frames := 16, cells := 0, slots := 0, locals := 349 } : Room) (cPc dC dI ((cI, .int) :: (cF, .object RX1) :: tr) sz ([(o, .inr (iX5, [.ref g, .ref ce, .ref lu, .ref cl, .ref se, .int tu, .int ja, .int re])), (cl, .inr (iX0, [.int (nI cn), .int wd, .ref xn, .ref xf])), (xn, .inl (cI, 12, .inl (nr)))]) [.ref o, .int (nI kz)]) (va_Qi (fun (r : Int32) (_ : Unit) => r = hgF cn wd nr 12 kz) (fun _ _ => True) (va_A ([]) sz)) 0 0 (va_A ([]) sz) := by
  refine Met.ofW (cc := cL_hangs) (maxL := 3) (ret := (some .boolean)) (by decide) rfl ?_
  intro p e s m args below meth c s₁ B hml hv
  obtain ⟨rfl, hsz, hP, hK, hN⟩ := hv
  have hx := B.exec
  have hb := B.bytes
  have hr := B.returns
  have hts := atoms_spec (ws := wsL_hangs) B.pre
  have hown : s.vm.findClass RL = some m.cls := findClass_of_methodNamed B.named
  have hlocks := B.notSynchronized
  subst hsz
  generalize hAe : va_A [] s.heap.size = A
  have hA : ∀ q : Nat, s.heap.size ≤ q → A q := fun q h => by rw [← hAe]; exact Or.inr h
  have hS : va_S A s.heap s.heap [] := va_S.rf
  have hAn : ∀ q : Nat, q < s.heap.size → ¬ A q := fun q h => by rw [← hAe]; exact notZ h
  have hAg : ∀ q : Nat, A q → s.heap.size ≤ q := fun q h => geZ (hAe ▸ h)
  have hR0 : va_P (dC, dI) vwCl ([(o, .inr (iX5, [.ref g, .ref ce, .ref lu, .ref cl, .ref se, .int tu, .int ja, .int re])), (cl, .inr (iX0, [.int (nI cn), .int wd, .ref xn, .ref xf])), (xn, .inl (cI, 12, .inl (nr)))]) s.heap := hP
  have hR : va_P (dC, dI) vwCl ([(o, .inr (iX5, [.ref g, .ref ce, .ref lu, .ref cl, .ref se, .int tu, .int ja, .int re])), (cl, .inr (iX0, [.int (nI cn), .int wd, .ref xn, .ref xf])), (xn, .inl (cI, 12, .inl (nr)))]) s.heap := hP
  have hP : va_P (dC, dI) vwCl [] s.heap := fun k q h => by simp at h
  have hD : va_D A [] := ⟨fun i j p q h => by simp at h, fun k q h => by simp at h⟩
  have hl := lv_entry ([.ref o, .int (nI kz)]) (n := 3) (Nat.le_of_ble_eq_true rfl)
  rw [lg_entry_eq]
  generalize (lg_sl ([.ref o, .int (nI kz)]) ++ List.replicate (3 - (lg_sl ([.ref o, .int (nI kz)])).length) Slot.unset).toArray = ls at hl ⊢
  have hl : lv_has ls 3 [(0, .ref o), (1, .int (nI kz))] := hl
  refine lv_aload_n hx hb dL_hangs_0 rfl (lv_at hl 0 rfl) ?_
  refine lv_iload_n hx hb dL_hangs_1 rfl (lv_at hl 1 rfl) ?_
  refine lv_iconst (v := 1) hx hb dL_hangs_2 (by decide) ?_
  have hPc : va_P (dC, dI) vwCl ([(o, .inr (iX5, [.ref g, .ref ce, .ref lu, .ref cl, .ref se, .int tu, .int ja, .int re])), (cl, .inr (iX0, [.int (nI cn), .int wd, .ref xn, .ref xf])), (xn, .inl (cI, 12, .inl (nr)))]) _ := hR.sub [0, 1, 2] rfl
  have hFc := frZ hS hA
  refine va_calli (va_runV (As := [.int (nI kz), .int 1]) (rest := []) ⟨hx, hb, hml, hown, hts⟩ (c_p_X5_ofClaim l dC dI cI cF tr (s.heap).size o ce lu cl se tu ja re g cn wd xn xf nr (nI kz) 1 (winW hkn (by omega)) (winK (k := 1) (b := 3) (by decide) (by decide)) hcn) (cwV 2 hts gL_hangs_X5_ofClaim rfl rfl rfl (by decide +kernel) ⟨Nat.le_of_ble_eq_true rfl, Nat.le_of_ble_eq_true rfl⟩) ⟨cBl, (va_recv hK hPc (ci := iX5) (q0 := 0) rfl rfl), (cPre hPc hK hN)⟩ rfl rfl hl.1 rfl (lv_room (Nat.le_of_ble_eq_true rfl)) dL_hangs_3 ⟨(Nat.le_of_ble_eq_true rfl), (Nat.le_of_ble_eq_true rfl)⟩) hS (fun q _ h => hFc q h) hFc (fun r_1 u t H1 locs ht hvm hw_r_1 hB hz1 hk1 hS => ?_)
  refine W.widen (k := 0) (n := 0) (Nat.le_refl _) (Nat.le_refl _) ?_
  have hP := keepP hP hk1
  have hR := keepP hR hk1
  generalize H1 = H at hP hR hS ⊢
  have hP : va_P (dC, dI) vwCl ([]) H := hP
  try dsimp only at hw_r_1
  subst hw_r_1
  refine lv_iconst (v := 1) hx hb dL_hangs_6 (by decide) ?_
  refine lv_icmp_ne (tgt := 12) hx hb dL_hangs_7 (by decide) (fun c_2 => ?_) (fun c_2 => ?_)
  · refine lv_iconst (v := 0) hx hb dL_hangs_12 (by decide) ?_
    refine lv_istore_n (lv' := [(2, .int 0), (0, .ref o), (1, .int (nI kz))]) hx hb dL_hangs_13 rfl hl (by decide) rfl (fun ls hl => ?_)
    have K14 : ∀ (NN : Nat), ∀ (jz : Nat), (kz - jz) < NN → (jz ≤ kz) → (hgL (ocF cn wd nr (nI kz) 0) (hgF cn wd nr 11) jz = 0) → ∀ (H : Heap) (locs : List Loc) (ls : Array Slot), va_P (dC, dI) vwCl ([]) H → va_S A s.heap H locs → lv_has ls 3 [(0, .ref o), (1, .int (nI kz)), (2, .int (nI jz))] → W p l e (headSpec wsL_hangs ({ frames := 16, cells := 0, slots := 0, locals := 349 } : Room)).room s m #[Value.ref o, Value.int (nI kz)] below meth c H locs (0) (0) (MQ below (va_Qi (fun (r : Int32) (_ : Unit) => r = hgF cn wd nr 12 kz) (fun _ _ => True) A) #[Value.ref o, Value.int (nI kz)] s 0 0 A) (F0 m 14 ls []) := by
      intro NN
      induction NN with
      | zero =>
        intro jz hmu hj hin H locs ls hP hS hl
        exact absurd hmu (Nat.not_lt_zero _)
      | succ NN ih14 =>
        intro jz hmu hj hin H locs ls hP hS hl
        have hR := keepR hR0 hS hAn
        refine lv_iload_n hx hb dL_hangs_14 rfl (lv_at hl 2 rfl) ?_
        refine lv_iload_n hx hb dL_hangs_15 rfl (lv_at hl 1 rfl) ?_
        refine lv_icmp_ge (tgt := 49) hx hb dL_hangs_16 (by decide) (fun c_3 => ?_) (fun c_3 => ?_)
        · have hke : kz ≤ jz := leK (by omega) (by omega) c_3
          obtain rfl : jz = kz := by omega
          refine lv_iconst (v := 0) hx hb dL_hangs_49 (by decide) ?_
          refine W.widen (k := 0) (n := 0) (by omega) (by omega) ?_
          exact W.zret (v := 0) hx hb hr (by first | rfl | simp [narrow] | assumption) (fun t ht hW => ⟨⟨0, (), rfl, (by rw [hgF, if_neg c_2, hin]), trivial⟩, hS.F ht⟩) hS.2.2 dL_hangs_50
        · have hjl : jz < kz := ltK (by omega) (by omega) c_3
          refine lv_aload_n hx hb dL_hangs_19 rfl (lv_at hl 0 rfl) ?_
          refine lv_iload_n hx hb dL_hangs_20 rfl (lv_at hl 1 rfl) ?_
          refine lv_iconst (v := 0) hx hb dL_hangs_21 (by decide) ?_
          have hPc : va_P (dC, dI) vwCl ([(o, .inr (iX5, [.ref g, .ref ce, .ref lu, .ref cl, .ref se, .int tu, .int ja, .int re])), (cl, .inr (iX0, [.int (nI cn), .int wd, .ref xn, .ref xf])), (xn, .inl (cI, 12, .inl (nr)))]) _ := hR.sub [0, 1, 2] rfl
          have hFc := frZ hS hA
          refine va_calli (va_runV (As := [.int (nI kz), .int 0]) (rest := []) ⟨hx, hb, hml, hown, hts⟩ (c_p_X5_ofClaim l dC dI cI cF tr (H).size o ce lu cl se tu ja re g cn wd xn xf nr (nI kz) 0 (winW hkn (by omega)) (winK (k := 0) (b := 3) (by decide) (by decide)) hcn) (cwV 2 hts gL_hangs_X5_ofClaim rfl rfl rfl (by decide +kernel) ⟨Nat.le_of_ble_eq_true rfl, Nat.le_of_ble_eq_true rfl⟩) ⟨cBl, (va_recv hK hPc (ci := iX5) (q0 := 0) rfl rfl), (cPre hPc hK hN)⟩ rfl rfl hl.1 rfl (lv_room (Nat.le_of_ble_eq_true rfl)) dL_hangs_22 ⟨(Nat.le_of_ble_eq_true rfl), (Nat.le_of_ble_eq_true rfl)⟩) hS (fun q _ h => hFc q h) hFc (fun r_4 u t H1 locs ht hvm hw_r_4 hB hz1 hk1 hS => ?_)
          refine W.widen (k := 0) (n := 0) (Nat.le_refl _) (Nat.le_refl _) ?_
          have hP := keepP hP hk1
          have hR := keepP hR hk1
          generalize H1 = H at hP hR hS ⊢
          have hP : va_P (dC, dI) vwCl ([]) H := hP
          try dsimp only at hw_r_4
          subst hw_r_4
          refine lv_iload_n hx hb dL_hangs_25 rfl (lv_at hl 2 rfl) ?_
          refine lv_ishr hx hb dL_hangs_26 ?_
          refine lv_iconst (v := 1) hx hb dL_hangs_27 (by decide) ?_
          refine lv_iand hx hb dL_hangs_28 ?_
          refine lv_iconst (v := 1) hx hb dL_hangs_29 (by decide) ?_
          refine lv_icmp_ne (tgt := 43) hx hb dL_hangs_30 (by decide) (fun c_5 => ?_) (fun c_5 => ?_)
          · refine lv_iinc (v := nI (jz + 1)) (lv' := [(2, .int (nI (jz + 1))), (0, .ref o), (1, .int (nI kz))]) hx hb dL_hangs_43 hl (k := 2) rfl (nI_1 jz) (by decide) rfl (fun ls hl => ?_)
            refine lv_goto (tgt := 14) hx hb dL_hangs_46 (by decide) ?_
            refine W.widen (k := 0) (n := 0) (by omega) (by omega) ?_
            exact ih14 (jz + 1) (by omega) hjl (by rw [hgL, hin, if_neg (by decide)]; first | rw [if_neg c_5] | rw [if_pos c_3, if_pos c_5]) _ _ ls hP hS (lv_sub hl [1, 2, 0] rfl)
          · refine lv_aload_n hx hb dL_hangs_33 rfl (lv_at hl 0 rfl) ?_
            refine lv_iload_n hx hb dL_hangs_34 rfl (lv_at hl 2 rfl) ?_
            have hPc : va_P (dC, dI) vwCl ([(o, .inr (iX5, [.ref g, .ref ce, .ref lu, .ref cl, .ref se, .int tu, .int ja, .int re])), (cl, .inr (iX0, [.int (nI cn), .int wd, .ref xn, .ref xf])), (xn, .inl (cI, 12, .inl (nr)))]) _ := hR.sub [0, 1, 2] rfl
            have hFc := frZ hS hA
            refine va_calli (va_runS (As := [.ref o, .int (nI jz)]) (rest := []) ⟨hx, hb, hml, hown, hts⟩ (c_L_hangs_11 l dC dI cI cF tr (H).size o ce lu cl se tu ja re g cn wd xn xf nr jz hcn (Nat.lt_trans hjl hkn) (by omega)) (va_cwS 2 hts gL_hangs_L_hangs rfl rfl rfl (by decide +kernel) ⟨Nat.le_of_ble_eq_true rfl, Nat.le_of_ble_eq_true rfl⟩) ⟨cBl, (cPre hPc hK hN)⟩ rfl rfl hl.1 rfl (lv_room (Nat.le_of_ble_eq_true rfl)) dL_hangs_35 ⟨(Nat.le_of_ble_eq_true rfl), (Nat.le_of_ble_eq_true rfl)⟩) hS (fun q _ h => hFc q h) hFc (fun r_6 u t H1 locs ht hvm hw_r_6 hB hz1 hk1 hS => ?_)
            refine W.widen (k := 0) (n := 0) (Nat.le_refl _) (Nat.le_refl _) ?_
            have hP := keepP hP hk1
            have hR := keepP hR hk1
            generalize H1 = H at hP hR hS ⊢
            have hP : va_P (dC, dI) vwCl ([]) H := hP
            try dsimp only at hw_r_6
            subst hw_r_6
            refine lv_if_eq (tgt := 43) hx hb dL_hangs_38 (by decide) (fun c_7 => ?_) (fun c_7 => ?_)
            · refine lv_iinc (v := nI (jz + 1)) (lv' := [(2, .int (nI (jz + 1))), (0, .ref o), (1, .int (nI kz))]) hx hb dL_hangs_43 hl (k := 2) rfl (nI_1 jz) (by decide) rfl (fun ls hl => ?_)
              refine lv_goto (tgt := 14) hx hb dL_hangs_46 (by decide) ?_
              refine W.widen (k := 0) (n := 0) (by omega) (by omega) ?_
              exact ih14 (jz + 1) (by omega) hjl (by rw [hgL, hin, if_neg (by decide)]; first | rw [if_neg c_7] | rw [if_pos c_5, if_pos c_7]) _ _ ls hP hS (lv_sub hl [1, 2, 0] rfl)
            · refine lv_iconst (v := 1) hx hb dL_hangs_41 (by decide) ?_
              refine W.widen (k := 0) (n := 0) (by omega) (by omega) ?_
              exact W.zret (v := 1) hx hb hr (by first | rfl | simp [narrow] | assumption) (fun t ht hW => ⟨⟨1, (), rfl, (by rw [hgF, if_neg c_2]; exact (hgL_up (j := jz + 1) (by rw [hgL, hin, if_neg (by decide), if_pos c_5, if_neg c_7]) kz hjl).symm), trivial⟩, hS.F ht⟩) hS.2.2 dL_hangs_42
    refine W.widen (k := 0) (n := 0) (by omega) (by omega) ?_
    exact K14 (kz - 0 + 1) 0 (by omega) (Nat.zero_le _) rfl _ _ ls hP hS (lv_sub hl [1, 2, 0] rfl)
  · refine lv_iconst (v := 1) hx hb dL_hangs_10 (by decide) ?_
    refine W.widen (k := 0) (n := 0) (by omega) (by omega) ?_
    exact W.zret (v := 1) hx hb hr (by first | rfl | simp [narrow] | assumption) (fun t ht hW => ⟨⟨1, (), rfl, (by rw [hgF, if_pos c_2]), trivial⟩, hS.F ht⟩) hS.2.2 dL_hangs_11
