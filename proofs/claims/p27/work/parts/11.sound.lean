/-! the hall: whether it is sound, its checksum -/
theorem ifNe {p : Prop} [Decidable p] (h : ¬ (if p then (1 : Int32) else 0) = 0) : p := by
  by_cases q : p
  · exact q
  · rw [if_neg q] at h
    exact absurd rfl h
theorem ifEq {p : Prop} [Decidable p] (h : (if p then (1 : Int32) else 0) = 0) : ¬ p := by
  intro q
  rw [if_pos q] at h
  exact absurd h (by decide)
theorem winK {k b : Nat} (h : k ≤ b) (hb : b < 2 ^ 31) : ¬ withinF (nI k) 0 (nI b) = 0 := by
  unfold withinF
  rw [if_neg (nI_pos (by omega)), if_neg (nI_nlt h (by omega))]
  decide
theorem winW {k n : Nat} (h : k < n) (hn : n < 2 ^ 31) : ¬ withinF (nI k) 0 (nI n - 1) = 0 := by
  have e : nI n - 1 = nI (n - 1) := by rw [show n = (n - 1) + 1 by omega, nI_pred]; simp
  rw [e]
  exact winK (by omega) (by omega)
section SND
variable (st : Nat) (bc : Nat → Option Nat) (v : Nat → Int64 × Int64) (ax te me : Nat → Int32) (tu : Int32)
/-- what has passed of a wheel -/
def pbF (i : Int32) : Int64 × Int64 := paF (v (rtA st bc (atF 12 ax i))) tu (atF 12 te i)
def dmI (k : Nat) : Nat → Nat → Int32
  | 0, _ => 1
  | r + 1, j => if isInF (atF 12 me (nI k)) (nI j) = 0 then dmI k r (j + 1) else if (pbF st bc v ax te tu (nI k)).1 = -(pbF st bc v ax te tu (nI j)).1 ∧ (pbF st bc v ax te tu (nI k)).2 = (pbF st bc v ax te tu (nI j)).2 then dmI k r (j + 1) else 0
def dmO (n : Nat) : Nat → Nat → Int32
  | 0, _ => 1
  | r + 1, k => if dmI st bc v ax te me tu k (n - (k + 1)) (k + 1) = 0 then 0 else dmO n r (k + 1)
end SND

set_option maxHeartbeats 4000000 in
set_option maxRecDepth 100000 in
theorem c_X5_doMeshesPassAlike (l : Launch) (dC : Nat → ClassId) (dI : Nat → Nat → Nat) (cI cF : ClassId) (tr : List (ClassId × FieldType)) (sz : Nat) (o : Nat) (ce : Nat) (lu : Nat) (cl : Nat) (se : Nat) (tu : Int32) (ja : Int32) (re : Int32) (g : Nat) (n : Nat) (xa : Nat) (xt : Nat) (xm : Nat) (wh : Nat) (st : Nat) (xb : Nat) (xc : Nat) (ax : Nat → Int32) (te : Nat → Int32) (me : Nat → Int32) (bc : Nat → Option Nat) (LP : List Nat) (v : Nat → Int64 × Int64) (hst : st ∈ LP) (hbc : ∀ k, k < 7 → ∀ a, bc k = some a → a ∈ LP) (hn : n ≤ 12) : Met l yX5_doMeshesPassAlike wsX5_doMeshesPassAlike ({ frames := 4, cells := 156, slots := 312, locals := 101 } : Room) (cPc dC dI ((cI, .int) :: (cF, .object RX1) :: tr) sz ([(o, .inr (iX5, [.ref g, .ref ce, .ref lu, .ref cl, .ref se, .int tu, .int ja, .int re])), (g, .inr (iX2, [.int (nI n), .ref xa, .ref xt, .ref xm, .ref wh, .ref st, .ref xb, .ref xc])), (xa, .inl (cI, 12, .inl (ax))), (xt, .inl (cI, 12, .inl (te))), (xm, .inl (cI, 12, .inl (me))), (xb, .inl (cF, 7, .inr (.inr (.inr (.inr (bc))))))] ++ va_pl LP (fe v)) [.ref o]) (va_Qi (fun (r : Int32) (_ : Unit) => r = dmO st bc v ax te me tu n n 0) (fun _ _ => True) (va_A ([]) sz)) 156 312 (va_A ([]) sz) := by
  refine Met.ofW (cc := cX5_doMeshesPassAlike) (maxL := 4) (ret := (some .boolean)) (by decide) rfl ?_
  intro p e s m args below meth c s₁ B hml hv
  obtain ⟨rfl, hsz, hP, hK, hN⟩ := hv
  have hx := B.exec
  have hb := B.bytes
  have hr := B.returns
  have hts := atoms_spec (ws := wsX5_doMeshesPassAlike) B.pre
  have hown : s.vm.findClass RX5 = some m.cls := findClass_of_methodNamed B.named
  have hlocks := B.notSynchronized
  subst hsz
  generalize hAe : va_A [] s.heap.size = A
  have hA : ∀ q : Nat, s.heap.size ≤ q → A q := fun q h => by rw [← hAe]; exact Or.inr h
  have hS : va_S A s.heap s.heap [] := va_S.rf
  have hAn : ∀ q : Nat, q < s.heap.size → ¬ A q := fun q h => by rw [← hAe]; exact notZ h
  have hAg : ∀ q : Nat, A q → s.heap.size ≤ q := fun q h => geZ (hAe ▸ h)
  have hR0 : va_P (dC, dI) vwCl ([(o, .inr (iX5, [.ref g, .ref ce, .ref lu, .ref cl, .ref se, .int tu, .int ja, .int re])), (g, .inr (iX2, [.int (nI n), .ref xa, .ref xt, .ref xm, .ref wh, .ref st, .ref xb, .ref xc])), (xa, .inl (cI, 12, .inl (ax))), (xt, .inl (cI, 12, .inl (te))), (xm, .inl (cI, 12, .inl (me))), (xb, .inl (cF, 7, .inr (.inr (.inr (.inr (bc))))))] ++ va_pl LP (fe v)) s.heap := hP
  have hR : va_P (dC, dI) vwCl ([(o, .inr (iX5, [.ref g, .ref ce, .ref lu, .ref cl, .ref se, .int tu, .int ja, .int re])), (g, .inr (iX2, [.int (nI n), .ref xa, .ref xt, .ref xm, .ref wh, .ref st, .ref xb, .ref xc])), (xa, .inl (cI, 12, .inl (ax))), (xt, .inl (cI, 12, .inl (te))), (xm, .inl (cI, 12, .inl (me))), (xb, .inl (cF, 7, .inr (.inr (.inr (.inr (bc))))))] ++ va_pl LP (fe v)) s.heap := hP
  have hP : va_P (dC, dI) vwCl [] s.heap := fun k q h => by simp at h
  have hD : va_D A [] := ⟨fun i j p q h => by simp at h, fun k q h => by simp at h⟩
  have hl := lv_entry ([.ref o]) (n := 4) (Nat.le_of_ble_eq_true rfl)
  rw [lg_entry_eq]
  generalize (lg_sl ([.ref o]) ++ List.replicate (4 - (lg_sl ([.ref o])).length) Slot.unset).toArray = ls at hl ⊢
  have hl : lv_has ls 4 [(0, .ref o)] := hl
  have hfl_10 := hts (.fieldLink RX5 10 "Greenwheels" "gearing" "LGreenwheels$Gearing;") (by decide +kernel)
  have hin_X5 : ∀ w ∈ u_ws RX5 TX5 8, w ∈ wsX5_doMeshesPassAlike := by decide +kernel
  have hfl_53 := hts (.fieldLink RX5 53 "Greenwheels$Gearing" "wheels" "I") (by decide +kernel)
  have hin_X2 : ∀ w ∈ u_ws RX2 TX2 8, w ∈ wsX5_doMeshesPassAlike := by decide +kernel
  refine lv_iconst (v := 0) hx hb dX5_doMeshesPassAlike_0 (by decide) ?_
  refine lv_istore_n (lv' := [(1, .int 0), (0, .ref o)]) hx hb dX5_doMeshesPassAlike_1 rfl hl (by decide) rfl (fun ls hl => ?_)
  have K2 : ∀ (NN : Nat), ∀ (k : Nat), (n - k) < NN → (k ≤ n) → (dmO st bc v ax te me tu n (n - k) k = dmO st bc v ax te me tu n n 0) → ∀ (H : Heap) (locs : List Loc) (ls : Array Slot), va_P (dC, dI) vwCl ([]) H → va_S A s.heap H locs → lv_has ls 4 [(0, .ref o), (1, .int (nI k))] → W p l e (headSpec wsX5_doMeshesPassAlike ({ frames := 4, cells := 156, slots := 312, locals := 101 } : Room)).room s m #[Value.ref o] below meth c H locs (13 * k) (26 * k) (MQ below (va_Qi (fun (r : Int32) (_ : Unit) => r = dmO st bc v ax te me tu n n 0) (fun _ _ => True) A) #[Value.ref o] s 156 312 A) (F0 m 2 ls []) := by
    intro NN
    induction NN with
    | zero =>
      intro k hmu hk hacc H locs ls hP hS hl
      exact absurd hmu (Nat.not_lt_zero _)
    | succ NN ih2 =>
      intro k hmu hk hacc H locs ls hP hS hl
      have hR := keepR hR0 hS hAn
      refine lv_iload_n hx hb dX5_doMeshesPassAlike_2 rfl (lv_at hl 1 rfl) ?_
      refine lv_aload_n hx hb dX5_doMeshesPassAlike_3 rfl (lv_at hl 0 rfl) ?_
      refine va_get (D := (dC, dI)) (ci := iX5) (v := .ref g) (C := RX5) (T := TX5) (N := 8) hx hb hts hin_X5 hown hK hR 0 rfl rfl 0 (by decide) hfl_10 (fun _ h9 => h9) rfl dX5_doMeshesPassAlike_4 ?_
      refine va_get (D := (dC, dI)) (ci := iX2) (v := .int (nI n)) (C := RX2) (T := TX2) (N := 8) hx hb hts hin_X2 hown hK hR 1 rfl rfl 0 (by decide) hfl_53 (fun _ h9 => h9) rfl dX5_doMeshesPassAlike_7 ?_
      refine lv_icmp_ge (tgt := 72) hx hb dX5_doMeshesPassAlike_10 (by decide) (fun c_1 => ?_) (fun c_1 => ?_)
      · have hke : n ≤ k := leK (by omega) (by omega) c_1
        have hkn : k = n := by omega
        refine lv_iconst (v := 1) hx hb dX5_doMeshesPassAlike_72 (by decide) ?_
        refine W.widen (k := 156) (n := 312) (by omega) (by omega) ?_
        exact W.zret (v := 1) hx hb hr (by first | rfl | simp [narrow] | assumption) (fun t ht hW => ⟨⟨1, (), rfl, (by rw [← hacc, hkn, Nat.sub_self]; rfl), trivial⟩, hS.F ht⟩) hS.2.2 dX5_doMeshesPassAlike_73
      · have hkl : k < n := ltK (by omega) (by omega) c_1
        refine lv_aload_n hx hb dX5_doMeshesPassAlike_13 rfl (lv_at hl 0 rfl) ?_
        refine lv_iload_n hx hb dX5_doMeshesPassAlike_14 rfl (lv_at hl 1 rfl) ?_
        have hPc : va_P (dC, dI) vwCl ([(o, .inr (iX5, [.ref g, .ref ce, .ref lu, .ref cl, .ref se, .int tu, .int ja, .int re])), (g, .inr (iX2, [.int (nI n), .ref xa, .ref xt, .ref xm, .ref wh, .ref st, .ref xb, .ref xc])), (xa, .inl (cI, 12, .inl (ax))), (xt, .inl (cI, 12, .inl (te))), (xb, .inl (cF, 7, .inr (.inr (.inr (.inr (bc))))))] ++ va_pl LP (fe v)) _ := hR.part [0, 1, 2, 3, 5] rfl
        have hFc := frZ hS hA
        have hz0 := hS.1
        refine va_callr (va_runV (As := [.int (nI k)]) (rest := []) ⟨hx, hb, hml, hown, hts⟩ (c_X5_passedBy l dC dI cI cF tr (H).size o ce lu cl se tu ja re g n xa xt xm wh st xb xc ax te bc LP v (nI k) (by assumption) (by assumption)) (cwV 1 hts gX5_doMeshesPassAlike_X5_passedBy rfl rfl rfl (by decide +kernel) ⟨Nat.le_of_ble_eq_true rfl, Nat.le_of_ble_eq_true rfl⟩) ⟨cBl, (va_recv hK hPc (ci := iX5) (q0 := 0) rfl rfl), (cPre hPc hK hN)⟩ rfl rfl hl.1 rfl (lv_room (Nat.le_of_ble_eq_true rfl)) dX5_doMeshesPassAlike_15 ⟨(by show 13 * k + 1 ≤ 156; omega), (by show 26 * k + 2 ≤ 312; omega)⟩) hS (fun q _ h => hFc q h) hFc (fun u r_2 t H1 locs ht hvm hw_r_2 hB hz1 hk1 hS => ?_)
        refine W.widen (k := 13 * k + 1) (n := 26 * k + 2) (by omega) (by omega) ?_
        have hP := keepP hP hk1
        have hR := keepP hR hk1
        obtain ⟨hB, hBn⟩ := hB
        rw [ht] at hB
        have hGe_r_2 : s.heap.size ≤ r_2 := Nat.le_trans hz0 hBn
        have hT : va_P (dC, dI) vwCl ([(r_2, .inr (iX1, [.long ((paF (v (rtA st bc (atF 12 ax (nI k)))) tu (atF 12 te (nI k))).1), .long ((paF (v (rtA st bc (atF 12 ax (nI k)))) tu (atF 12 te (nI k))).2)]))]) H1 := hB
        generalize H1 = H at hP hR hT hS ⊢
        have hP : va_P (dC, dI) vwCl ([]) H := hP
        try dsimp only at hw_r_2
        refine lv_astore_n (lv' := [(2, .ref r_2), (0, .ref o), (1, .int (nI k))]) hx hb dX5_doMeshesPassAlike_18 rfl hl (by decide) rfl (fun ls hl => ?_)
        refine lv_iload_n hx hb dX5_doMeshesPassAlike_19 rfl (lv_at hl 2 rfl) ?_
        refine lv_iconst (v := 1) hx hb dX5_doMeshesPassAlike_20 (by decide) ?_
        refine lv_iadd hx hb dX5_doMeshesPassAlike_21 ?_
        refine lv_topi (fun z_3 ez_3 => ?_)
        obtain rfl : z_3 = nI (k + 1) := by rw [ez_3]; exact nI_1 k
        refine lv_istore_n (lv' := [(3, .int (nI (k + 1))), (2, .ref r_2), (0, .ref o), (1, .int (nI k))]) hx hb dX5_doMeshesPassAlike_22 rfl hl (by decide) rfl (fun ls hl => ?_)
        have K23 : ∀ (NN : Nat), ∀ (jz : Nat), (n - (k + 1) - jz) < NN → (jz ≤ n - (k + 1)) → (dmI st bc v ax te me tu k (n - (k + 1) - jz) (k + 1 + jz) = dmI st bc v ax te me tu k (n - (k + 1)) (k + 1)) → ∀ (H : Heap) (locs : List Loc) (ls : Array Slot), va_P (dC, dI) vwCl ([]) H → va_P (dC, dI) vwCl ([(r_2, .inr (iX1, [.long ((paF (v (rtA st bc (atF 12 ax (nI k)))) tu (atF 12 te (nI k))).1), .long ((paF (v (rtA st bc (atF 12 ax (nI k)))) tu (atF 12 te (nI k))).2)]))]) H → va_S A s.heap H locs → lv_has ls 4 [(0, .ref o), (1, .int (nI k)), (2, .ref r_2), (3, .int (nI (k + 1 + jz)))] → W p l e (headSpec wsX5_doMeshesPassAlike ({ frames := 4, cells := 156, slots := 312, locals := 101 } : Room)).room s m #[Value.ref o] below meth c H locs (13 * k + 1 + jz) (26 * k + 2 + 2 * jz) (MQ below (va_Qi (fun (r : Int32) (_ : Unit) => r = dmO st bc v ax te me tu n n 0) (fun _ _ => True) A) #[Value.ref o] s 156 312 A) (F0 m 23 ls []) := by
          intro NN
          induction NN with
          | zero =>
            intro jz hmu hj hin H locs ls hP hT hS hl
            exact absurd hmu (Nat.not_lt_zero _)
          | succ NN ih23 =>
            intro jz hmu hj hin H locs ls hP hT hS hl
            have hR := keepR hR0 hS hAn
            refine lv_iload_n hx hb dX5_doMeshesPassAlike_23 rfl (lv_at hl 3 rfl) ?_
            refine lv_aload_n hx hb dX5_doMeshesPassAlike_24 rfl (lv_at hl 0 rfl) ?_
            refine va_get (D := (dC, dI)) (ci := iX5) (v := .ref g) (C := RX5) (T := TX5) (N := 8) hx hb hts hin_X5 hown hK hR 0 rfl rfl 0 (by decide) hfl_10 (fun _ h9 => h9) rfl dX5_doMeshesPassAlike_25 ?_
            refine va_get (D := (dC, dI)) (ci := iX2) (v := .int (nI n)) (C := RX2) (T := TX2) (N := 8) hx hb hts hin_X2 hown hK hR 1 rfl rfl 0 (by decide) hfl_53 (fun _ h9 => h9) rfl dX5_doMeshesPassAlike_28 ?_
            refine lv_icmp_ge (tgt := 66) hx hb dX5_doMeshesPassAlike_31 (by decide) (fun c_4 => ?_) (fun c_4 => ?_)
            · have hje : jz = n - (k + 1) := by have h9 := leK (by omega) (by omega) c_4; omega
              have hjn : dmI st bc v ax te me tu k (n - (k + 1) - jz) (k + 1 + jz) = 1 := by rw [hje, Nat.sub_self]; rfl
              refine lv_iinc (v := nI (k + 1)) (lv' := [(1, .int (nI (k + 1))), (0, .ref o), (2, .ref r_2), (3, .int (nI (k + 1 + jz)))]) hx hb dX5_doMeshesPassAlike_66 hl (k := 1) rfl (nI_1 k) (by decide) rfl (fun ls hl => ?_)
              refine lv_goto (tgt := 2) hx hb dX5_doMeshesPassAlike_69 (by decide) ?_
              refine W.widen (k := 13 * (k + 1)) (n := 26 * (k + 1)) (by omega) (by omega) ?_
              exact ih2 (k + 1) (by omega) hkl (by rw [← hacc, show n - k = (n - (k + 1)) + 1 by omega, dmO, ← hin, hjn]; exact (if_neg (show ¬ (1 : Int32) = 0 by decide)).symm) _ _ ls hP hS (lv_sub hl [1, 0] rfl)
            · have hjl : jz < n - (k + 1) := by have h9 := ltK (by omega) (by omega) c_4; omega
              refine lv_aload_n hx hb dX5_doMeshesPassAlike_34 rfl (lv_at hl 0 rfl) ?_
              refine va_get (D := (dC, dI)) (ci := iX5) (v := .ref g) (C := RX5) (T := TX5) (N := 8) hx hb hts hin_X5 hown hK hR 0 rfl rfl 0 (by decide) hfl_10 (fun _ h9 => h9) rfl dX5_doMeshesPassAlike_35 ?_
              refine lv_iload_n hx hb dX5_doMeshesPassAlike_38 rfl (lv_at hl 1 rfl) ?_
              refine lv_iload_n hx hb dX5_doMeshesPassAlike_39 rfl (lv_at hl 3 rfl) ?_
              have hPc : va_P (dC, dI) vwCl ([(g, .inr (iX2, [.int (nI n), .ref xa, .ref xt, .ref xm, .ref wh, .ref st, .ref xb, .ref xc])), (xm, .inl (cI, 12, .inl (me)))]) _ := hR.sub [1, 4] rfl
              have hFc := frZ hS hA
              refine va_calli (va_runV (As := [.int (nI k), .int (nI (k + 1 + jz))]) (rest := []) ⟨hx, hb, hml, hown, hts⟩ (c_X2_areMeshed l dC dI cI cF tr (H).size g n xa xt xm wh st xb xc me (nI k) (nI (k + 1 + jz))) (cwV 2 hts gX5_doMeshesPassAlike_X2_areMeshed rfl rfl rfl (by decide +kernel) ⟨Nat.le_of_ble_eq_true rfl, Nat.le_of_ble_eq_true rfl⟩) ⟨cBl, (va_recv hK hPc (ci := iX2) (q0 := 0) rfl rfl), (cPre hPc hK hN)⟩ rfl rfl hl.1 rfl (lv_room (Nat.le_of_ble_eq_true rfl)) dX5_doMeshesPassAlike_40 ⟨(by show 13 * k + 1 + jz + 0 ≤ 156; omega), (by show 26 * k + 2 + 2 * jz + 0 ≤ 312; omega)⟩) hS (fun q _ h => hFc q h) hFc (fun r_5 u t H1 locs ht hvm hw_r_5 hB hz1 hk1 hS => ?_)
              refine W.widen (k := 13 * k + 1 + jz) (n := 26 * k + 2 + 2 * jz) (Nat.le_refl _) (Nat.le_refl _) ?_
              have hP := keepP hP hk1
              have hR := keepP hR hk1
              have hT := keepP hT hk1
              generalize H1 = H at hP hR hT hS ⊢
              have hP : va_P (dC, dI) vwCl ([]) H := hP
              try dsimp only at hw_r_5
              subst hw_r_5
              refine lv_if_eq (tgt := 60) hx hb dX5_doMeshesPassAlike_43 (by decide) (fun c_6 => ?_) (fun c_6 => ?_)
              · refine lv_iinc (v := nI ((k + 1 + jz) + 1)) (lv' := [(3, .int (nI ((k + 1 + jz) + 1))), (0, .ref o), (1, .int (nI k)), (2, .ref r_2)]) hx hb dX5_doMeshesPassAlike_60 hl (k := 3) rfl (nI_1 (k + 1 + jz)) (by decide) rfl (fun ls hl => ?_)
                refine lv_goto (tgt := 23) hx hb dX5_doMeshesPassAlike_63 (by decide) ?_
                refine W.widen (k := 13 * k + 1 + (jz + 1)) (n := 26 * k + 2 + 2 * (jz + 1)) (by omega) (by omega) ?_
                exact ih23 (jz + 1) (by omega) (by omega) (by rw [← hin, show n - (k + 1) - jz = (n - (k + 1) - (jz + 1)) + 1 by omega, dmI, if_pos c_6]; rfl) _ _ ls hP (hT.sub [0] rfl) hS (lv_sub hl [1, 2, 3, 0] rfl)
              · refine lv_aload_n hx hb dX5_doMeshesPassAlike_46 rfl (lv_at hl 2 rfl) ?_
                refine lv_aload_n hx hb dX5_doMeshesPassAlike_47 rfl (lv_at hl 0 rfl) ?_
                refine lv_iload_n hx hb dX5_doMeshesPassAlike_48 rfl (lv_at hl 3 rfl) ?_
                have hPc : va_P (dC, dI) vwCl ([(o, .inr (iX5, [.ref g, .ref ce, .ref lu, .ref cl, .ref se, .int tu, .int ja, .int re])), (g, .inr (iX2, [.int (nI n), .ref xa, .ref xt, .ref xm, .ref wh, .ref st, .ref xb, .ref xc])), (xa, .inl (cI, 12, .inl (ax))), (xt, .inl (cI, 12, .inl (te))), (xb, .inl (cF, 7, .inr (.inr (.inr (.inr (bc))))))] ++ va_pl LP (fe v)) _ := hR.part [0, 1, 2, 3, 5] rfl
                have hFc := frZ hS hA
                have hz0 := hS.1
                refine va_callr (va_runV (As := [.int (nI (k + 1 + jz))]) (rest := [.ref r_2]) ⟨hx, hb, hml, hown, hts⟩ (c_X5_passedBy l dC dI cI cF tr (H).size o ce lu cl se tu ja re g n xa xt xm wh st xb xc ax te bc LP v (nI (k + 1 + jz)) (by assumption) (by assumption)) (cwV 1 hts gX5_doMeshesPassAlike_X5_passedBy rfl rfl rfl (by decide +kernel) ⟨Nat.le_of_ble_eq_true rfl, Nat.le_of_ble_eq_true rfl⟩) ⟨cBl, (va_recv hK hPc (ci := iX5) (q0 := 0) rfl rfl), (cPre hPc hK hN)⟩ rfl rfl hl.1 rfl (lv_room (Nat.le_of_ble_eq_true rfl)) dX5_doMeshesPassAlike_49 ⟨(by show 13 * k + 1 + jz + 1 ≤ 156; omega), (by show 26 * k + 2 + 2 * jz + 2 ≤ 312; omega)⟩) hS (fun q _ h => hFc q h) hFc (fun u r_7 t H1 locs ht hvm hw_r_7 hB hz1 hk1 hS => ?_)
                refine W.widen (k := 13 * k + 1 + jz + 1) (n := 26 * k + 2 + 2 * jz + 2) (by omega) (by omega) ?_
                have hP := keepP hP hk1
                have hR := keepP hR hk1
                have hT := keepP hT hk1
                obtain ⟨hB, hBn⟩ := hB
                rw [ht] at hB
                have hGe_r_7 : s.heap.size ≤ r_7 := Nat.le_trans hz0 hBn
                have hT : va_P (dC, dI) vwCl ([(r_2, .inr (iX1, [.long ((paF (v (rtA st bc (atF 12 ax (nI k)))) tu (atF 12 te (nI k))).1), .long ((paF (v (rtA st bc (atF 12 ax (nI k)))) tu (atF 12 te (nI k))).2)])), (r_7, .inr (iX1, [.long ((paF (v (rtA st bc (atF 12 ax (nI (k + 1 + jz))))) tu (atF 12 te (nI (k + 1 + jz)))).1), .long ((paF (v (rtA st bc (atF 12 ax (nI (k + 1 + jz))))) tu (atF 12 te (nI (k + 1 + jz)))).2)]))]) H1 := hT.app hB
                generalize H1 = H at hP hR hT hS ⊢
                have hP : va_P (dC, dI) vwCl ([]) H := hP
                try dsimp only at hw_r_7
                have hPc : va_P (dC, dI) vwCl ([(r_2, .inr (iX1, [.long ((paF (v (rtA st bc (atF 12 ax (nI k)))) tu (atF 12 te (nI k))).1), .long ((paF (v (rtA st bc (atF 12 ax (nI k)))) tu (atF 12 te (nI k))).2)])), (r_7, .inr (iX1, [.long ((paF (v (rtA st bc (atF 12 ax (nI (k + 1 + jz))))) tu (atF 12 te (nI (k + 1 + jz)))).1), .long ((paF (v (rtA st bc (atF 12 ax (nI (k + 1 + jz))))) tu (atF 12 te (nI (k + 1 + jz)))).2)]))]) _ := hT.sub [0, 1] rfl
                have hFc := frZ hS hA
                refine va_calli (va_runV (As := [.ref r_7]) (rest := []) ⟨hx, hb, hml, hown, hts⟩ (c_X1_isOppositeOf l dC dI cI cF tr (H).size r_2 ((paF (v (rtA st bc (atF 12 ax (nI k)))) tu (atF 12 te (nI k))).1) ((paF (v (rtA st bc (atF 12 ax (nI k)))) tu (atF 12 te (nI k))).2) r_7 ((paF (v (rtA st bc (atF 12 ax (nI (k + 1 + jz))))) tu (atF 12 te (nI (k + 1 + jz)))).1) ((paF (v (rtA st bc (atF 12 ax (nI (k + 1 + jz))))) tu (atF 12 te (nI (k + 1 + jz)))).2)) (cwV 1 hts gX5_doMeshesPassAlike_X1_isOppositeOf rfl rfl rfl (by decide +kernel) ⟨Nat.le_of_ble_eq_true rfl, Nat.le_of_ble_eq_true rfl⟩) ⟨cBl, (va_recv hK hPc (ci := iX1) (q0 := 0) rfl rfl), (cPre hPc hK hN)⟩ rfl rfl hl.1 rfl (lv_room (Nat.le_of_ble_eq_true rfl)) dX5_doMeshesPassAlike_52 ⟨(by show 13 * k + 1 + jz + 1 + 0 ≤ 156; omega), (by show 26 * k + 2 + 2 * jz + 2 + 0 ≤ 312; omega)⟩) hS (fun q _ h => hFc q h) hFc (fun r_8 u t H1 locs ht hvm hw_r_8 hB hz1 hk1 hS => ?_)
                refine W.widen (k := 13 * k + 1 + jz + 1) (n := 26 * k + 2 + 2 * jz + 2) (Nat.le_refl _) (Nat.le_refl _) ?_
                have hP := keepP hP hk1
                have hR := keepP hR hk1
                have hT := keepP hT hk1
                generalize H1 = H at hP hR hT hS ⊢
                have hP : va_P (dC, dI) vwCl ([]) H := hP
                try dsimp only at hw_r_8
                subst hw_r_8
                refine lv_if_ne (tgt := 60) hx hb dX5_doMeshesPassAlike_55 (by decide) (fun c_9 => ?_) (fun c_9 => ?_)
                · refine lv_iinc (v := nI ((k + 1 + jz) + 1)) (lv' := [(3, .int (nI ((k + 1 + jz) + 1))), (0, .ref o), (1, .int (nI k)), (2, .ref r_2)]) hx hb dX5_doMeshesPassAlike_60 hl (k := 3) rfl (nI_1 (k + 1 + jz)) (by decide) rfl (fun ls hl => ?_)
                  refine lv_goto (tgt := 23) hx hb dX5_doMeshesPassAlike_63 (by decide) ?_
                  refine W.widen (k := 13 * k + 1 + (jz + 1)) (n := 26 * k + 2 + 2 * (jz + 1)) (by omega) (by omega) ?_
                  exact ih23 (jz + 1) (by omega) (by omega) (by rw [← hin, show n - (k + 1) - jz = (n - (k + 1) - (jz + 1)) + 1 by omega, dmI, if_neg c_6, if_pos (show (pbF st bc v ax te tu (nI k)).1 = -(pbF st bc v ax te tu (nI (k + 1 + jz))).1 ∧ (pbF st bc v ax te tu (nI k)).2 = (pbF st bc v ax te tu (nI (k + 1 + jz))).2 from ifNe c_9)]; rfl) _ _ ls hP (hT.sub [0] rfl) hS (lv_sub hl [1, 2, 3, 0] rfl)
                · refine lv_iconst (v := 0) hx hb dX5_doMeshesPassAlike_58 (by decide) ?_
                  refine W.widen (k := 156) (n := 312) (by omega) (by omega) ?_
                  exact W.zret (v := 0) hx hb hr (by first | rfl | simp [narrow] | assumption) (fun t ht hW => ⟨⟨0, (), rfl, (by rw [← hacc, show n - k = (n - (k + 1)) + 1 by omega, dmO, ← hin, show n - (k + 1) - jz = (n - (k + 1) - (jz + 1)) + 1 by omega, dmI, if_neg c_6, if_neg (show ¬ ((pbF st bc v ax te tu (nI k)).1 = -(pbF st bc v ax te tu (nI (k + 1 + jz))).1 ∧ (pbF st bc v ax te tu (nI k)).2 = (pbF st bc v ax te tu (nI (k + 1 + jz))).2) from ifEq c_9)]; rfl), trivial⟩, hS.F ht⟩) hS.2.2 dX5_doMeshesPassAlike_59
        refine W.widen (k := 13 * k + 1 + 0) (n := 26 * k + 2 + 2 * 0) (by omega) (by omega) ?_
        exact K23 (n - (k + 1) - 0 + 1) 0 (by omega) (Nat.zero_le _) (by rw [Nat.sub_zero]) _ _ ls hP (hT.sub [0] rfl) hS (lv_sub hl [2, 3, 1, 0] rfl)
  refine W.widen (k := 13 * 0) (n := 26 * 0) (by omega) (by omega) ?_
  exact K2 (n - 0 + 1) 0 (by omega) (Nat.zero_le _) rfl _ _ ls hP hS (lv_sub hl [1, 0] rfl)

def isF (st : Nat) (bc : Nat → Option Nat) (v : Nat → Int64 × Int64) (ax te me : Nat → Int32) (tu : Int32) (n cn : Nat) (wd : Int32) (nr nf : Nat → Int32) : Int32 :=
  if dmO st bc v ax te me tu n n 0 = 0 then 0 else if iprL (ptL st bc v 7) st bc v 7 0 = 0 then 0 else if acnL (stL nr wd cn) wd nf cn 0 = 0 then 0 else 1
def maI (q : Int64 × Int64) (tu : Int32) (d : Int64) : Nat → Int64
  | 0 => d
  | w + 1 => mxF (mxF (maI q tu d w) (afF q tu (nI w)).1) (afF q tu (nI w)).2
def maL (st : Nat) (bc : Nat → Option Nat) (v : Nat → Int64 × Int64) (cs : Nat → Int32) (tu : Int32) (d : Int64) : Nat → Int64
  | 0 => d
  | k + 1 => mxF (maI (v (rtA st bc (nI k))) tu (maL st bc v cs tu d k) 3) (caF (v (rtA st bc (nI k))) tu (atF 7 cs (nI k))).toInt64
def mwI (ax te me : Nat → Int32) (bc : Nat → Option Nat) (k : Nat) (d : Int64) : Nat → Int64
  | 0 => d
  | w + 1 => mxF (mwI ax te me bc k d w) (owF ax te me bc (nI k) (nI w)).toInt64
def mwL (st : Nat) (bc : Nat → Option Nat) (v : Nat → Int64 × Int64) (ax te me : Nat → Int32) (tu : Int32) (d : Int64) : Nat → Int64
  | 0 => d
  | k + 1 => mxF (mxF (mwI ax te me bc k (mwL st bc v ax te me tu d k) 4) (pbF st bc v ax te tu (nI k)).1) (pbF st bc v ax te tu (nI k)).2

set_option maxHeartbeats 4000000 in
set_option maxRecDepth 100000 in
theorem c_X5_isSound (l : Launch) (dC : Nat → ClassId) (dI : Nat → Nat → Nat) (cI cF : ClassId) (tr : List (ClassId × FieldType)) (sz : Nat) (o : Nat) (ce : Nat) (lu : Nat) (cl : Nat) (se : Nat) (tu : Int32) (ja : Int32) (re : Int32) (g : Nat) (n : Nat) (xa : Nat) (xt : Nat) (xm : Nat) (wh : Nat) (st : Nat) (xb : Nat) (xc : Nat) (ax : Nat → Int32) (te : Nat → Int32) (me : Nat → Int32) (bc : Nat → Option Nat) (LP : List Nat) (v : Nat → Int64 × Int64) (cn : Nat) (wd : Int32) (xn : Nat) (xf : Nat) (nr : Nat → Int32) (nf : Nat → Int32) (hst : st ∈ LP) (hbc : ∀ k, k < 7 → ∀ a, bc k = some a → a ∈ LP) (hn : n ≤ 12) (hcn : cn ≤ 12) : Met l yX5_isSound wsX5_isSound ({ frames := 5, cells := 156, slots := 312, locals := 124 } : Room) (cPc dC dI ((cI, .int) :: (cF, .object RX1) :: tr) sz ([(o, .inr (iX5, [.ref g, .ref ce, .ref lu, .ref cl, .ref se, .int tu, .int ja, .int re])), (g, .inr (iX2, [.int (nI n), .ref xa, .ref xt, .ref xm, .ref wh, .ref st, .ref xb, .ref xc])), (xa, .inl (cI, 12, .inl (ax))), (xt, .inl (cI, 12, .inl (te))), (xm, .inl (cI, 12, .inl (me))), (xb, .inl (cF, 7, .inr (.inr (.inr (.inr (bc)))))), (cl, .inr (iX0, [.int (nI cn), .int wd, .ref xn, .ref xf])), (xn, .inl (cI, 12, .inl (nr))), (xf, .inl (cI, 12, .inl (nf)))] ++ va_pl LP (fe v)) [.ref o]) (va_Qi (fun (r : Int32) (_ : Unit) => r = isF st bc v ax te me tu n cn wd nr nf) (fun _ _ => True) (va_A ([]) sz)) 156 312 (va_A ([]) sz) := by
  refine Met.ofW (cc := cX5_isSound) (maxL := 1) (ret := (some .boolean)) (by decide) rfl ?_
  intro p e s m args below meth c s₁ B hml hv
  obtain ⟨rfl, hsz, hP, hK, hN⟩ := hv
  have hx := B.exec
  have hb := B.bytes
  have hr := B.returns
  have hts := atoms_spec (ws := wsX5_isSound) B.pre
  have hown : s.vm.findClass RX5 = some m.cls := findClass_of_methodNamed B.named
  have hlocks := B.notSynchronized
  subst hsz
  generalize hAe : va_A [] s.heap.size = A
  have hA : ∀ q : Nat, s.heap.size ≤ q → A q := fun q h => by rw [← hAe]; exact Or.inr h
  have hS : va_S A s.heap s.heap [] := va_S.rf
  have hAn : ∀ q : Nat, q < s.heap.size → ¬ A q := fun q h => by rw [← hAe]; exact notZ h
  have hAg : ∀ q : Nat, A q → s.heap.size ≤ q := fun q h => geZ (hAe ▸ h)
  have hR0 : va_P (dC, dI) vwCl ([(o, .inr (iX5, [.ref g, .ref ce, .ref lu, .ref cl, .ref se, .int tu, .int ja, .int re])), (g, .inr (iX2, [.int (nI n), .ref xa, .ref xt, .ref xm, .ref wh, .ref st, .ref xb, .ref xc])), (xa, .inl (cI, 12, .inl (ax))), (xt, .inl (cI, 12, .inl (te))), (xm, .inl (cI, 12, .inl (me))), (xb, .inl (cF, 7, .inr (.inr (.inr (.inr (bc)))))), (cl, .inr (iX0, [.int (nI cn), .int wd, .ref xn, .ref xf])), (xn, .inl (cI, 12, .inl (nr))), (xf, .inl (cI, 12, .inl (nf)))] ++ va_pl LP (fe v)) s.heap := hP
  have hR : va_P (dC, dI) vwCl ([(o, .inr (iX5, [.ref g, .ref ce, .ref lu, .ref cl, .ref se, .int tu, .int ja, .int re])), (g, .inr (iX2, [.int (nI n), .ref xa, .ref xt, .ref xm, .ref wh, .ref st, .ref xb, .ref xc])), (xa, .inl (cI, 12, .inl (ax))), (xt, .inl (cI, 12, .inl (te))), (xm, .inl (cI, 12, .inl (me))), (xb, .inl (cF, 7, .inr (.inr (.inr (.inr (bc)))))), (cl, .inr (iX0, [.int (nI cn), .int wd, .ref xn, .ref xf])), (xn, .inl (cI, 12, .inl (nr))), (xf, .inl (cI, 12, .inl (nf)))] ++ va_pl LP (fe v)) s.heap := hP
  have hP : va_P (dC, dI) vwCl [] s.heap := fun k q h => by simp at h
  have hD : va_D A [] := ⟨fun i j p q h => by simp at h, fun k q h => by simp at h⟩
  have hl := lv_entry ([.ref o]) (n := 1) (Nat.le_of_ble_eq_true rfl)
  rw [lg_entry_eq]
  generalize (lg_sl ([.ref o]) ++ List.replicate (1 - (lg_sl ([.ref o])).length) Slot.unset).toArray = ls at hl ⊢
  have hl : lv_has ls 1 [(0, .ref o)] := hl
  have hfl_10 := hts (.fieldLink RX5 10 "Greenwheels" "gearing" "LGreenwheels$Gearing;") (by decide +kernel)
  have hin_X5 : ∀ w ∈ u_ws RX5 TX5 8, w ∈ wsX5_isSound := by decide +kernel
  have hfl_30 := hts (.fieldLink RX5 30 "Greenwheels" "claims" "LGreenwheels$Claims;") (by decide +kernel)
  refine lv_aload_n hx hb dX5_isSound_0 rfl (lv_at hl 0 rfl) ?_
  have hPc : va_P (dC, dI) vwCl ([(o, .inr (iX5, [.ref g, .ref ce, .ref lu, .ref cl, .ref se, .int tu, .int ja, .int re])), (g, .inr (iX2, [.int (nI n), .ref xa, .ref xt, .ref xm, .ref wh, .ref st, .ref xb, .ref xc])), (xa, .inl (cI, 12, .inl (ax))), (xt, .inl (cI, 12, .inl (te))), (xm, .inl (cI, 12, .inl (me))), (xb, .inl (cF, 7, .inr (.inr (.inr (.inr (bc))))))] ++ va_pl LP (fe v)) _ := hR.part [0, 1, 2, 3, 4, 5] rfl
  have hFc := frZ hS hA
  refine va_calli (va_runV (As := []) (rest := []) ⟨hx, hb, hml, hown, hts⟩ (c_X5_doMeshesPassAlike l dC dI cI cF tr (s.heap).size o ce lu cl se tu ja re g n xa xt xm wh st xb xc ax te me bc LP v (by assumption) (by assumption) (by assumption)) (cwV 0 hts gX5_isSound_X5_doMeshesPassAlike rfl rfl rfl (by decide +kernel) ⟨Nat.le_of_ble_eq_true rfl, Nat.le_of_ble_eq_true rfl⟩) ⟨cBl, (va_recv hK hPc (ci := iX5) (q0 := 0) rfl rfl), (cPre hPc hK hN)⟩ rfl rfl hl.1 rfl (lv_room (Nat.le_of_ble_eq_true rfl)) dX5_isSound_1 ⟨(Nat.le_of_ble_eq_true rfl), (Nat.le_of_ble_eq_true rfl)⟩) hS (fun q _ h => hFc q h) hFc (fun r_1 u t H1 locs ht hvm hw_r_1 hB hz1 hk1 hS => ?_)
  refine W.widen (k := 156) (n := 312) (by omega) (by omega) ?_
  have hP := keepP hP hk1
  have hR := keepP hR hk1
  generalize H1 = H at hP hR hS ⊢
  have hP : va_P (dC, dI) vwCl ([]) H := hP
  try dsimp only at hw_r_1
  subst hw_r_1
  refine lv_if_eq (tgt := 31) hx hb dX5_isSound_4 (by decide) (fun c_2 => ?_) (fun c_2 => ?_)
  · refine lv_iconst (v := 0) hx hb dX5_isSound_31 (by decide) ?_
    refine W.widen (k := 156) (n := 312) (by omega) (by omega) ?_
    exact W.zret (v := 0) hx hb hr (by first | rfl | simp [narrow] | assumption) (fun t ht hW => ⟨⟨0, (), rfl, (by simp only [isF, ↓reduceIte, c_2]), trivial⟩, hS.F ht⟩) hS.2.2 dX5_isSound_32
  · refine lv_aload_n hx hb dX5_isSound_7 rfl (lv_at hl 0 rfl) ?_
    refine va_get (D := (dC, dI)) (ci := iX5) (v := .ref g) (C := RX5) (T := TX5) (N := 8) hx hb hts hin_X5 hown hK hR 0 rfl rfl 0 (by decide) hfl_10 (fun _ h9 => h9) rfl dX5_isSound_8 ?_
    have hPc : va_P (dC, dI) vwCl ([(g, .inr (iX2, [.int (nI n), .ref xa, .ref xt, .ref xm, .ref wh, .ref st, .ref xb, .ref xc])), (xb, .inl (cF, 7, .inr (.inr (.inr (.inr (bc))))))] ++ va_pl LP (fe v)) _ := hR.part [1, 5] rfl
    have hFc := frZ hS hA
    refine va_calli (va_runV (As := []) (rest := []) ⟨hx, hb, hml, hown, hts⟩ (c_X2_isPeriodRight l dC dI cI cF tr (H).size g n xa xt xm wh st xb xc bc LP v (by assumption) (by assumption)) (cwV 0 hts gX5_isSound_X2_isPeriodRight rfl rfl rfl (by decide +kernel) ⟨Nat.le_of_ble_eq_true rfl, Nat.le_of_ble_eq_true rfl⟩) ⟨cBl, (va_recv hK hPc (ci := iX2) (q0 := 0) rfl rfl), (cPre hPc hK hN)⟩ rfl rfl hl.1 rfl (lv_room (Nat.le_of_ble_eq_true rfl)) dX5_isSound_11 ⟨(Nat.le_of_ble_eq_true rfl), (Nat.le_of_ble_eq_true rfl)⟩) hS (fun q _ h => hFc q h) hFc (fun r_3 u t H1 locs ht hvm hw_r_3 hB hz1 hk1 hS => ?_)
    refine W.widen (k := 156) (n := 312) (Nat.le_refl _) (Nat.le_refl _) ?_
    have hP := keepP hP hk1
    have hR := keepP hR hk1
    generalize H1 = H at hP hR hS ⊢
    have hP : va_P (dC, dI) vwCl ([]) H := hP
    try dsimp only at hw_r_3
    subst hw_r_3
    refine lv_if_eq (tgt := 31) hx hb dX5_isSound_14 (by decide) (fun c_4 => ?_) (fun c_4 => ?_)
    · refine lv_iconst (v := 0) hx hb dX5_isSound_31 (by decide) ?_
      refine W.widen (k := 156) (n := 312) (by omega) (by omega) ?_
      exact W.zret (v := 0) hx hb hr (by first | rfl | simp [narrow] | assumption) (fun t ht hW => ⟨⟨0, (), rfl, (by simp only [isF, ↓reduceIte, c_2, c_4]), trivial⟩, hS.F ht⟩) hS.2.2 dX5_isSound_32
    · refine lv_aload_n hx hb dX5_isSound_17 rfl (lv_at hl 0 rfl) ?_
      refine va_get (D := (dC, dI)) (ci := iX5) (v := .ref cl) (C := RX5) (T := TX5) (N := 8) hx hb hts hin_X5 hown hK hR 0 rfl rfl 3 (by decide) hfl_30 (fun _ h9 => h9) rfl dX5_isSound_18 ?_
      have hPc : va_P (dC, dI) vwCl ([(cl, .inr (iX0, [.int (nI cn), .int wd, .ref xn, .ref xf])), (xn, .inl (cI, 12, .inl (nr))), (xf, .inl (cI, 12, .inl (nf)))]) _ := hR.sub [6, 7, 8] rfl
      have hFc := frZ hS hA
      refine va_calli (va_runV (As := []) (rest := []) ⟨hx, hb, hml, hown, hts⟩ (c_X0_areConsistent l dC dI cI cF tr (H).size cl cn wd xn xf nr nf (by assumption)) (cwV 0 hts gX5_isSound_X0_areConsistent rfl rfl rfl (by decide +kernel) ⟨Nat.le_of_ble_eq_true rfl, Nat.le_of_ble_eq_true rfl⟩) ⟨cBl, (va_recv hK hPc (ci := iX0) (q0 := 0) rfl rfl), (cPre hPc hK hN)⟩ rfl rfl hl.1 rfl (lv_room (Nat.le_of_ble_eq_true rfl)) dX5_isSound_21 ⟨(Nat.le_of_ble_eq_true rfl), (Nat.le_of_ble_eq_true rfl)⟩) hS (fun q _ h => hFc q h) hFc (fun r_5 u t H1 locs ht hvm hw_r_5 hB hz1 hk1 hS => ?_)
      refine W.widen (k := 156) (n := 312) (Nat.le_refl _) (Nat.le_refl _) ?_
      have hP := keepP hP hk1
      have hR := keepP hR hk1
      generalize H1 = H at hP hR hS ⊢
      have hP : va_P (dC, dI) vwCl ([]) H := hP
      try dsimp only at hw_r_5
      subst hw_r_5
      refine lv_if_eq (tgt := 31) hx hb dX5_isSound_24 (by decide) (fun c_6 => ?_) (fun c_6 => ?_)
      · refine lv_iconst (v := 0) hx hb dX5_isSound_31 (by decide) ?_
        refine W.widen (k := 156) (n := 312) (by omega) (by omega) ?_
        exact W.zret (v := 0) hx hb hr (by first | rfl | simp [narrow] | assumption) (fun t ht hW => ⟨⟨0, (), rfl, (by simp only [isF, ↓reduceIte, c_2, c_4, c_6]), trivial⟩, hS.F ht⟩) hS.2.2 dX5_isSound_32
      · refine lv_iconst (v := 1) hx hb dX5_isSound_27 (by decide) ?_
        refine lv_goto (tgt := 32) hx hb dX5_isSound_28 (by decide) ?_
        refine W.widen (k := 156) (n := 312) (by omega) (by omega) ?_
        exact W.zret (v := 1) hx hb hr (by first | rfl | simp [narrow] | assumption) (fun t ht hW => ⟨⟨1, (), rfl, (by simp only [isF, ↓reduceIte, c_2, c_4, c_6]), trivial⟩, hS.F ht⟩) hS.2.2 dX5_isSound_32

set_option maxHeartbeats 4000000 in
set_option maxRecDepth 100000 in
theorem c_X5_mixedAxles (l : Launch) (dC : Nat → ClassId) (dI : Nat → Nat → Nat) (cI cF : ClassId) (tr : List (ClassId × FieldType)) (sz : Nat) (o : Nat) (ce : Nat) (lu : Nat) (cl : Nat) (se : Nat) (tu : Int32) (ja : Int32) (re : Int32) (g : Nat) (n : Nat) (xa : Nat) (xt : Nat) (xm : Nat) (wh : Nat) (st : Nat) (xb : Nat) (xc : Nat) (bc : Nat → Option Nat) (cs : Nat → Int32) (LP : List Nat) (v : Nat → Int64 × Int64) (d : Int64) (hst : st ∈ LP) (hbc : ∀ k, k < 7 → ∀ a, bc k = some a → a ∈ LP) : Met l yX5_mixedAxles wsX5_mixedAxles ({ frames := 5, cells := 56, slots := 112, locals := 124 } : Room) (cPc dC dI ((cI, .int) :: (cF, .object RX1) :: tr) sz ([(o, .inr (iX5, [.ref g, .ref ce, .ref lu, .ref cl, .ref se, .int tu, .int ja, .int re])), (g, .inr (iX2, [.int (nI n), .ref xa, .ref xt, .ref xm, .ref wh, .ref st, .ref xb, .ref xc])), (xb, .inl (cF, 7, .inr (.inr (.inr (.inr (bc)))))), (ce, .inl (cI, 7, .inl (cs)))] ++ va_pl LP (fe v)) [.ref o, .long d]) (va_Ql (fun (r : Int64) (_ : Unit) => r = maL st bc v cs tu d 7) (fun _ _ => True) (va_A ([]) sz)) 56 112 (va_A ([]) sz) := by
  refine Met.ofW (cc := cX5_mixedAxles) (maxL := 7) (ret := (some .long)) (by decide) rfl ?_
  intro p e s m args below meth c s₁ B hml hv
  obtain ⟨rfl, hsz, hP, hK, hN⟩ := hv
  have hx := B.exec
  have hb := B.bytes
  have hr := B.returns
  have hts := atoms_spec (ws := wsX5_mixedAxles) B.pre
  have hown : s.vm.findClass RX5 = some m.cls := findClass_of_methodNamed B.named
  have hlocks := B.notSynchronized
  subst hsz
  generalize hAe : va_A [] s.heap.size = A
  have hA : ∀ q : Nat, s.heap.size ≤ q → A q := fun q h => by rw [← hAe]; exact Or.inr h
  have hS : va_S A s.heap s.heap [] := va_S.rf
  have hAn : ∀ q : Nat, q < s.heap.size → ¬ A q := fun q h => by rw [← hAe]; exact notZ h
  have hAg : ∀ q : Nat, A q → s.heap.size ≤ q := fun q h => geZ (hAe ▸ h)
  have hR0 : va_P (dC, dI) vwCl ([(o, .inr (iX5, [.ref g, .ref ce, .ref lu, .ref cl, .ref se, .int tu, .int ja, .int re])), (g, .inr (iX2, [.int (nI n), .ref xa, .ref xt, .ref xm, .ref wh, .ref st, .ref xb, .ref xc])), (xb, .inl (cF, 7, .inr (.inr (.inr (.inr (bc)))))), (ce, .inl (cI, 7, .inl (cs)))] ++ va_pl LP (fe v)) s.heap := hP
  have hR : va_P (dC, dI) vwCl ([(o, .inr (iX5, [.ref g, .ref ce, .ref lu, .ref cl, .ref se, .int tu, .int ja, .int re])), (g, .inr (iX2, [.int (nI n), .ref xa, .ref xt, .ref xm, .ref wh, .ref st, .ref xb, .ref xc])), (xb, .inl (cF, 7, .inr (.inr (.inr (.inr (bc)))))), (ce, .inl (cI, 7, .inl (cs)))] ++ va_pl LP (fe v)) s.heap := hP
  have hP : va_P (dC, dI) vwCl [] s.heap := fun k q h => by simp at h
  have hD : va_D A [] := ⟨fun i j p q h => by simp at h, fun k q h => by simp at h⟩
  have hl := lv_entry ([.ref o, .long d]) (n := 7) (Nat.le_of_ble_eq_true rfl)
  rw [lg_entry_eq]
  generalize (lg_sl ([.ref o, .long d]) ++ List.replicate (7 - (lg_sl ([.ref o, .long d])).length) Slot.unset).toArray = ls at hl ⊢
  have hl : lv_has ls 7 [(0, .ref o), (1, .long d)] := hl
  have hfl_87 := hts (.fieldLink RX5 87 "Greenwheels" "turns" "I") (by decide +kernel)
  have hin_X5 : ∀ w ∈ u_ws RX5 TX5 8, w ∈ wsX5_mixedAxles := by decide +kernel
  refine lv_lload_n hx hb dX5_mixedAxles_0 rfl (lv_at hl 1 rfl) ?_
  refine lv_lstore_n (lv' := [(3, .long d), (0, .ref o), (1, .long d)]) hx hb dX5_mixedAxles_1 rfl hl (by decide) rfl (fun ls hl => ?_)
  refine lv_iconst (v := 0) hx hb dX5_mixedAxles_2 (by decide) ?_
  refine lv_istore (lv' := [(5, .int 0), (3, .long d), (0, .ref o), (1, .long d)]) hx hb dX5_mixedAxles_3 hl (by decide) rfl (fun ls hl => ?_)
  have K5 : ∀ (NN : Nat), ∀ (k : Nat) (acc : Int64), (7 - k) < NN → (k ≤ 7) → (acc = maL st bc v cs tu d k) → ∀ (H : Heap) (locs : List Loc) (ls : Array Slot), va_P (dC, dI) vwCl ([]) H → va_S A s.heap H locs → lv_has ls 7 [(0, .ref o), (1, .long d), (3, .long acc), (5, .int (nI k))] → W p l e (headSpec wsX5_mixedAxles ({ frames := 5, cells := 56, slots := 112, locals := 124 } : Room)).room s m #[Value.ref o, Value.long d] below meth c H locs (8 * k) (16 * k) (MQ below (va_Ql (fun (r : Int64) (_ : Unit) => r = maL st bc v cs tu d 7) (fun _ _ => True) A) #[Value.ref o, Value.long d] s 56 112 A) (F0 m 5 ls []) := by
    intro NN
    induction NN with
    | zero =>
      intro k acc hmu hk hacc H locs ls hP hS hl
      exact absurd hmu (Nat.not_lt_zero _)
    | succ NN ih5 =>
      intro k acc hmu hk hacc H locs ls hP hS hl
      have hR := keepR hR0 hS hAn
      refine lv_iload hx hb dX5_mixedAxles_5 (lv_at hl 3 rfl) ?_
      refine lv_bipush (v := 7) hx hb dX5_mixedAxles_7 (by decide) ?_
      refine lv_icmp_ge (tgt := 62) hx hb dX5_mixedAxles_9 (by decide) (fun c_1 => ?_) (fun c_1 => ?_)
      · have hke : 7 ≤ k := leK (by omega) (by omega) c_1
        have hkn : k = 7 := by omega
        refine lv_lload_n hx hb dX5_mixedAxles_62 rfl (lv_at hl 2 rfl) ?_
        refine W.widen (k := 56) (n := 112) (by omega) (by omega) ?_
        exact W.lret (v := acc) hx hb hr (fun t ht hW => ⟨⟨acc, (), rfl, (by rw [hacc, hkn]), trivial⟩, hS.F ht⟩) hS.2.2 dX5_mixedAxles_63
      · have hkl : k < 7 := ltK (by omega) (by omega) c_1
        refine lv_iconst (v := 0) hx hb dX5_mixedAxles_12 (by decide) ?_
        refine lv_istore (lv' := [(6, .int 0), (0, .ref o), (1, .long d), (3, .long acc), (5, .int (nI k))]) hx hb dX5_mixedAxles_13 hl (by decide) rfl (fun ls hl => ?_)
        have K15 : ∀ (NN : Nat), ∀ (wz : Nat) (ac2 : Int64), (3 - wz) < NN → (wz ≤ 3) → (ac2 = maI (v (rtA st bc (nI k))) tu acc wz) → ∀ (H : Heap) (locs : List Loc) (ls : Array Slot), va_P (dC, dI) vwCl ([]) H → va_S A s.heap H locs → lv_has ls 7 [(0, .ref o), (1, .long d), (3, .long ac2), (5, .int (nI k)), (6, .int (nI wz))] → W p l e (headSpec wsX5_mixedAxles ({ frames := 5, cells := 56, slots := 112, locals := 124 } : Room)).room s m #[Value.ref o, Value.long d] below meth c H locs (8 * k + 2 * wz) (16 * k + 4 * wz) (MQ below (va_Ql (fun (r : Int64) (_ : Unit) => r = maL st bc v cs tu d 7) (fun _ _ => True) A) #[Value.ref o, Value.long d] s 56 112 A) (F0 m 15 ls []) := by
          intro NN
          induction NN with
          | zero =>
            intro wz ac2 hmu hw hin H locs ls hP hS hl
            exact absurd hmu (Nat.not_lt_zero _)
          | succ NN ih15 =>
            intro wz ac2 hmu hw hin H locs ls hP hS hl
            have hR := keepR hR0 hS hAn
            refine lv_iload hx hb dX5_mixedAxles_15 (lv_at hl 4 rfl) ?_
            refine lv_iconst (v := 3) hx hb dX5_mixedAxles_17 (by decide) ?_
            refine lv_icmp_ge (tgt := 40) hx hb dX5_mixedAxles_18 (by decide) (fun c_2 => ?_) (fun c_2 => ?_)
            · have hwn : wz = 3 := by have h9 := leK (a := 3) (b := wz) (by omega) (by omega) c_2; omega
              refine lv_lload_n hx hb dX5_mixedAxles_40 rfl (lv_at hl 2 rfl) ?_
              refine lv_aload_n hx hb dX5_mixedAxles_41 rfl (lv_at hl 0 rfl) ?_
              refine lv_iload hx hb dX5_mixedAxles_42 (lv_at hl 3 rfl) ?_
              refine lv_aload_n hx hb dX5_mixedAxles_44 rfl (lv_at hl 0 rfl) ?_
              refine va_get (D := (dC, dI)) (ci := iX5) (v := .int tu) (C := RX5) (T := TX5) (N := 8) hx hb hts hin_X5 hown hK hR 0 rfl rfl 5 (by decide) hfl_87 (fun _ h9 => h9) rfl dX5_mixedAxles_45 ?_
              have hPc : va_P (dC, dI) vwCl ([(o, .inr (iX5, [.ref g, .ref ce, .ref lu, .ref cl, .ref se, .int tu, .int ja, .int re])), (g, .inr (iX2, [.int (nI n), .ref xa, .ref xt, .ref xm, .ref wh, .ref st, .ref xb, .ref xc])), (xb, .inl (cF, 7, .inr (.inr (.inr (.inr (bc)))))), (ce, .inl (cI, 7, .inl (cs)))] ++ va_pl LP (fe v)) _ := hR.part [0, 1, 2, 3] rfl
              have hFc := frZ hS hA
              refine va_calli (va_runV (As := [.int (nI k), .int tu]) (rest := [.long ac2]) ⟨hx, hb, hml, hown, hts⟩ (c_X5_cellAt l dC dI cI cF tr (H).size o ce lu cl se tu ja re g n xa xt xm wh st xb xc bc cs LP v (nI k) tu (by assumption) (by assumption)) (cwV 2 hts gX5_mixedAxles_X5_cellAt rfl rfl rfl (by decide +kernel) ⟨Nat.le_of_ble_eq_true rfl, Nat.le_of_ble_eq_true rfl⟩) ⟨cBl, (va_recv hK hPc (ci := iX5) (q0 := 0) rfl rfl), (cPre hPc hK hN)⟩ rfl rfl hl.1 rfl (lv_room (Nat.le_of_ble_eq_true rfl)) dX5_mixedAxles_48 ⟨(by show 8 * k + 2 * wz + 2 ≤ 56; omega), (by show 16 * k + 4 * wz + 4 ≤ 112; omega)⟩) hS (fun q _ h => hFc q h) hFc (fun r_3 u t H1 locs ht hvm hw_r_3 hB hz1 hk1 hS => ?_)
              refine W.widen (k := 8 * k + 2 * wz + 2) (n := 16 * k + 4 * wz + 4) (by omega) (by omega) ?_
              have hP := keepP hP hk1
              have hR := keepP hR hk1
              generalize H1 = H at hP hR hS ⊢
              have hP : va_P (dC, dI) vwCl ([]) H := hP
              try dsimp only at hw_r_3
              subst hw_r_3
              refine lv_i2l hx hb dX5_mixedAxles_51 rfl ?_
              have hPc : va_P (dC, dI) vwCl [] H := nilP
              have hFc := frZ hS hA
              refine va_calll (va_runS (As := [.long ac2, .long ((caF (v (rtA st bc (nI k))) tu (atF 7 cs (nI k))).toInt64)]) (rest := []) ⟨hx, hb, hml, hown, hts⟩ (c_X5_mixed l dC dI cI cF tr (H).size ac2 ((caF (v (rtA st bc (nI k))) tu (atF 7 cs (nI k))).toInt64)) (va_cwS 2 hts gX5_mixedAxles_X5_mixed rfl rfl rfl (by decide +kernel) ⟨Nat.le_of_ble_eq_true rfl, Nat.le_of_ble_eq_true rfl⟩) ⟨cBl, (cPre hPc hK hN)⟩ rfl rfl hl.1 rfl (lv_room (Nat.le_of_ble_eq_true rfl)) dX5_mixedAxles_52 ⟨(by show 8 * k + 2 * wz + 2 + 0 ≤ 56; omega), (by show 16 * k + 4 * wz + 4 + 0 ≤ 112; omega)⟩) hS (fun q _ h => hFc q h) hFc (fun r_4 u t H1 locs ht hvm hw_r_4 hB hz1 hk1 hS => ?_)
              refine W.widen (k := 8 * k + 2 * wz + 2) (n := 16 * k + 4 * wz + 4) (Nat.le_refl _) (Nat.le_refl _) ?_
              have hP := keepP hP hk1
              have hR := keepP hR hk1
              generalize H1 = H at hP hR hS ⊢
              have hP : va_P (dC, dI) vwCl ([]) H := hP
              try dsimp only at hw_r_4
              subst hw_r_4
              refine lv_lstore_n (lv' := [(3, .long (mxF ac2 ((caF (v (rtA st bc (nI k))) tu (atF 7 cs (nI k))).toInt64))), (0, .ref o), (1, .long d), (5, .int (nI k)), (6, .int (nI wz))]) hx hb dX5_mixedAxles_55 rfl hl (by decide) rfl (fun ls hl => ?_)
              refine lv_iinc (v := nI (k + 1)) (lv' := [(5, .int (nI (k + 1))), (3, .long (mxF ac2 ((caF (v (rtA st bc (nI k))) tu (atF 7 cs (nI k))).toInt64))), (0, .ref o), (1, .long d), (6, .int (nI wz))]) hx hb dX5_mixedAxles_56 hl (k := 3) rfl (nI_1 k) (by decide) rfl (fun ls hl => ?_)
              refine lv_goto (tgt := 5) hx hb dX5_mixedAxles_59 (by decide) ?_
              refine W.widen (k := 8 * (k + 1)) (n := 16 * (k + 1)) (by omega) (by omega) ?_
              exact ih5 (k + 1) (mxF ac2 ((caF (v (rtA st bc (nI k))) tu (atF 7 cs (nI k))).toInt64)) (by omega) hkl (by rw [hin, hwn, hacc]; rfl) _ _ ls hP hS (lv_sub hl [2, 3, 1, 0] rfl)
            · have hwl : wz < 3 := ltK (by omega) (by omega) c_2
              refine lv_lload_n hx hb dX5_mixedAxles_21 rfl (lv_at hl 2 rfl) ?_
              refine lv_aload_n hx hb dX5_mixedAxles_22 rfl (lv_at hl 0 rfl) ?_
              refine lv_iload hx hb dX5_mixedAxles_23 (lv_at hl 3 rfl) ?_
              refine lv_iload hx hb dX5_mixedAxles_25 (lv_at hl 4 rfl) ?_
              have hPc : va_P (dC, dI) vwCl ([(o, .inr (iX5, [.ref g, .ref ce, .ref lu, .ref cl, .ref se, .int tu, .int ja, .int re])), (g, .inr (iX2, [.int (nI n), .ref xa, .ref xt, .ref xm, .ref wh, .ref st, .ref xb, .ref xc])), (xb, .inl (cF, 7, .inr (.inr (.inr (.inr (bc))))))] ++ va_pl LP (fe v)) _ := hR.part [0, 1, 2] rfl
              have hFc := frZ hS hA
              refine va_callr (va_runV (As := [.int (nI k), .int (nI wz)]) (rest := [.long ac2]) ⟨hx, hb, hml, hown, hts⟩ (c_X5_axleFraction l dC dI cI cF tr (H).size o ce lu cl se tu ja re g n xa xt xm wh st xb xc bc LP v (nI k) (nI wz) (by assumption) (by assumption)) (cwV 2 hts gX5_mixedAxles_X5_axleFraction rfl rfl rfl (by decide +kernel) ⟨Nat.le_of_ble_eq_true rfl, Nat.le_of_ble_eq_true rfl⟩) ⟨cBl, (va_recv hK hPc (ci := iX5) (q0 := 0) rfl rfl), (cPre hPc hK hN)⟩ rfl rfl hl.1 rfl (lv_room (Nat.le_of_ble_eq_true rfl)) dX5_mixedAxles_27 ⟨(by show 8 * k + 2 * wz + 2 ≤ 56; omega), (by show 16 * k + 4 * wz + 4 ≤ 112; omega)⟩) hS (fun q _ h => hFc q h) hFc (fun u r_5 t H1 locs ht hvm hw_r_5 hB hz1 hk1 hS => ?_)
              refine W.widen (k := 8 * k + 2 * wz + 2) (n := 16 * k + 4 * wz + 4) (by omega) (by omega) ?_
              have hP := keepP hP hk1
              have hR := keepP hR hk1
              have hBn := True.intro
              rw [ht] at hB
              have hT : va_P (dC, dI) vwCl ([(r_5, .inr (iX1, [.long ((afF (v (rtA st bc (nI k))) tu (nI wz)).1), .long ((afF (v (rtA st bc (nI k))) tu (nI wz)).2)]))]) H1 := hB
              generalize H1 = H at hP hR hT hS ⊢
              have hP : va_P (dC, dI) vwCl ([]) H := hP
              try dsimp only at hw_r_5
              have hPc : va_P (dC, dI) vwCl ([(r_5, .inr (iX1, [.long ((afF (v (rtA st bc (nI k))) tu (nI wz)).1), .long ((afF (v (rtA st bc (nI k))) tu (nI wz)).2)]))]) _ := hT.sub [0] rfl
              have hFc := frZ hS hA
              refine va_calll (va_runS (As := [.long ac2, .ref r_5]) (rest := []) ⟨hx, hb, hml, hown, hts⟩ (c_X5_mixedFraction l dC dI cI cF tr (H).size ac2 r_5 ((afF (v (rtA st bc (nI k))) tu (nI wz)).1) ((afF (v (rtA st bc (nI k))) tu (nI wz)).2)) (va_cwS 2 hts gX5_mixedAxles_X5_mixedFraction rfl rfl rfl (by decide +kernel) ⟨Nat.le_of_ble_eq_true rfl, Nat.le_of_ble_eq_true rfl⟩) ⟨cBl, (cPre hPc hK hN)⟩ rfl rfl hl.1 rfl (lv_room (Nat.le_of_ble_eq_true rfl)) dX5_mixedAxles_30 ⟨(by show 8 * k + 2 * wz + 2 + 0 ≤ 56; omega), (by show 16 * k + 4 * wz + 4 + 0 ≤ 112; omega)⟩) hS (fun q _ h => hFc q h) hFc (fun r_6 u t H1 locs ht hvm hw_r_6 hB hz1 hk1 hS => ?_)
              refine W.widen (k := 8 * k + 2 * wz + 2) (n := 16 * k + 4 * wz + 4) (Nat.le_refl _) (Nat.le_refl _) ?_
              have hP := keepP hP hk1
              have hR := keepP hR hk1
              have hT := keepP hT hk1
              generalize H1 = H at hP hR hT hS ⊢
              have hP : va_P (dC, dI) vwCl ([]) H := hP
              try dsimp only at hw_r_6
              subst hw_r_6
              refine lv_lstore_n (lv' := [(3, .long (mxF (mxF ac2 ((afF (v (rtA st bc (nI k))) tu (nI wz)).1)) ((afF (v (rtA st bc (nI k))) tu (nI wz)).2))), (0, .ref o), (1, .long d), (5, .int (nI k)), (6, .int (nI wz))]) hx hb dX5_mixedAxles_33 rfl hl (by decide) rfl (fun ls hl => ?_)
              refine lv_iinc (v := nI (wz + 1)) (lv' := [(6, .int (nI (wz + 1))), (3, .long (mxF (mxF ac2 ((afF (v (rtA st bc (nI k))) tu (nI wz)).1)) ((afF (v (rtA st bc (nI k))) tu (nI wz)).2))), (0, .ref o), (1, .long d), (5, .int (nI k))]) hx hb dX5_mixedAxles_34 hl (k := 4) rfl (nI_1 wz) (by decide) rfl (fun ls hl => ?_)
              refine lv_goto (tgt := 15) hx hb dX5_mixedAxles_37 (by decide) ?_
              refine W.widen (k := 8 * k + 2 * (wz + 1)) (n := 16 * k + 4 * (wz + 1)) (by omega) (by omega) ?_
              exact ih15 (wz + 1) (mxF (mxF ac2 ((afF (v (rtA st bc (nI k))) tu (nI wz)).1)) ((afF (v (rtA st bc (nI k))) tu (nI wz)).2)) (by omega) hwl (by rw [hin]; rfl) _ _ ls hP hS (lv_sub hl [2, 3, 1, 4, 0] rfl)
        refine W.widen (k := 8 * k + 2 * 0) (n := 16 * k + 4 * 0) (by omega) (by omega) ?_
        exact K15 (3 - 0 + 1) 0 acc (by omega) (Nat.zero_le _) rfl _ _ ls hP hS (lv_sub hl [1, 2, 3, 4, 0] rfl)
  refine W.widen (k := 8 * 0) (n := 16 * 0) (by omega) (by omega) ?_
  exact K5 (7 - 0 + 1) 0 d (by omega) (Nat.zero_le _) rfl _ _ ls hP hS (lv_sub hl [2, 3, 1, 0] rfl)

set_option maxHeartbeats 4000000 in
set_option maxRecDepth 100000 in
theorem c_X5_mixedWheels (l : Launch) (dC : Nat → ClassId) (dI : Nat → Nat → Nat) (cI cF : ClassId) (tr : List (ClassId × FieldType)) (sz : Nat) (o : Nat) (ce : Nat) (lu : Nat) (cl : Nat) (se : Nat) (tu : Int32) (ja : Int32) (re : Int32) (g : Nat) (n : Nat) (xa : Nat) (xt : Nat) (xm : Nat) (wh : Nat) (st : Nat) (xb : Nat) (xc : Nat) (ax : Nat → Int32) (te : Nat → Int32) (me : Nat → Int32) (bc : Nat → Option Nat) (LP : List Nat) (v : Nat → Int64 × Int64) (d : Int64) (hst : st ∈ LP) (hbc : ∀ k, k < 7 → ∀ a, bc k = some a → a ∈ LP) (hn : n ≤ 12) : Met l yX5_mixedWheels wsX5_mixedWheels ({ frames := 4, cells := 12, slots := 24, locals := 101 } : Room) (cPc dC dI ((cI, .int) :: (cF, .object RX1) :: tr) sz ([(o, .inr (iX5, [.ref g, .ref ce, .ref lu, .ref cl, .ref se, .int tu, .int ja, .int re])), (g, .inr (iX2, [.int (nI n), .ref xa, .ref xt, .ref xm, .ref wh, .ref st, .ref xb, .ref xc])), (xa, .inl (cI, 12, .inl (ax))), (xt, .inl (cI, 12, .inl (te))), (xm, .inl (cI, 12, .inl (me))), (xb, .inl (cF, 7, .inr (.inr (.inr (.inr (bc))))))] ++ va_pl LP (fe v)) [.ref o, .long d]) (va_Ql (fun (r : Int64) (_ : Unit) => r = mwL st bc v ax te me tu d n) (fun _ _ => True) (va_A ([]) sz)) 12 24 (va_A ([]) sz) := by
  refine Met.ofW (cc := cX5_mixedWheels) (maxL := 7) (ret := (some .long)) (by decide) rfl ?_
  intro p e s m args below meth c s₁ B hml hv
  obtain ⟨rfl, hsz, hP, hK, hN⟩ := hv
  have hx := B.exec
  have hb := B.bytes
  have hr := B.returns
  have hts := atoms_spec (ws := wsX5_mixedWheels) B.pre
  have hown : s.vm.findClass RX5 = some m.cls := findClass_of_methodNamed B.named
  have hlocks := B.notSynchronized
  subst hsz
  generalize hAe : va_A [] s.heap.size = A
  have hA : ∀ q : Nat, s.heap.size ≤ q → A q := fun q h => by rw [← hAe]; exact Or.inr h
  have hS : va_S A s.heap s.heap [] := va_S.rf
  have hAn : ∀ q : Nat, q < s.heap.size → ¬ A q := fun q h => by rw [← hAe]; exact notZ h
  have hAg : ∀ q : Nat, A q → s.heap.size ≤ q := fun q h => geZ (hAe ▸ h)
  have hR0 : va_P (dC, dI) vwCl ([(o, .inr (iX5, [.ref g, .ref ce, .ref lu, .ref cl, .ref se, .int tu, .int ja, .int re])), (g, .inr (iX2, [.int (nI n), .ref xa, .ref xt, .ref xm, .ref wh, .ref st, .ref xb, .ref xc])), (xa, .inl (cI, 12, .inl (ax))), (xt, .inl (cI, 12, .inl (te))), (xm, .inl (cI, 12, .inl (me))), (xb, .inl (cF, 7, .inr (.inr (.inr (.inr (bc))))))] ++ va_pl LP (fe v)) s.heap := hP
  have hR : va_P (dC, dI) vwCl ([(o, .inr (iX5, [.ref g, .ref ce, .ref lu, .ref cl, .ref se, .int tu, .int ja, .int re])), (g, .inr (iX2, [.int (nI n), .ref xa, .ref xt, .ref xm, .ref wh, .ref st, .ref xb, .ref xc])), (xa, .inl (cI, 12, .inl (ax))), (xt, .inl (cI, 12, .inl (te))), (xm, .inl (cI, 12, .inl (me))), (xb, .inl (cF, 7, .inr (.inr (.inr (.inr (bc))))))] ++ va_pl LP (fe v)) s.heap := hP
  have hP : va_P (dC, dI) vwCl [] s.heap := fun k q h => by simp at h
  have hD : va_D A [] := ⟨fun i j p q h => by simp at h, fun k q h => by simp at h⟩
  have hl := lv_entry ([.ref o, .long d]) (n := 7) (Nat.le_of_ble_eq_true rfl)
  rw [lg_entry_eq]
  generalize (lg_sl ([.ref o, .long d]) ++ List.replicate (7 - (lg_sl ([.ref o, .long d])).length) Slot.unset).toArray = ls at hl ⊢
  have hl : lv_has ls 7 [(0, .ref o), (1, .long d)] := hl
  have hfl_10 := hts (.fieldLink RX5 10 "Greenwheels" "gearing" "LGreenwheels$Gearing;") (by decide +kernel)
  have hin_X5 : ∀ w ∈ u_ws RX5 TX5 8, w ∈ wsX5_mixedWheels := by decide +kernel
  have hfl_53 := hts (.fieldLink RX5 53 "Greenwheels$Gearing" "wheels" "I") (by decide +kernel)
  have hin_X2 : ∀ w ∈ u_ws RX2 TX2 8, w ∈ wsX5_mixedWheels := by decide +kernel
  refine lv_lload_n hx hb dX5_mixedWheels_0 rfl (lv_at hl 1 rfl) ?_
  refine lv_lstore_n (lv' := [(3, .long d), (0, .ref o), (1, .long d)]) hx hb dX5_mixedWheels_1 rfl hl (by decide) rfl (fun ls hl => ?_)
  refine lv_iconst (v := 0) hx hb dX5_mixedWheels_2 (by decide) ?_
  refine lv_istore (lv' := [(5, .int 0), (3, .long d), (0, .ref o), (1, .long d)]) hx hb dX5_mixedWheels_3 hl (by decide) rfl (fun ls hl => ?_)
  have K5 : ∀ (NN : Nat), ∀ (k : Nat) (acc : Int64), (n - k) < NN → (k ≤ n) → (acc = mwL st bc v ax te me tu d k) → ∀ (H : Heap) (locs : List Loc) (ls : Array Slot), va_P (dC, dI) vwCl ([]) H → va_S A s.heap H locs → lv_has ls 7 [(0, .ref o), (1, .long d), (3, .long acc), (5, .int (nI k))] → W p l e (headSpec wsX5_mixedWheels ({ frames := 4, cells := 12, slots := 24, locals := 101 } : Room)).room s m #[Value.ref o, Value.long d] below meth c H locs (k) (2 * k) (MQ below (va_Ql (fun (r : Int64) (_ : Unit) => r = mwL st bc v ax te me tu d n) (fun _ _ => True) A) #[Value.ref o, Value.long d] s 12 24 A) (F0 m 5 ls []) := by
    intro NN
    induction NN with
    | zero =>
      intro k acc hmu hk hacc H locs ls hP hS hl
      exact absurd hmu (Nat.not_lt_zero _)
    | succ NN ih5 =>
      intro k acc hmu hk hacc H locs ls hP hS hl
      have hR := keepR hR0 hS hAn
      refine lv_iload hx hb dX5_mixedWheels_5 (lv_at hl 3 rfl) ?_
      refine lv_aload_n hx hb dX5_mixedWheels_7 rfl (lv_at hl 0 rfl) ?_
      refine va_get (D := (dC, dI)) (ci := iX5) (v := .ref g) (C := RX5) (T := TX5) (N := 8) hx hb hts hin_X5 hown hK hR 0 rfl rfl 0 (by decide) hfl_10 (fun _ h9 => h9) rfl dX5_mixedWheels_8 ?_
      refine va_get (D := (dC, dI)) (ci := iX2) (v := .int (nI n)) (C := RX2) (T := TX2) (N := 8) hx hb hts hin_X2 hown hK hR 1 rfl rfl 0 (by decide) hfl_53 (fun _ h9 => h9) rfl dX5_mixedWheels_11 ?_
      refine lv_icmp_ge (tgt := 63) hx hb dX5_mixedWheels_14 (by decide) (fun c_1 => ?_) (fun c_1 => ?_)
      · have hke : n ≤ k := leK (by omega) (by omega) c_1
        have hkn : k = n := by omega
        refine lv_lload_n hx hb dX5_mixedWheels_63 rfl (lv_at hl 2 rfl) ?_
        refine W.widen (k := 12) (n := 24) (by omega) (by omega) ?_
        exact W.lret (v := acc) hx hb hr (fun t ht hW => ⟨⟨acc, (), rfl, (by rw [hacc, hkn]), trivial⟩, hS.F ht⟩) hS.2.2 dX5_mixedWheels_64
      · have hkl : k < n := ltK (by omega) (by omega) c_1
        refine lv_iconst (v := 0) hx hb dX5_mixedWheels_17 (by decide) ?_
        refine lv_istore (lv' := [(6, .int 0), (0, .ref o), (1, .long d), (3, .long acc), (5, .int (nI k))]) hx hb dX5_mixedWheels_18 hl (by decide) rfl (fun ls hl => ?_)
        have K20 : ∀ (NN : Nat), ∀ (wz : Nat) (ac2 : Int64), (4 - wz) < NN → (wz ≤ 4) → (ac2 = mwI ax te me bc k acc wz) → ∀ (H : Heap) (locs : List Loc) (ls : Array Slot), va_P (dC, dI) vwCl ([]) H → va_S A s.heap H locs → lv_has ls 7 [(0, .ref o), (1, .long d), (3, .long ac2), (5, .int (nI k)), (6, .int (nI wz))] → W p l e (headSpec wsX5_mixedWheels ({ frames := 4, cells := 12, slots := 24, locals := 101 } : Room)).room s m #[Value.ref o, Value.long d] below meth c H locs (k) (2 * k) (MQ below (va_Ql (fun (r : Int64) (_ : Unit) => r = mwL st bc v ax te me tu d n) (fun _ _ => True) A) #[Value.ref o, Value.long d] s 12 24 A) (F0 m 20 ls []) := by
          intro NN
          induction NN with
          | zero =>
            intro wz ac2 hmu hw hin H locs ls hP hS hl
            exact absurd hmu (Nat.not_lt_zero _)
          | succ NN ih20 =>
            intro wz ac2 hmu hw hin H locs ls hP hS hl
            have hR := keepR hR0 hS hAn
            refine lv_iload hx hb dX5_mixedWheels_20 (lv_at hl 4 rfl) ?_
            refine lv_iconst (v := 4) hx hb dX5_mixedWheels_22 (by decide) ?_
            refine lv_icmp_ge (tgt := 46) hx hb dX5_mixedWheels_23 (by decide) (fun c_2 => ?_) (fun c_2 => ?_)
            · have hwn : wz = 4 := by have h9 := leK (a := 4) (b := wz) (by omega) (by omega) c_2; omega
              refine lv_lload_n hx hb dX5_mixedWheels_46 rfl (lv_at hl 2 rfl) ?_
              refine lv_aload_n hx hb dX5_mixedWheels_47 rfl (lv_at hl 0 rfl) ?_
              refine lv_iload hx hb dX5_mixedWheels_48 (lv_at hl 3 rfl) ?_
              have hPc : va_P (dC, dI) vwCl ([(o, .inr (iX5, [.ref g, .ref ce, .ref lu, .ref cl, .ref se, .int tu, .int ja, .int re])), (g, .inr (iX2, [.int (nI n), .ref xa, .ref xt, .ref xm, .ref wh, .ref st, .ref xb, .ref xc])), (xa, .inl (cI, 12, .inl (ax))), (xt, .inl (cI, 12, .inl (te))), (xb, .inl (cF, 7, .inr (.inr (.inr (.inr (bc))))))] ++ va_pl LP (fe v)) _ := hR.part [0, 1, 2, 3, 5] rfl
              have hFc := frZ hS hA
              have hz0 := hS.1
              refine va_callr (va_runV (As := [.int (nI k)]) (rest := [.long ac2]) ⟨hx, hb, hml, hown, hts⟩ (c_X5_passedBy l dC dI cI cF tr (H).size o ce lu cl se tu ja re g n xa xt xm wh st xb xc ax te bc LP v (nI k) (by assumption) (by assumption)) (cwV 1 hts gX5_mixedWheels_X5_passedBy rfl rfl rfl (by decide +kernel) ⟨Nat.le_of_ble_eq_true rfl, Nat.le_of_ble_eq_true rfl⟩) ⟨cBl, (va_recv hK hPc (ci := iX5) (q0 := 0) rfl rfl), (cPre hPc hK hN)⟩ rfl rfl hl.1 rfl (lv_room (Nat.le_of_ble_eq_true rfl)) dX5_mixedWheels_50 ⟨(by show k + 1 ≤ 12; omega), (by show 2 * k + 2 ≤ 24; omega)⟩) hS (fun q _ h => hFc q h) hFc (fun u r_3 t H1 locs ht hvm hw_r_3 hB hz1 hk1 hS => ?_)
              refine W.widen (k := k + 1) (n := 2 * k + 2) (by omega) (by omega) ?_
              have hP := keepP hP hk1
              have hR := keepP hR hk1
              obtain ⟨hB, hBn⟩ := hB
              rw [ht] at hB
              have hGe_r_3 : s.heap.size ≤ r_3 := Nat.le_trans hz0 hBn
              have hT : va_P (dC, dI) vwCl ([(r_3, .inr (iX1, [.long ((paF (v (rtA st bc (atF 12 ax (nI k)))) tu (atF 12 te (nI k))).1), .long ((paF (v (rtA st bc (atF 12 ax (nI k)))) tu (atF 12 te (nI k))).2)]))]) H1 := hB
              generalize H1 = H at hP hR hT hS ⊢
              have hP : va_P (dC, dI) vwCl ([]) H := hP
              try dsimp only at hw_r_3
              have hPc : va_P (dC, dI) vwCl ([(r_3, .inr (iX1, [.long ((paF (v (rtA st bc (atF 12 ax (nI k)))) tu (atF 12 te (nI k))).1), .long ((paF (v (rtA st bc (atF 12 ax (nI k)))) tu (atF 12 te (nI k))).2)]))]) _ := hT.sub [0] rfl
              have hFc := frZ hS hA
              refine va_calll (va_runS (As := [.long ac2, .ref r_3]) (rest := []) ⟨hx, hb, hml, hown, hts⟩ (c_X5_mixedFraction l dC dI cI cF tr (H).size ac2 r_3 ((paF (v (rtA st bc (atF 12 ax (nI k)))) tu (atF 12 te (nI k))).1) ((paF (v (rtA st bc (atF 12 ax (nI k)))) tu (atF 12 te (nI k))).2)) (va_cwS 2 hts gX5_mixedWheels_X5_mixedFraction rfl rfl rfl (by decide +kernel) ⟨Nat.le_of_ble_eq_true rfl, Nat.le_of_ble_eq_true rfl⟩) ⟨cBl, (cPre hPc hK hN)⟩ rfl rfl hl.1 rfl (lv_room (Nat.le_of_ble_eq_true rfl)) dX5_mixedWheels_53 ⟨(by show k + 1 + 0 ≤ 12; omega), (by show 2 * k + 2 + 0 ≤ 24; omega)⟩) hS (fun q _ h => hFc q h) hFc (fun r_4 u t H1 locs ht hvm hw_r_4 hB hz1 hk1 hS => ?_)
              refine W.widen (k := k + 1) (n := 2 * k + 2) (Nat.le_refl _) (Nat.le_refl _) ?_
              have hP := keepP hP hk1
              have hR := keepP hR hk1
              have hT := keepP hT hk1
              generalize H1 = H at hP hR hT hS ⊢
              have hP : va_P (dC, dI) vwCl ([]) H := hP
              try dsimp only at hw_r_4
              subst hw_r_4
              refine lv_lstore_n (lv' := [(3, .long (mxF (mxF ac2 ((paF (v (rtA st bc (atF 12 ax (nI k)))) tu (atF 12 te (nI k))).1)) ((paF (v (rtA st bc (atF 12 ax (nI k)))) tu (atF 12 te (nI k))).2))), (0, .ref o), (1, .long d), (5, .int (nI k)), (6, .int (nI wz))]) hx hb dX5_mixedWheels_56 rfl hl (by decide) rfl (fun ls hl => ?_)
              refine lv_iinc (v := nI (k + 1)) (lv' := [(5, .int (nI (k + 1))), (3, .long (mxF (mxF ac2 ((paF (v (rtA st bc (atF 12 ax (nI k)))) tu (atF 12 te (nI k))).1)) ((paF (v (rtA st bc (atF 12 ax (nI k)))) tu (atF 12 te (nI k))).2))), (0, .ref o), (1, .long d), (6, .int (nI wz))]) hx hb dX5_mixedWheels_57 hl (k := 3) rfl (nI_1 k) (by decide) rfl (fun ls hl => ?_)
              refine lv_goto (tgt := 5) hx hb dX5_mixedWheels_60 (by decide) ?_
              refine W.widen (k := k + 1) (n := 2 * (k + 1)) (by omega) (by omega) ?_
              exact ih5 (k + 1) (mxF (mxF ac2 ((paF (v (rtA st bc (atF 12 ax (nI k)))) tu (atF 12 te (nI k))).1)) ((paF (v (rtA st bc (atF 12 ax (nI k)))) tu (atF 12 te (nI k))).2)) (by omega) hkl (by rw [hin, hwn, hacc]; rfl) _ _ ls hP hS (lv_sub hl [2, 3, 1, 0] rfl)
            · have hwl : wz < 4 := ltK (by omega) (by omega) c_2
              refine lv_lload_n hx hb dX5_mixedWheels_26 rfl (lv_at hl 2 rfl) ?_
              refine lv_aload_n hx hb dX5_mixedWheels_27 rfl (lv_at hl 0 rfl) ?_
              refine lv_iload hx hb dX5_mixedWheels_28 (lv_at hl 3 rfl) ?_
              refine lv_iload hx hb dX5_mixedWheels_30 (lv_at hl 4 rfl) ?_
              have hPc : va_P (dC, dI) vwCl ([(o, .inr (iX5, [.ref g, .ref ce, .ref lu, .ref cl, .ref se, .int tu, .int ja, .int re])), (g, .inr (iX2, [.int (nI n), .ref xa, .ref xt, .ref xm, .ref wh, .ref st, .ref xb, .ref xc])), (xa, .inl (cI, 12, .inl (ax))), (xt, .inl (cI, 12, .inl (te))), (xm, .inl (cI, 12, .inl (me))), (xb, .inl (cF, 7, .inr (.inr (.inr (.inr (bc))))))]) _ := hR.sub [0, 1, 2, 3, 4, 5] rfl
              have hFc := frZ hS hA
              refine va_calli (va_runV (As := [.int (nI k), .int (nI wz)]) (rest := [.long ac2]) ⟨hx, hb, hml, hown, hts⟩ (c_p_X5_ofWheel l dC dI cI cF tr (H).size o ce lu cl se tu ja re g n xa xt xm wh st xb xc ax te me bc (nI k) (nI wz) (winW hkl (by omega)) (winK (b := 3) (by omega) (by decide))) (cwV 2 hts gX5_mixedWheels_X5_ofWheel rfl rfl rfl (by decide +kernel) ⟨Nat.le_of_ble_eq_true rfl, Nat.le_of_ble_eq_true rfl⟩) ⟨cBl, (va_recv hK hPc (ci := iX5) (q0 := 0) rfl rfl), (cPre hPc hK hN)⟩ rfl rfl hl.1 rfl (lv_room (Nat.le_of_ble_eq_true rfl)) dX5_mixedWheels_32 ⟨(by show k + 0 ≤ 12; omega), (by show 2 * k + 0 ≤ 24; omega)⟩) hS (fun q _ h => hFc q h) hFc (fun r_5 u t H1 locs ht hvm hw_r_5 hB hz1 hk1 hS => ?_)
              refine W.widen (k := k) (n := 2 * k) (Nat.le_refl _) (Nat.le_refl _) ?_
              have hP := keepP hP hk1
              have hR := keepP hR hk1
              generalize H1 = H at hP hR hS ⊢
              have hP : va_P (dC, dI) vwCl ([]) H := hP
              try dsimp only at hw_r_5
              subst hw_r_5
              refine lv_i2l hx hb dX5_mixedWheels_35 rfl ?_
              have hPc : va_P (dC, dI) vwCl [] H := nilP
              have hFc := frZ hS hA
              refine va_calll (va_runS (As := [.long ac2, .long ((owF ax te me bc (nI k) (nI wz)).toInt64)]) (rest := []) ⟨hx, hb, hml, hown, hts⟩ (c_X5_mixed l dC dI cI cF tr (H).size ac2 ((owF ax te me bc (nI k) (nI wz)).toInt64)) (va_cwS 2 hts gX5_mixedWheels_X5_mixed rfl rfl rfl (by decide +kernel) ⟨Nat.le_of_ble_eq_true rfl, Nat.le_of_ble_eq_true rfl⟩) ⟨cBl, (cPre hPc hK hN)⟩ rfl rfl hl.1 rfl (lv_room (Nat.le_of_ble_eq_true rfl)) dX5_mixedWheels_36 ⟨(by show k + 0 ≤ 12; omega), (by show 2 * k + 0 ≤ 24; omega)⟩) hS (fun q _ h => hFc q h) hFc (fun r_6 u t H1 locs ht hvm hw_r_6 hB hz1 hk1 hS => ?_)
              refine W.widen (k := k) (n := 2 * k) (Nat.le_refl _) (Nat.le_refl _) ?_
              have hP := keepP hP hk1
              have hR := keepP hR hk1
              generalize H1 = H at hP hR hS ⊢
              have hP : va_P (dC, dI) vwCl ([]) H := hP
              try dsimp only at hw_r_6
              subst hw_r_6
              refine lv_lstore_n (lv' := [(3, .long (mxF ac2 ((owF ax te me bc (nI k) (nI wz)).toInt64))), (0, .ref o), (1, .long d), (5, .int (nI k)), (6, .int (nI wz))]) hx hb dX5_mixedWheels_39 rfl hl (by decide) rfl (fun ls hl => ?_)
              refine lv_iinc (v := nI (wz + 1)) (lv' := [(6, .int (nI (wz + 1))), (3, .long (mxF ac2 ((owF ax te me bc (nI k) (nI wz)).toInt64))), (0, .ref o), (1, .long d), (5, .int (nI k))]) hx hb dX5_mixedWheels_40 hl (k := 4) rfl (nI_1 wz) (by decide) rfl (fun ls hl => ?_)
              refine lv_goto (tgt := 20) hx hb dX5_mixedWheels_43 (by decide) ?_
              refine W.widen (k := k) (n := 2 * k) (by omega) (by omega) ?_
              exact ih20 (wz + 1) (mxF ac2 ((owF ax te me bc (nI k) (nI wz)).toInt64)) (by omega) hwl (by rw [hin]; rfl) _ _ ls hP hS (lv_sub hl [2, 3, 1, 4, 0] rfl)
        refine W.widen (k := k) (n := 2 * k) (by omega) (by omega) ?_
        exact K20 (4 - 0 + 1) 0 acc (by omega) (Nat.zero_le _) rfl _ _ ls hP hS (lv_sub hl [1, 2, 3, 4, 0] rfl)
  refine W.widen (k := 0) (n := 2 * 0) (by omega) (by omega) ?_
  exact K5 (n - 0 + 1) 0 d (by omega) (Nat.zero_le _) rfl _ _ ls hP hS (lv_sub hl [2, 3, 1, 0] rfl)

def dgH (F : Int32 → Int32) : Nat → Int64
  | 0 => 5087
  | k + 1 => mxF (dgH F k) (F (nI k)).toInt64
def dgI (F : Int32 → Int32 → Int32) (k : Nat) (d : Int64) : Nat → Int64
  | 0 => d
  | w + 1 => mxF (dgI F k d w) (F (nI k) (nI w)).toInt64
def dgO (F : Int32 → Int32 → Int32) (d : Int64) : Nat → Int64
  | 0 => d
  | k + 1 => dgI F k (dgO F d k) 4

section DGS
variable (st : Nat) (bc : Nat → Option Nat) (v : Nat → Int64 × Int64) (ax te me : Nat → Int32) (tu : Int32) (n cn : Nat) (wd ja re : Int32) (nr nf pc ag le gr cs : Nat → Int32)
def dg4 : Int64 := mxF (mwL st bc v ax te me tu (maL st bc v cs tu (dgH (hsF n cn me bc tu wd ja re nr pc) 9) 7) n) (ptL st bc v 7)
def dg5 : Int64 := dgO (olF pc ag le gr) (dg4 st bc v ax te me tu n cn wd ja re nr pc cs) 6
def dg6 : Int64 := dgO (ocF cn wd nr) (dg5 st bc v ax te me tu n cn wd ja re nr pc ag le gr cs) cn
def dgF : Int64 := mxF (dg6 st bc v ax te me tu n cn wd ja re nr pc ag le gr cs) (if isF st bc v ax te me tu n cn wd nr nf = 0 then 0 else 1)
end DGS

set_option maxHeartbeats 4000000 in
set_option maxRecDepth 100000 in
theorem c_X5_digest (l : Launch) (dC : Nat → ClassId) (dI : Nat → Nat → Nat) (cI cF : ClassId) (tr : List (ClassId × FieldType)) (sz : Nat) (o : Nat) (ce : Nat) (lu : Nat) (cl : Nat) (se : Nat) (tu : Int32) (ja : Int32) (re : Int32) (g : Nat) (n : Nat) (xa : Nat) (xt : Nat) (xm : Nat) (wh : Nat) (st : Nat) (xb : Nat) (xc : Nat) (ax : Nat → Int32) (te : Nat → Int32) (me : Nat → Int32) (bc : Nat → Option Nat) (LP : List Nat) (v : Nat → Int64 × Int64) (cn : Nat) (wd : Int32) (xn : Nat) (xf : Nat) (nr : Nat → Int32) (nf : Nat → Int32) (yp : Nat) (yt : Nat) (yd : Nat) (yq : Nat) (yg : Nat) (yl : Nat) (yh : Nat) (pc : Nat → Int32) (ag : Nat → Int32) (le : Nat → Int32) (gr : Nat → Int32) (cs : Nat → Int32) (hst : st ∈ LP) (hbc : ∀ k, k < 7 → ∀ a, bc k = some a → a ∈ LP) (hn : n ≤ 12) (hcn : cn ≤ 12) : Met l yX5_digest wsX5_digest ({ frames := 6, cells := 224, slots := 448, locals := 150 } : Room) (cPc dC dI ((cI, .int) :: (cF, .object RX1) :: tr) sz ([(o, .inr (iX5, [.ref g, .ref ce, .ref lu, .ref cl, .ref se, .int tu, .int ja, .int re])), (g, .inr (iX2, [.int (nI n), .ref xa, .ref xt, .ref xm, .ref wh, .ref st, .ref xb, .ref xc])), (xa, .inl (cI, 12, .inl (ax))), (xt, .inl (cI, 12, .inl (te))), (xm, .inl (cI, 12, .inl (me))), (xb, .inl (cF, 7, .inr (.inr (.inr (.inr (bc)))))), (cl, .inr (iX0, [.int (nI cn), .int wd, .ref xn, .ref xf])), (xn, .inl (cI, 12, .inl (nr))), (xf, .inl (cI, 12, .inl (nf))), (lu, .inr (iX3, [.ref yp, .ref yt, .ref yd, .ref yq, .ref yg, .ref yl, .ref yh])), (yp, .inl (cI, 6, .inl (pc))), (yg, .inl (cI, 6, .inl (ag))), (yl, .inl (cI, 6, .inl (le))), (yh, .inl (cI, 6, .inl (gr))), (ce, .inl (cI, 7, .inl (cs)))] ++ va_pl LP (fe v)) [.ref o]) (va_Ql (fun (r : Int64) (_ : Unit) => r = dgF st bc v ax te me tu n cn wd ja re nr nf pc ag le gr cs) (fun _ _ => True) (va_A ([]) sz)) 224 448 (va_A ([]) sz) := by
  refine Met.ofW (cc := cX5_digest) (maxL := 5) (ret := (some .long)) (by decide) rfl ?_
  intro p e s m args below meth c s₁ B hml hv
  obtain ⟨rfl, hsz, hP, hK, hN⟩ := hv
  have hx := B.exec
  have hb := B.bytes
  have hr := B.returns
  have hts := atoms_spec (ws := wsX5_digest) B.pre
  have hown : s.vm.findClass RX5 = some m.cls := findClass_of_methodNamed B.named
  have hlocks := B.notSynchronized
  subst hsz
  generalize hAe : va_A [] s.heap.size = A
  have hA : ∀ q : Nat, s.heap.size ≤ q → A q := fun q h => by rw [← hAe]; exact Or.inr h
  have hS : va_S A s.heap s.heap [] := va_S.rf
  have hAn : ∀ q : Nat, q < s.heap.size → ¬ A q := fun q h => by rw [← hAe]; exact notZ h
  have hAg : ∀ q : Nat, A q → s.heap.size ≤ q := fun q h => geZ (hAe ▸ h)
  have hR0 : va_P (dC, dI) vwCl ([(o, .inr (iX5, [.ref g, .ref ce, .ref lu, .ref cl, .ref se, .int tu, .int ja, .int re])), (g, .inr (iX2, [.int (nI n), .ref xa, .ref xt, .ref xm, .ref wh, .ref st, .ref xb, .ref xc])), (xa, .inl (cI, 12, .inl (ax))), (xt, .inl (cI, 12, .inl (te))), (xm, .inl (cI, 12, .inl (me))), (xb, .inl (cF, 7, .inr (.inr (.inr (.inr (bc)))))), (cl, .inr (iX0, [.int (nI cn), .int wd, .ref xn, .ref xf])), (xn, .inl (cI, 12, .inl (nr))), (xf, .inl (cI, 12, .inl (nf))), (lu, .inr (iX3, [.ref yp, .ref yt, .ref yd, .ref yq, .ref yg, .ref yl, .ref yh])), (yp, .inl (cI, 6, .inl (pc))), (yg, .inl (cI, 6, .inl (ag))), (yl, .inl (cI, 6, .inl (le))), (yh, .inl (cI, 6, .inl (gr))), (ce, .inl (cI, 7, .inl (cs)))] ++ va_pl LP (fe v)) s.heap := hP
  have hR : va_P (dC, dI) vwCl ([(o, .inr (iX5, [.ref g, .ref ce, .ref lu, .ref cl, .ref se, .int tu, .int ja, .int re])), (g, .inr (iX2, [.int (nI n), .ref xa, .ref xt, .ref xm, .ref wh, .ref st, .ref xb, .ref xc])), (xa, .inl (cI, 12, .inl (ax))), (xt, .inl (cI, 12, .inl (te))), (xm, .inl (cI, 12, .inl (me))), (xb, .inl (cF, 7, .inr (.inr (.inr (.inr (bc)))))), (cl, .inr (iX0, [.int (nI cn), .int wd, .ref xn, .ref xf])), (xn, .inl (cI, 12, .inl (nr))), (xf, .inl (cI, 12, .inl (nf))), (lu, .inr (iX3, [.ref yp, .ref yt, .ref yd, .ref yq, .ref yg, .ref yl, .ref yh])), (yp, .inl (cI, 6, .inl (pc))), (yg, .inl (cI, 6, .inl (ag))), (yl, .inl (cI, 6, .inl (le))), (yh, .inl (cI, 6, .inl (gr))), (ce, .inl (cI, 7, .inl (cs)))] ++ va_pl LP (fe v)) s.heap := hP
  have hP : va_P (dC, dI) vwCl [] s.heap := fun k q h => by simp at h
  have hD : va_D A [] := ⟨fun i j p q h => by simp at h, fun k q h => by simp at h⟩
  have hl := lv_entry ([.ref o]) (n := 5) (Nat.le_of_ble_eq_true rfl)
  rw [lg_entry_eq]
  generalize (lg_sl ([.ref o]) ++ List.replicate (5 - (lg_sl ([.ref o])).length) Slot.unset).toArray = ls at hl ⊢
  have hl : lv_has ls 5 [(0, .ref o)] := hl
  have hw_k248 := hts (.constantLong RX5 248 (5087)) (by decide +kernel)
  have hfl_30 := hts (.fieldLink RX5 30 "Greenwheels" "claims" "LGreenwheels$Claims;") (by decide +kernel)
  have hin_X5 : ∀ w ∈ u_ws RX5 TX5 8, w ∈ wsX5_digest := by decide +kernel
  have hfl_113 := hts (.fieldLink RX5 113 "Greenwheels$Claims" "count" "I") (by decide +kernel)
  have hin_X0 : ∀ w ∈ u_ws RX0 TX0 4, w ∈ wsX5_digest := by decide +kernel
  refine lv_ldc2 hx hb hown hw_k248 dX5_digest_0 ?_
  refine lv_lstore_n (lv' := [(1, .long 5087), (0, .ref o)]) hx hb dX5_digest_3 rfl hl (by decide) rfl (fun ls hl => ?_)
  refine lv_iconst (v := 0) hx hb dX5_digest_4 (by decide) ?_
  refine lv_istore_n (lv' := [(3, .int 0), (1, .long 5087), (0, .ref o)]) hx hb dX5_digest_5 rfl hl (by decide) rfl (fun ls hl => ?_)
  have K6 : ∀ (NN : Nat), ∀ (k : Nat) (acc : Int64), (9 - k) < NN → (k ≤ 9) → (acc = dgH (hsF n cn me bc tu wd ja re nr pc) k) → ∀ (H : Heap) (locs : List Loc) (ls : Array Slot), va_P (dC, dI) vwCl ([]) H → va_S A s.heap H locs → lv_has ls 5 [(0, .ref o), (1, .long acc), (3, .int (nI k))] → W p l e (headSpec wsX5_digest ({ frames := 6, cells := 224, slots := 448, locals := 150 } : Room)).room s m #[Value.ref o] below meth c H locs (0) (0) (MQ below (va_Ql (fun (r : Int64) (_ : Unit) => r = dgF st bc v ax te me tu n cn wd ja re nr nf pc ag le gr cs) (fun _ _ => True) A) #[Value.ref o] s 224 448 A) (F0 m 6 ls []) := by
    intro NN
    induction NN with
    | zero =>
      intro k acc hmu hk hacc H locs ls hP hS hl
      exact absurd hmu (Nat.not_lt_zero _)
    | succ NN ih6 =>
      intro k acc hmu hk hacc H locs ls hP hS hl
      have hR := keepR hR0 hS hAn
      refine lv_iload_n hx hb dX5_digest_6 rfl (lv_at hl 2 rfl) ?_
      refine lv_bipush (v := 9) hx hb dX5_digest_7 (by decide) ?_
      refine lv_icmp_ge (tgt := 29) hx hb dX5_digest_9 (by decide) (fun c_1 => ?_) (fun c_1 => ?_)
      · have hke : 9 ≤ k := leK (by omega) (by omega) c_1
        have hkn : k = 9 := by omega
        refine lv_aload_n hx hb dX5_digest_29 rfl (lv_at hl 0 rfl) ?_
        refine lv_lload_n hx hb dX5_digest_30 rfl (lv_at hl 1 rfl) ?_
        have hPc : va_P (dC, dI) vwCl ([(o, .inr (iX5, [.ref g, .ref ce, .ref lu, .ref cl, .ref se, .int tu, .int ja, .int re])), (g, .inr (iX2, [.int (nI n), .ref xa, .ref xt, .ref xm, .ref wh, .ref st, .ref xb, .ref xc])), (xb, .inl (cF, 7, .inr (.inr (.inr (.inr (bc)))))), (ce, .inl (cI, 7, .inl (cs)))] ++ va_pl LP (fe v)) _ := hR.part [0, 1, 5, 14] rfl
        have hFc := frZ hS hA
        refine va_calll (va_runV (As := [.long acc]) (rest := []) ⟨hx, hb, hml, hown, hts⟩ (c_X5_mixedAxles l dC dI cI cF tr (H).size o ce lu cl se tu ja re g n xa xt xm wh st xb xc bc cs LP v acc (by assumption) (by assumption)) (cwV 1 hts gX5_digest_X5_mixedAxles rfl rfl rfl (by decide +kernel) ⟨Nat.le_of_ble_eq_true rfl, Nat.le_of_ble_eq_true rfl⟩) ⟨cBl, (va_recv hK hPc (ci := iX5) (q0 := 0) rfl rfl), (cPre hPc hK hN)⟩ rfl rfl hl.1 rfl (lv_room (Nat.le_of_ble_eq_true rfl)) dX5_digest_31 ⟨(Nat.le_of_ble_eq_true rfl), (Nat.le_of_ble_eq_true rfl)⟩) hS (fun q _ h => hFc q h) hFc (fun r_2 u t H1 locs ht hvm hw_r_2 hB hz1 hk1 hS => ?_)
        refine W.widen (k := 56) (n := 112) (by omega) (by omega) ?_
        have hP := keepP hP hk1
        have hR := keepP hR hk1
        generalize H1 = H at hP hR hS ⊢
        have hP : va_P (dC, dI) vwCl ([]) H := hP
        try dsimp only at hw_r_2
        subst hw_r_2
        refine lv_lstore_n (lv' := [(1, .long (maL st bc v cs tu acc 7)), (0, .ref o), (3, .int (nI k))]) hx hb dX5_digest_34 rfl hl (by decide) rfl (fun ls hl => ?_)
        refine lv_aload_n hx hb dX5_digest_35 rfl (lv_at hl 1 rfl) ?_
        refine lv_lload_n hx hb dX5_digest_36 rfl (lv_at hl 0 rfl) ?_
        have hPc : va_P (dC, dI) vwCl ([(o, .inr (iX5, [.ref g, .ref ce, .ref lu, .ref cl, .ref se, .int tu, .int ja, .int re])), (g, .inr (iX2, [.int (nI n), .ref xa, .ref xt, .ref xm, .ref wh, .ref st, .ref xb, .ref xc])), (xa, .inl (cI, 12, .inl (ax))), (xt, .inl (cI, 12, .inl (te))), (xm, .inl (cI, 12, .inl (me))), (xb, .inl (cF, 7, .inr (.inr (.inr (.inr (bc))))))] ++ va_pl LP (fe v)) _ := hR.part [0, 1, 2, 3, 4, 5] rfl
        have hFc := frZ hS hA
        refine va_calll (va_runV (As := [.long (maL st bc v cs tu acc 7)]) (rest := []) ⟨hx, hb, hml, hown, hts⟩ (c_X5_mixedWheels l dC dI cI cF tr (H).size o ce lu cl se tu ja re g n xa xt xm wh st xb xc ax te me bc LP v (maL st bc v cs tu acc 7) (by assumption) (by assumption) (by assumption)) (cwV 1 hts gX5_digest_X5_mixedWheels rfl rfl rfl (by decide +kernel) ⟨Nat.le_of_ble_eq_true rfl, Nat.le_of_ble_eq_true rfl⟩) ⟨cBl, (va_recv hK hPc (ci := iX5) (q0 := 0) rfl rfl), (cPre hPc hK hN)⟩ rfl rfl hl.1 rfl (lv_room (Nat.le_of_ble_eq_true rfl)) dX5_digest_37 ⟨(Nat.le_of_ble_eq_true rfl), (Nat.le_of_ble_eq_true rfl)⟩) hS (fun q _ h => hFc q h) hFc (fun r_3 u t H1 locs ht hvm hw_r_3 hB hz1 hk1 hS => ?_)
        refine W.widen (k := 68) (n := 136) (by omega) (by omega) ?_
        have hP := keepP hP hk1
        have hR := keepP hR hk1
        generalize H1 = H at hP hR hS ⊢
        have hP : va_P (dC, dI) vwCl ([]) H := hP
        try dsimp only at hw_r_3
        subst hw_r_3
        refine lv_lstore_n (lv' := [(1, .long (mwL st bc v ax te me tu (maL st bc v cs tu acc 7) n)), (0, .ref o), (3, .int (nI k))]) hx hb dX5_digest_40 rfl hl (by decide) rfl (fun ls hl => ?_)
        refine lv_lload_n hx hb dX5_digest_41 rfl (lv_at hl 0 rfl) ?_
        refine lv_aload_n hx hb dX5_digest_42 rfl (lv_at hl 1 rfl) ?_
        have hPc : va_P (dC, dI) vwCl ([(o, .inr (iX5, [.ref g, .ref ce, .ref lu, .ref cl, .ref se, .int tu, .int ja, .int re])), (g, .inr (iX2, [.int (nI n), .ref xa, .ref xt, .ref xm, .ref wh, .ref st, .ref xb, .ref xc])), (xb, .inl (cF, 7, .inr (.inr (.inr (.inr (bc))))))] ++ va_pl LP (fe v)) _ := hR.part [0, 1, 5] rfl
        have hFc := frZ hS hA
        refine va_calll (va_runV (As := []) (rest := [.long (mwL st bc v ax te me tu (maL st bc v cs tu acc 7) n)]) ⟨hx, hb, hml, hown, hts⟩ (c_X5_period l dC dI cI cF tr (H).size o ce lu cl se tu ja re g n xa xt xm wh st xb xc bc LP v (by assumption) (by assumption)) (cwV 0 hts gX5_digest_X5_period rfl rfl rfl (by decide +kernel) ⟨Nat.le_of_ble_eq_true rfl, Nat.le_of_ble_eq_true rfl⟩) ⟨cBl, (va_recv hK hPc (ci := iX5) (q0 := 0) rfl rfl), (cPre hPc hK hN)⟩ rfl rfl hl.1 rfl (lv_room (Nat.le_of_ble_eq_true rfl)) dX5_digest_43 ⟨(Nat.le_of_ble_eq_true rfl), (Nat.le_of_ble_eq_true rfl)⟩) hS (fun q _ h => hFc q h) hFc (fun r_4 u t H1 locs ht hvm hw_r_4 hB hz1 hk1 hS => ?_)
        refine W.widen (k := 68) (n := 136) (Nat.le_refl _) (Nat.le_refl _) ?_
        have hP := keepP hP hk1
        have hR := keepP hR hk1
        generalize H1 = H at hP hR hS ⊢
        have hP : va_P (dC, dI) vwCl ([]) H := hP
        try dsimp only at hw_r_4
        subst hw_r_4
        have hPc : va_P (dC, dI) vwCl [] H := nilP
        have hFc := frZ hS hA
        refine va_calll (va_runS (As := [.long (mwL st bc v ax te me tu (maL st bc v cs tu acc 7) n), .long (ptL st bc v 7)]) (rest := []) ⟨hx, hb, hml, hown, hts⟩ (c_X5_mixed l dC dI cI cF tr (H).size (mwL st bc v ax te me tu (maL st bc v cs tu acc 7) n) (ptL st bc v 7)) (va_cwS 2 hts gX5_digest_X5_mixed rfl rfl rfl (by decide +kernel) ⟨Nat.le_of_ble_eq_true rfl, Nat.le_of_ble_eq_true rfl⟩) ⟨cBl, (cPre hPc hK hN)⟩ rfl rfl hl.1 rfl (lv_room (Nat.le_of_ble_eq_true rfl)) dX5_digest_46 ⟨(Nat.le_of_ble_eq_true rfl), (Nat.le_of_ble_eq_true rfl)⟩) hS (fun q _ h => hFc q h) hFc (fun r_5 u t H1 locs ht hvm hw_r_5 hB hz1 hk1 hS => ?_)
        refine W.widen (k := 68) (n := 136) (Nat.le_refl _) (Nat.le_refl _) ?_
        have hP := keepP hP hk1
        have hR := keepP hR hk1
        generalize H1 = H at hP hR hS ⊢
        have hP : va_P (dC, dI) vwCl ([]) H := hP
        try dsimp only at hw_r_5
        subst hw_r_5
        refine lv_lstore_n (lv' := [(1, .long (mxF (mwL st bc v ax te me tu (maL st bc v cs tu acc 7) n) (ptL st bc v 7))), (0, .ref o), (3, .int (nI k))]) hx hb dX5_digest_49 rfl hl (by decide) rfl (fun ls hl => ?_)
        refine lv_iconst (v := 0) hx hb dX5_digest_50 (by decide) ?_
        refine lv_istore_n (lv' := [(3, .int 0), (1, .long (mxF (mwL st bc v ax te me tu (maL st bc v cs tu acc 7) n) (ptL st bc v 7))), (0, .ref o)]) hx hb dX5_digest_51 rfl hl (by decide) rfl (fun ls hl => ?_)
        have K52 : ∀ (NN : Nat), ∀ (k : Nat) (acc : Int64), (6 - k) < NN → (k ≤ 6) → (acc = dgO (olF pc ag le gr) (dg4 st bc v ax te me tu n cn wd ja re nr pc cs) k) → ∀ (H : Heap) (locs : List Loc) (ls : Array Slot), va_P (dC, dI) vwCl ([]) H → va_S A s.heap H locs → lv_has ls 5 [(0, .ref o), (1, .long acc), (3, .int (nI k))] → W p l e (headSpec wsX5_digest ({ frames := 6, cells := 224, slots := 448, locals := 150 } : Room)).room s m #[Value.ref o] below meth c H locs (68) (136) (MQ below (va_Ql (fun (r : Int64) (_ : Unit) => r = dgF st bc v ax te me tu n cn wd ja re nr nf pc ag le gr cs) (fun _ _ => True) A) #[Value.ref o] s 224 448 A) (F0 m 52 ls []) := by
          intro NN
          induction NN with
          | zero =>
            intro k acc hmu hk hacc H locs ls hP hS hl
            exact absurd hmu (Nat.not_lt_zero _)
          | succ NN ih52 =>
            intro k acc hmu hk hacc H locs ls hP hS hl
            have hR := keepR hR0 hS hAn
            refine lv_iload_n hx hb dX5_digest_52 rfl (lv_at hl 2 rfl) ?_
            refine lv_bipush (v := 6) hx hb dX5_digest_53 (by decide) ?_
            refine lv_icmp_ge (tgt := 92) hx hb dX5_digest_55 (by decide) (fun c_6 => ?_) (fun c_6 => ?_)
            · have hke : 6 ≤ k := leK (by omega) (by omega) c_6
              have hkn : k = 6 := by omega
              refine lv_iconst (v := 0) hx hb dX5_digest_92 (by decide) ?_
              refine lv_istore_n (lv' := [(3, .int 0), (0, .ref o), (1, .long acc)]) hx hb dX5_digest_93 rfl hl (by decide) rfl (fun ls hl => ?_)
              have K94 : ∀ (NN : Nat), ∀ (k : Nat) (acc : Int64), (cn - k) < NN → (k ≤ cn) → (acc = dgO (ocF cn wd nr) (dg5 st bc v ax te me tu n cn wd ja re nr pc ag le gr cs) k) → ∀ (H : Heap) (locs : List Loc) (ls : Array Slot), va_P (dC, dI) vwCl ([]) H → va_S A s.heap H locs → lv_has ls 5 [(0, .ref o), (1, .long acc), (3, .int (nI k))] → W p l e (headSpec wsX5_digest ({ frames := 6, cells := 224, slots := 448, locals := 150 } : Room)).room s m #[Value.ref o] below meth c H locs (68) (136) (MQ below (va_Ql (fun (r : Int64) (_ : Unit) => r = dgF st bc v ax te me tu n cn wd ja re nr nf pc ag le gr cs) (fun _ _ => True) A) #[Value.ref o] s 224 448 A) (F0 m 94 ls []) := by
                intro NN
                induction NN with
                | zero =>
                  intro k acc hmu hk hacc H locs ls hP hS hl
                  exact absurd hmu (Nat.not_lt_zero _)
                | succ NN ih94 =>
                  intro k acc hmu hk hacc H locs ls hP hS hl
                  have hR := keepR hR0 hS hAn
                  refine lv_iload_n hx hb dX5_digest_94 rfl (lv_at hl 2 rfl) ?_
                  refine lv_aload_n hx hb dX5_digest_95 rfl (lv_at hl 0 rfl) ?_
                  refine va_get (D := (dC, dI)) (ci := iX5) (v := .ref cl) (C := RX5) (T := TX5) (N := 8) hx hb hts hin_X5 hown hK hR 0 rfl rfl 3 (by decide) hfl_30 (fun _ h9 => h9) rfl dX5_digest_96 ?_
                  refine va_get (D := (dC, dI)) (ci := iX0) (v := .int (nI cn)) (C := RX0) (T := TX0) (N := 4) hx hb hts hin_X0 hown hK hR 6 rfl rfl 0 (by decide) hfl_113 (fun _ h9 => h9) rfl dX5_digest_99 ?_
                  refine lv_icmp_ge (tgt := 139) hx hb dX5_digest_102 (by decide) (fun c_7 => ?_) (fun c_7 => ?_)
                  · have hke : cn ≤ k := leK (by omega) (by omega) c_7
                    have hkn : k = cn := by omega
                    refine lv_lload_n hx hb dX5_digest_139 rfl (lv_at hl 1 rfl) ?_
                    refine lv_aload_n hx hb dX5_digest_140 rfl (lv_at hl 0 rfl) ?_
                    have hPc : va_P (dC, dI) vwCl ([(o, .inr (iX5, [.ref g, .ref ce, .ref lu, .ref cl, .ref se, .int tu, .int ja, .int re])), (g, .inr (iX2, [.int (nI n), .ref xa, .ref xt, .ref xm, .ref wh, .ref st, .ref xb, .ref xc])), (xa, .inl (cI, 12, .inl (ax))), (xt, .inl (cI, 12, .inl (te))), (xm, .inl (cI, 12, .inl (me))), (xb, .inl (cF, 7, .inr (.inr (.inr (.inr (bc)))))), (cl, .inr (iX0, [.int (nI cn), .int wd, .ref xn, .ref xf])), (xn, .inl (cI, 12, .inl (nr))), (xf, .inl (cI, 12, .inl (nf)))] ++ va_pl LP (fe v)) _ := hR.part [0, 1, 2, 3, 4, 5, 6, 7, 8] rfl
                    have hFc := frZ hS hA
                    refine va_calli (va_runV (As := []) (rest := [.long acc]) ⟨hx, hb, hml, hown, hts⟩ (c_X5_isSound l dC dI cI cF tr (H).size o ce lu cl se tu ja re g n xa xt xm wh st xb xc ax te me bc LP v cn wd xn xf nr nf (by assumption) (by assumption) (by assumption) (by assumption)) (cwV 0 hts gX5_digest_X5_isSound rfl rfl rfl (by decide +kernel) ⟨Nat.le_of_ble_eq_true rfl, Nat.le_of_ble_eq_true rfl⟩) ⟨cBl, (va_recv hK hPc (ci := iX5) (q0 := 0) rfl rfl), (cPre hPc hK hN)⟩ rfl rfl hl.1 rfl (lv_room (Nat.le_of_ble_eq_true rfl)) dX5_digest_141 ⟨(Nat.le_of_ble_eq_true rfl), (Nat.le_of_ble_eq_true rfl)⟩) hS (fun q _ h => hFc q h) hFc (fun r_8 u t H1 locs ht hvm hw_r_8 hB hz1 hk1 hS => ?_)
                    refine W.widen (k := 224) (n := 448) (by omega) (by omega) ?_
                    have hP := keepP hP hk1
                    have hR := keepP hR hk1
                    generalize H1 = H at hP hR hS ⊢
                    have hP : va_P (dC, dI) vwCl ([]) H := hP
                    try dsimp only at hw_r_8
                    subst hw_r_8
                    refine lv_if_eq (tgt := 151) hx hb dX5_digest_144 (by decide) (fun c_9 => ?_) (fun c_9 => ?_)
                    · refine lv_lconst (v := 0) hx hb dX5_digest_151 (by decide) ?_
                      have hPc : va_P (dC, dI) vwCl [] H := nilP
                      have hFc := frZ hS hA
                      refine va_calll (va_runS (As := [.long acc, .long 0]) (rest := []) ⟨hx, hb, hml, hown, hts⟩ (c_X5_mixed l dC dI cI cF tr (H).size acc 0) (va_cwS 2 hts gX5_digest_X5_mixed rfl rfl rfl (by decide +kernel) ⟨Nat.le_of_ble_eq_true rfl, Nat.le_of_ble_eq_true rfl⟩) ⟨cBl, (cPre hPc hK hN)⟩ rfl rfl hl.1 rfl (lv_room (Nat.le_of_ble_eq_true rfl)) dX5_digest_152 ⟨(Nat.le_of_ble_eq_true rfl), (Nat.le_of_ble_eq_true rfl)⟩) hS (fun q _ h => hFc q h) hFc (fun r_10 u t H1 locs ht hvm hw_r_10 hB hz1 hk1 hS => ?_)
                      refine W.widen (k := 224) (n := 448) (Nat.le_refl _) (Nat.le_refl _) ?_
                      have hP := keepP hP hk1
                      have hR := keepP hR hk1
                      generalize H1 = H at hP hR hS ⊢
                      have hP : va_P (dC, dI) vwCl ([]) H := hP
                      try dsimp only at hw_r_10
                      subst hw_r_10
                      refine W.widen (k := 224) (n := 448) (by omega) (by omega) ?_
                      exact W.lret (v := mxF acc 0) hx hb hr (fun t ht hW => ⟨⟨mxF acc 0, (), rfl, (by rw [hacc, hkn, dgF]; simp only [dg6, ↓reduceIte, c_9]), trivial⟩, hS.F ht⟩) hS.2.2 dX5_digest_155
                    · refine lv_lconst (v := 1) hx hb dX5_digest_147 (by decide) ?_
                      refine lv_goto (tgt := 152) hx hb dX5_digest_148 (by decide) ?_
                      have hPc : va_P (dC, dI) vwCl [] H := nilP
                      have hFc := frZ hS hA
                      refine va_calll (va_runS (As := [.long acc, .long 1]) (rest := []) ⟨hx, hb, hml, hown, hts⟩ (c_X5_mixed l dC dI cI cF tr (H).size acc 1) (va_cwS 2 hts gX5_digest_X5_mixed rfl rfl rfl (by decide +kernel) ⟨Nat.le_of_ble_eq_true rfl, Nat.le_of_ble_eq_true rfl⟩) ⟨cBl, (cPre hPc hK hN)⟩ rfl rfl hl.1 rfl (lv_room (Nat.le_of_ble_eq_true rfl)) dX5_digest_152 ⟨(Nat.le_of_ble_eq_true rfl), (Nat.le_of_ble_eq_true rfl)⟩) hS (fun q _ h => hFc q h) hFc (fun r_11 u t H1 locs ht hvm hw_r_11 hB hz1 hk1 hS => ?_)
                      refine W.widen (k := 224) (n := 448) (Nat.le_refl _) (Nat.le_refl _) ?_
                      have hP := keepP hP hk1
                      have hR := keepP hR hk1
                      generalize H1 = H at hP hR hS ⊢
                      have hP : va_P (dC, dI) vwCl ([]) H := hP
                      try dsimp only at hw_r_11
                      subst hw_r_11
                      refine W.widen (k := 224) (n := 448) (by omega) (by omega) ?_
                      exact W.lret (v := mxF acc 1) hx hb hr (fun t ht hW => ⟨⟨mxF acc 1, (), rfl, (by rw [hacc, hkn, dgF]; simp only [dg6, ↓reduceIte, c_9]), trivial⟩, hS.F ht⟩) hS.2.2 dX5_digest_155
                  · have hkl : k < cn := ltK (by omega) (by omega) c_7
                    refine lv_iconst (v := 0) hx hb dX5_digest_105 (by decide) ?_
                    refine lv_istore (lv' := [(4, .int 0), (0, .ref o), (1, .long acc), (3, .int (nI k))]) hx hb dX5_digest_106 hl (by decide) rfl (fun ls hl => ?_)
                    have K108 : ∀ (NN : Nat), ∀ (wz : Nat) (ac2 : Int64), (4 - wz) < NN → (wz ≤ 4) → (ac2 = dgI (ocF cn wd nr) k acc wz) → ∀ (H : Heap) (locs : List Loc) (ls : Array Slot), va_P (dC, dI) vwCl ([]) H → va_S A s.heap H locs → lv_has ls 5 [(0, .ref o), (1, .long ac2), (3, .int (nI k)), (4, .int (nI wz))] → W p l e (headSpec wsX5_digest ({ frames := 6, cells := 224, slots := 448, locals := 150 } : Room)).room s m #[Value.ref o] below meth c H locs (68) (136) (MQ below (va_Ql (fun (r : Int64) (_ : Unit) => r = dgF st bc v ax te me tu n cn wd ja re nr nf pc ag le gr cs) (fun _ _ => True) A) #[Value.ref o] s 224 448 A) (F0 m 108 ls []) := by
                      intro NN
                      induction NN with
                      | zero =>
                        intro wz ac2 hmu hw hin H locs ls hP hS hl
                        exact absurd hmu (Nat.not_lt_zero _)
                      | succ NN ih108 =>
                        intro wz ac2 hmu hw hin H locs ls hP hS hl
                        have hR := keepR hR0 hS hAn
                        refine lv_iload hx hb dX5_digest_108 (lv_at hl 3 rfl) ?_
                        refine lv_iconst (v := 4) hx hb dX5_digest_110 (by decide) ?_
                        refine lv_icmp_ge (tgt := 133) hx hb dX5_digest_111 (by decide) (fun c_12 => ?_) (fun c_12 => ?_)
                        · have hwn : wz = 4 := by have h9 := leK (a := 4) (b := wz) (by omega) (by omega) c_12; omega
                          refine lv_iinc (v := nI (k + 1)) (lv' := [(3, .int (nI (k + 1))), (0, .ref o), (1, .long ac2), (4, .int (nI wz))]) hx hb dX5_digest_133 hl (k := 2) rfl (nI_1 k) (by decide) rfl (fun ls hl => ?_)
                          refine lv_goto (tgt := 94) hx hb dX5_digest_136 (by decide) ?_
                          refine W.widen (k := 68) (n := 136) (by omega) (by omega) ?_
                          exact ih94 (k + 1) ac2 (by omega) hkl (by rw [hin, hwn, hacc]; rfl) _ _ ls hP hS (lv_sub hl [1, 2, 0] rfl)
                        · have hwl : wz < 4 := ltK (by omega) (by omega) c_12
                          refine lv_lload_n hx hb dX5_digest_114 rfl (lv_at hl 1 rfl) ?_
                          refine lv_aload_n hx hb dX5_digest_115 rfl (lv_at hl 0 rfl) ?_
                          refine lv_iload_n hx hb dX5_digest_116 rfl (lv_at hl 2 rfl) ?_
                          refine lv_iload hx hb dX5_digest_117 (lv_at hl 3 rfl) ?_
                          have hPc : va_P (dC, dI) vwCl ([(o, .inr (iX5, [.ref g, .ref ce, .ref lu, .ref cl, .ref se, .int tu, .int ja, .int re])), (cl, .inr (iX0, [.int (nI cn), .int wd, .ref xn, .ref xf])), (xn, .inl (cI, 12, .inl (nr)))]) _ := hR.sub [0, 6, 7] rfl
                          have hFc := frZ hS hA
                          refine va_calli (va_runV (As := [.int (nI k), .int (nI wz)]) (rest := [.long ac2]) ⟨hx, hb, hml, hown, hts⟩ (c_p_X5_ofClaim l dC dI cI cF tr (H).size o ce lu cl se tu ja re g cn wd xn xf nr (nI k) (nI wz) (winW hkl (by omega)) (winK (b := 3) (by omega) (by decide)) hcn) (cwV 2 hts gX5_digest_X5_ofClaim rfl rfl rfl (by decide +kernel) ⟨Nat.le_of_ble_eq_true rfl, Nat.le_of_ble_eq_true rfl⟩) ⟨cBl, (va_recv hK hPc (ci := iX5) (q0 := 0) rfl rfl), (cPre hPc hK hN)⟩ rfl rfl hl.1 rfl (lv_room (Nat.le_of_ble_eq_true rfl)) dX5_digest_119 ⟨(Nat.le_of_ble_eq_true rfl), (Nat.le_of_ble_eq_true rfl)⟩) hS (fun q _ h => hFc q h) hFc (fun r_13 u t H1 locs ht hvm hw_r_13 hB hz1 hk1 hS => ?_)
                          refine W.widen (k := 68) (n := 136) (Nat.le_refl _) (Nat.le_refl _) ?_
                          have hP := keepP hP hk1
                          have hR := keepP hR hk1
                          generalize H1 = H at hP hR hS ⊢
                          have hP : va_P (dC, dI) vwCl ([]) H := hP
                          try dsimp only at hw_r_13
                          subst hw_r_13
                          refine lv_i2l hx hb dX5_digest_122 rfl ?_
                          have hPc : va_P (dC, dI) vwCl [] H := nilP
                          have hFc := frZ hS hA
                          refine va_calll (va_runS (As := [.long ac2, .long ((ocF cn wd nr (nI k) (nI wz)).toInt64)]) (rest := []) ⟨hx, hb, hml, hown, hts⟩ (c_X5_mixed l dC dI cI cF tr (H).size ac2 ((ocF cn wd nr (nI k) (nI wz)).toInt64)) (va_cwS 2 hts gX5_digest_X5_mixed rfl rfl rfl (by decide +kernel) ⟨Nat.le_of_ble_eq_true rfl, Nat.le_of_ble_eq_true rfl⟩) ⟨cBl, (cPre hPc hK hN)⟩ rfl rfl hl.1 rfl (lv_room (Nat.le_of_ble_eq_true rfl)) dX5_digest_123 ⟨(Nat.le_of_ble_eq_true rfl), (Nat.le_of_ble_eq_true rfl)⟩) hS (fun q _ h => hFc q h) hFc (fun r_14 u t H1 locs ht hvm hw_r_14 hB hz1 hk1 hS => ?_)
                          refine W.widen (k := 68) (n := 136) (Nat.le_refl _) (Nat.le_refl _) ?_
                          have hP := keepP hP hk1
                          have hR := keepP hR hk1
                          generalize H1 = H at hP hR hS ⊢
                          have hP : va_P (dC, dI) vwCl ([]) H := hP
                          try dsimp only at hw_r_14
                          subst hw_r_14
                          refine lv_lstore_n (lv' := [(1, .long (mxF ac2 ((ocF cn wd nr (nI k) (nI wz)).toInt64))), (0, .ref o), (3, .int (nI k)), (4, .int (nI wz))]) hx hb dX5_digest_126 rfl hl (by decide) rfl (fun ls hl => ?_)
                          refine lv_iinc (v := nI (wz + 1)) (lv' := [(4, .int (nI (wz + 1))), (1, .long (mxF ac2 ((ocF cn wd nr (nI k) (nI wz)).toInt64))), (0, .ref o), (3, .int (nI k))]) hx hb dX5_digest_127 hl (k := 3) rfl (nI_1 wz) (by decide) rfl (fun ls hl => ?_)
                          refine lv_goto (tgt := 108) hx hb dX5_digest_130 (by decide) ?_
                          refine W.widen (k := 68) (n := 136) (by omega) (by omega) ?_
                          exact ih108 (wz + 1) (mxF ac2 ((ocF cn wd nr (nI k) (nI wz)).toInt64)) (by omega) hwl (by rw [hin]; rfl) _ _ ls hP hS (lv_sub hl [2, 1, 3, 0] rfl)
                    refine W.widen (k := 68) (n := 136) (by omega) (by omega) ?_
                    exact K108 (4 - 0 + 1) 0 acc (by omega) (Nat.zero_le _) rfl _ _ ls hP hS (lv_sub hl [1, 2, 3, 0] rfl)
              refine W.widen (k := 68) (n := 136) (by omega) (by omega) ?_
              exact K94 (cn - 0 + 1) 0 acc (by omega) (Nat.zero_le _) (by rw [hacc, hkn]; rfl) _ _ ls hP hS (lv_sub hl [1, 2, 0] rfl)
            · have hkl : k < 6 := ltK (by omega) (by omega) c_6
              refine lv_iconst (v := 0) hx hb dX5_digest_58 (by decide) ?_
              refine lv_istore (lv' := [(4, .int 0), (0, .ref o), (1, .long acc), (3, .int (nI k))]) hx hb dX5_digest_59 hl (by decide) rfl (fun ls hl => ?_)
              have K61 : ∀ (NN : Nat), ∀ (wz : Nat) (ac2 : Int64), (4 - wz) < NN → (wz ≤ 4) → (ac2 = dgI (olF pc ag le gr) k acc wz) → ∀ (H : Heap) (locs : List Loc) (ls : Array Slot), va_P (dC, dI) vwCl ([]) H → va_S A s.heap H locs → lv_has ls 5 [(0, .ref o), (1, .long ac2), (3, .int (nI k)), (4, .int (nI wz))] → W p l e (headSpec wsX5_digest ({ frames := 6, cells := 224, slots := 448, locals := 150 } : Room)).room s m #[Value.ref o] below meth c H locs (68) (136) (MQ below (va_Ql (fun (r : Int64) (_ : Unit) => r = dgF st bc v ax te me tu n cn wd ja re nr nf pc ag le gr cs) (fun _ _ => True) A) #[Value.ref o] s 224 448 A) (F0 m 61 ls []) := by
                intro NN
                induction NN with
                | zero =>
                  intro wz ac2 hmu hw hin H locs ls hP hS hl
                  exact absurd hmu (Nat.not_lt_zero _)
                | succ NN ih61 =>
                  intro wz ac2 hmu hw hin H locs ls hP hS hl
                  have hR := keepR hR0 hS hAn
                  refine lv_iload hx hb dX5_digest_61 (lv_at hl 3 rfl) ?_
                  refine lv_iconst (v := 4) hx hb dX5_digest_63 (by decide) ?_
                  refine lv_icmp_ge (tgt := 86) hx hb dX5_digest_64 (by decide) (fun c_15 => ?_) (fun c_15 => ?_)
                  · have hwn : wz = 4 := by have h9 := leK (a := 4) (b := wz) (by omega) (by omega) c_15; omega
                    refine lv_iinc (v := nI (k + 1)) (lv' := [(3, .int (nI (k + 1))), (0, .ref o), (1, .long ac2), (4, .int (nI wz))]) hx hb dX5_digest_86 hl (k := 2) rfl (nI_1 k) (by decide) rfl (fun ls hl => ?_)
                    refine lv_goto (tgt := 52) hx hb dX5_digest_89 (by decide) ?_
                    refine W.widen (k := 68) (n := 136) (by omega) (by omega) ?_
                    exact ih52 (k + 1) ac2 (by omega) hkl (by rw [hin, hwn, hacc]; rfl) _ _ ls hP hS (lv_sub hl [1, 2, 0] rfl)
                  · have hwl : wz < 4 := ltK (by omega) (by omega) c_15
                    refine lv_lload_n hx hb dX5_digest_67 rfl (lv_at hl 1 rfl) ?_
                    refine lv_aload_n hx hb dX5_digest_68 rfl (lv_at hl 0 rfl) ?_
                    refine lv_iload_n hx hb dX5_digest_69 rfl (lv_at hl 2 rfl) ?_
                    refine lv_iload hx hb dX5_digest_70 (lv_at hl 3 rfl) ?_
                    have hPc : va_P (dC, dI) vwCl ([(o, .inr (iX5, [.ref g, .ref ce, .ref lu, .ref cl, .ref se, .int tu, .int ja, .int re])), (lu, .inr (iX3, [.ref yp, .ref yt, .ref yd, .ref yq, .ref yg, .ref yl, .ref yh])), (yp, .inl (cI, 6, .inl (pc))), (yg, .inl (cI, 6, .inl (ag))), (yl, .inl (cI, 6, .inl (le))), (yh, .inl (cI, 6, .inl (gr)))]) _ := hR.sub [0, 9, 10, 11, 12, 13] rfl
                    have hFc := frZ hS hA
                    refine va_calli (va_runV (As := [.int (nI k), .int (nI wz)]) (rest := [.long ac2]) ⟨hx, hb, hml, hown, hts⟩ (c_p_X5_ofLump l dC dI cI cF tr (H).size o ce lu cl se tu ja re g yp yt yd yq yg yl yh pc ag le gr (nI k) (nI wz) (winK (b := 5) (by omega) (by decide)) (winK (b := 3) (by omega) (by decide))) (cwV 2 hts gX5_digest_X5_ofLump rfl rfl rfl (by decide +kernel) ⟨Nat.le_of_ble_eq_true rfl, Nat.le_of_ble_eq_true rfl⟩) ⟨cBl, (va_recv hK hPc (ci := iX5) (q0 := 0) rfl rfl), (cPre hPc hK hN)⟩ rfl rfl hl.1 rfl (lv_room (Nat.le_of_ble_eq_true rfl)) dX5_digest_72 ⟨(Nat.le_of_ble_eq_true rfl), (Nat.le_of_ble_eq_true rfl)⟩) hS (fun q _ h => hFc q h) hFc (fun r_16 u t H1 locs ht hvm hw_r_16 hB hz1 hk1 hS => ?_)
                    refine W.widen (k := 68) (n := 136) (Nat.le_refl _) (Nat.le_refl _) ?_
                    have hP := keepP hP hk1
                    have hR := keepP hR hk1
                    generalize H1 = H at hP hR hS ⊢
                    have hP : va_P (dC, dI) vwCl ([]) H := hP
                    try dsimp only at hw_r_16
                    subst hw_r_16
                    refine lv_i2l hx hb dX5_digest_75 rfl ?_
                    have hPc : va_P (dC, dI) vwCl [] H := nilP
                    have hFc := frZ hS hA
                    refine va_calll (va_runS (As := [.long ac2, .long ((olF pc ag le gr (nI k) (nI wz)).toInt64)]) (rest := []) ⟨hx, hb, hml, hown, hts⟩ (c_X5_mixed l dC dI cI cF tr (H).size ac2 ((olF pc ag le gr (nI k) (nI wz)).toInt64)) (va_cwS 2 hts gX5_digest_X5_mixed rfl rfl rfl (by decide +kernel) ⟨Nat.le_of_ble_eq_true rfl, Nat.le_of_ble_eq_true rfl⟩) ⟨cBl, (cPre hPc hK hN)⟩ rfl rfl hl.1 rfl (lv_room (Nat.le_of_ble_eq_true rfl)) dX5_digest_76 ⟨(Nat.le_of_ble_eq_true rfl), (Nat.le_of_ble_eq_true rfl)⟩) hS (fun q _ h => hFc q h) hFc (fun r_17 u t H1 locs ht hvm hw_r_17 hB hz1 hk1 hS => ?_)
                    refine W.widen (k := 68) (n := 136) (Nat.le_refl _) (Nat.le_refl _) ?_
                    have hP := keepP hP hk1
                    have hR := keepP hR hk1
                    generalize H1 = H at hP hR hS ⊢
                    have hP : va_P (dC, dI) vwCl ([]) H := hP
                    try dsimp only at hw_r_17
                    subst hw_r_17
                    refine lv_lstore_n (lv' := [(1, .long (mxF ac2 ((olF pc ag le gr (nI k) (nI wz)).toInt64))), (0, .ref o), (3, .int (nI k)), (4, .int (nI wz))]) hx hb dX5_digest_79 rfl hl (by decide) rfl (fun ls hl => ?_)
                    refine lv_iinc (v := nI (wz + 1)) (lv' := [(4, .int (nI (wz + 1))), (1, .long (mxF ac2 ((olF pc ag le gr (nI k) (nI wz)).toInt64))), (0, .ref o), (3, .int (nI k))]) hx hb dX5_digest_80 hl (k := 3) rfl (nI_1 wz) (by decide) rfl (fun ls hl => ?_)
                    refine lv_goto (tgt := 61) hx hb dX5_digest_83 (by decide) ?_
                    refine W.widen (k := 68) (n := 136) (by omega) (by omega) ?_
                    exact ih61 (wz + 1) (mxF ac2 ((olF pc ag le gr (nI k) (nI wz)).toInt64)) (by omega) hwl (by rw [hin]; rfl) _ _ ls hP hS (lv_sub hl [2, 1, 3, 0] rfl)
              refine W.widen (k := 68) (n := 136) (by omega) (by omega) ?_
              exact K61 (4 - 0 + 1) 0 acc (by omega) (Nat.zero_le _) rfl _ _ ls hP hS (lv_sub hl [1, 2, 3, 0] rfl)
        refine W.widen (k := 68) (n := 136) (by omega) (by omega) ?_
        exact K52 (6 - 0 + 1) 0 (mxF (mwL st bc v ax te me tu (maL st bc v cs tu acc 7) n) (ptL st bc v 7)) (by omega) (Nat.zero_le _) (by rw [hacc, hkn]; rfl) _ _ ls hP hS (lv_sub hl [2, 1, 0] rfl)
      · have hkl : k < 9 := ltK (by omega) (by omega) c_1
        refine lv_lload_n hx hb dX5_digest_12 rfl (lv_at hl 1 rfl) ?_
        refine lv_aload_n hx hb dX5_digest_13 rfl (lv_at hl 0 rfl) ?_
        refine lv_iload_n hx hb dX5_digest_14 rfl (lv_at hl 2 rfl) ?_
        have hPc : va_P (dC, dI) vwCl ([(o, .inr (iX5, [.ref g, .ref ce, .ref lu, .ref cl, .ref se, .int tu, .int ja, .int re])), (g, .inr (iX2, [.int (nI n), .ref xa, .ref xt, .ref xm, .ref wh, .ref st, .ref xb, .ref xc])), (xm, .inl (cI, 12, .inl (me))), (xb, .inl (cF, 7, .inr (.inr (.inr (.inr (bc)))))), (cl, .inr (iX0, [.int (nI cn), .int wd, .ref xn, .ref xf])), (xn, .inl (cI, 12, .inl (nr))), (lu, .inr (iX3, [.ref yp, .ref yt, .ref yd, .ref yq, .ref yg, .ref yl, .ref yh])), (yp, .inl (cI, 6, .inl (pc)))]) _ := hR.sub [0, 1, 4, 5, 6, 7, 9, 10] rfl
        have hFc := frZ hS hA
        refine va_calli (va_runV (As := [.int (nI k)]) (rest := [.long acc]) ⟨hx, hb, hml, hown, hts⟩ (c_p_X5_house l dC dI cI cF tr (H).size o ce lu cl se tu ja re g n xa xt xm wh st xb xc me bc cn wd xn xf nr yp yt yd yq yg yl yh pc (nI k) (winK (b := 8) (by omega) (by decide)) hn hcn) (cwV 1 hts gX5_digest_X5_house rfl rfl rfl (by decide +kernel) ⟨Nat.le_of_ble_eq_true rfl, Nat.le_of_ble_eq_true rfl⟩) ⟨cBl, (va_recv hK hPc (ci := iX5) (q0 := 0) rfl rfl), (cPre hPc hK hN)⟩ rfl rfl hl.1 rfl (lv_room (Nat.le_of_ble_eq_true rfl)) dX5_digest_15 ⟨(Nat.le_of_ble_eq_true rfl), (Nat.le_of_ble_eq_true rfl)⟩) hS (fun q _ h => hFc q h) hFc (fun r_18 u t H1 locs ht hvm hw_r_18 hB hz1 hk1 hS => ?_)
        refine W.widen (k := 0) (n := 0) (Nat.le_refl _) (Nat.le_refl _) ?_
        have hP := keepP hP hk1
        have hR := keepP hR hk1
        generalize H1 = H at hP hR hS ⊢
        have hP : va_P (dC, dI) vwCl ([]) H := hP
        try dsimp only at hw_r_18
        subst hw_r_18
        refine lv_i2l hx hb dX5_digest_18 rfl ?_
        have hPc : va_P (dC, dI) vwCl [] H := nilP
        have hFc := frZ hS hA
        refine va_calll (va_runS (As := [.long acc, .long ((hsF n cn me bc tu wd ja re nr pc (nI k)).toInt64)]) (rest := []) ⟨hx, hb, hml, hown, hts⟩ (c_X5_mixed l dC dI cI cF tr (H).size acc ((hsF n cn me bc tu wd ja re nr pc (nI k)).toInt64)) (va_cwS 2 hts gX5_digest_X5_mixed rfl rfl rfl (by decide +kernel) ⟨Nat.le_of_ble_eq_true rfl, Nat.le_of_ble_eq_true rfl⟩) ⟨cBl, (cPre hPc hK hN)⟩ rfl rfl hl.1 rfl (lv_room (Nat.le_of_ble_eq_true rfl)) dX5_digest_19 ⟨(Nat.le_of_ble_eq_true rfl), (Nat.le_of_ble_eq_true rfl)⟩) hS (fun q _ h => hFc q h) hFc (fun r_19 u t H1 locs ht hvm hw_r_19 hB hz1 hk1 hS => ?_)
        refine W.widen (k := 0) (n := 0) (Nat.le_refl _) (Nat.le_refl _) ?_
        have hP := keepP hP hk1
        have hR := keepP hR hk1
        generalize H1 = H at hP hR hS ⊢
        have hP : va_P (dC, dI) vwCl ([]) H := hP
        try dsimp only at hw_r_19
        subst hw_r_19
        refine lv_lstore_n (lv' := [(1, .long (mxF acc ((hsF n cn me bc tu wd ja re nr pc (nI k)).toInt64))), (0, .ref o), (3, .int (nI k))]) hx hb dX5_digest_22 rfl hl (by decide) rfl (fun ls hl => ?_)
        refine lv_iinc (v := nI (k + 1)) (lv' := [(3, .int (nI (k + 1))), (1, .long (mxF acc ((hsF n cn me bc tu wd ja re nr pc (nI k)).toInt64))), (0, .ref o)]) hx hb dX5_digest_23 hl (k := 2) rfl (nI_1 k) (by decide) rfl (fun ls hl => ?_)
        refine lv_goto (tgt := 6) hx hb dX5_digest_26 (by decide) ?_
        refine W.widen (k := 0) (n := 0) (by omega) (by omega) ?_
        exact ih6 (k + 1) (mxF acc ((hsF n cn me bc tu wd ja re nr pc (nI k)).toInt64)) (by omega) hkl (by rw [hacc]; rfl) _ _ ls hP hS (lv_sub hl [2, 1, 0] rfl)
  refine W.widen (k := 0) (n := 0) (by omega) (by omega) ?_
  exact K6 (9 - 0 + 1) 0 5087 (by omega) (Nat.zero_le _) rfl _ _ ls hP hS (lv_sub hl [2, 1, 0] rfl)
