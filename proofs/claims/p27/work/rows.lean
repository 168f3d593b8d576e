section
-- ===== PART A: goes FIRST, ahead of the names: the tables' words, and 'selects' of the private methods out of them =====
/-- a private method of a class that the tables say can be made, by its rows of tables_1 -/
def lw_okq (q : MethodName × Nat) : Prop := (q.1.cls ≠ "java/lang/invoke/MethodHandle" ∧ q.1.cls ≠ "java/lang/invoke/VarHandle") ∧ Cond.instantiable q.1.cls q.2 ∈ tables_1 ∧ Cond.privateMethod q.1 ∈ tables_1 ∧ Cond.instanceMethod q.1 ∈ tables_1
theorem lw_p0 : lw_okq (⟨"Greenwheels$Gearing", "spreadRates", "(I[LGreenwheels$Fraction;)V"⟩, 8) := ⟨⟨by decide +kernel, by decide +kernel⟩, List.mem_of_getElem? (i := 24) (by decide +kernel), List.mem_of_getElem? (i := 51) (by decide +kernel), List.mem_of_getElem? (i := 52) (by decide +kernel)⟩
theorem lw_p1 : lw_okq (⟨"Greenwheels$Gearing", "spreadFromWheel", "(I[LGreenwheels$Fraction;)Z"⟩, 8) := ⟨⟨by decide +kernel, by decide +kernel⟩, List.mem_of_getElem? (i := 24) (by decide +kernel), List.mem_of_getElem? (i := 62) (by decide +kernel), List.mem_of_getElem? (i := 63) (by decide +kernel)⟩
theorem lw_p2 : lw_okq (⟨"Greenwheels$Lumps", "weigh", "(I)V"⟩, 7) := ⟨⟨by decide +kernel, by decide +kernel⟩, List.mem_of_getElem? (i := 116) (by decide +kernel), List.mem_of_getElem? (i := 122) (by decide +kernel), List.mem_of_getElem? (i := 123) (by decide +kernel)⟩
theorem lw_p3 : lw_okq (⟨"Greenwheels$Lumps", "agreesWithAll", "(II)Z"⟩, 7) := ⟨⟨by decide +kernel, by decide +kernel⟩, List.mem_of_getElem? (i := 116) (by decide +kernel), List.mem_of_getElem? (i := 126) (by decide +kernel), List.mem_of_getElem? (i := 127) (by decide +kernel)⟩
theorem lw_p4 : lw_okq (⟨"Greenwheels$TrainSearch", "forget", "()V"⟩, 5) := ⟨⟨by decide +kernel, by decide +kernel⟩, List.mem_of_getElem? (i := 183) (by decide +kernel), List.mem_of_getElem? (i := 189) (by decide +kernel), List.mem_of_getElem? (i := 190) (by decide +kernel)⟩
theorem lw_p5 : lw_okq (⟨"java/lang/Throwable", "fillInStackTrace", "(I)Ljava/lang/Throwable;"⟩, 6) := ⟨⟨by decide +kernel, by decide +kernel⟩, List.mem_of_getElem? (i := 285) (by decide +kernel), List.mem_of_getElem? (i := 283) (by decide +kernel), List.mem_of_getElem? (i := 284) (by decide +kernel)⟩
theorem lw_p6 : lw_okq (⟨"Greenwheels", "demandWheel", "(I)V"⟩, 8) := ⟨⟨by decide +kernel, by decide +kernel⟩, List.mem_of_getElem? (i := 16) (by decide +kernel), List.mem_of_getElem? (i := 362) (by decide +kernel), List.mem_of_getElem? (i := 363) (by decide +kernel)⟩
theorem lw_p7 : lw_okq (⟨"Greenwheels", "passedBy", "(I)LGreenwheels$Fraction;"⟩, 8) := ⟨⟨by decide +kernel, by decide +kernel⟩, List.mem_of_getElem? (i := 16) (by decide +kernel), List.mem_of_getElem? (i := 377) (by decide +kernel), List.mem_of_getElem? (i := 378) (by decide +kernel)⟩
theorem lw_p8 : lw_okq (⟨"Greenwheels", "demandClaim", "(I)V"⟩, 8) := ⟨⟨by decide +kernel, by decide +kernel⟩, List.mem_of_getElem? (i := 16) (by decide +kernel), List.mem_of_getElem? (i := 404) (by decide +kernel), List.mem_of_getElem? (i := 405) (by decide +kernel)⟩
theorem lw_p9 : lw_okq (⟨"Greenwheels$Claims", "standingWithout", "(I)I"⟩, 4) := ⟨⟨by decide +kernel, by decide +kernel⟩, List.mem_of_getElem? (i := 163) (by decide +kernel), List.mem_of_getElem? (i := 422) (by decide +kernel), List.mem_of_getElem? (i := 423) (by decide +kernel)⟩
theorem lw_p10 : lw_okq (⟨"Greenwheels", "doMeshesPassAlike", "()Z"⟩, 8) := ⟨⟨by decide +kernel, by decide +kernel⟩, List.mem_of_getElem? (i := 16) (by decide +kernel), List.mem_of_getElem? (i := 463) (by decide +kernel), List.mem_of_getElem? (i := 464) (by decide +kernel)⟩
theorem lw_p11 : lw_okq (⟨"Greenwheels", "mixedAxles", "(J)J"⟩, 8) := ⟨⟨by decide +kernel, by decide +kernel⟩, List.mem_of_getElem? (i := 16) (by decide +kernel), List.mem_of_getElem? (i := 491) (by decide +kernel), List.mem_of_getElem? (i := 492) (by decide +kernel)⟩
theorem lw_p12 : lw_okq (⟨"Greenwheels", "axleFraction", "(II)LGreenwheels$Fraction;"⟩, 8) := ⟨⟨by decide +kernel, by decide +kernel⟩, List.mem_of_getElem? (i := 16) (by decide +kernel), List.mem_of_getElem? (i := 495) (by decide +kernel), List.mem_of_getElem? (i := 496) (by decide +kernel)⟩
theorem lw_p13 : lw_okq (⟨"Greenwheels", "cellAt", "(II)I"⟩, 8) := ⟨⟨by decide +kernel, by decide +kernel⟩, List.mem_of_getElem? (i := 16) (by decide +kernel), List.mem_of_getElem? (i := 513) (by decide +kernel), List.mem_of_getElem? (i := 514) (by decide +kernel)⟩
theorem lw_p14 : lw_okq (⟨"Greenwheels", "mixedWheels", "(J)J"⟩, 8) := ⟨⟨by decide +kernel, by decide +kernel⟩, List.mem_of_getElem? (i := 16) (by decide +kernel), List.mem_of_getElem? (i := 522) (by decide +kernel), List.mem_of_getElem? (i := 523) (by decide +kernel)⟩
def lw_privs_1 : List (MethodName × Nat) := [(⟨"Greenwheels$Gearing", "spreadRates", "(I[LGreenwheels$Fraction;)V"⟩, 8), (⟨"Greenwheels$Gearing", "spreadFromWheel", "(I[LGreenwheels$Fraction;)Z"⟩, 8), (⟨"Greenwheels$Lumps", "weigh", "(I)V"⟩, 7), (⟨"Greenwheels$Lumps", "agreesWithAll", "(II)Z"⟩, 7), (⟨"Greenwheels$TrainSearch", "forget", "()V"⟩, 5), (⟨"java/lang/Throwable", "fillInStackTrace", "(I)Ljava/lang/Throwable;"⟩, 6), (⟨"Greenwheels", "demandWheel", "(I)V"⟩, 8), (⟨"Greenwheels", "passedBy", "(I)LGreenwheels$Fraction;"⟩, 8), (⟨"Greenwheels", "demandClaim", "(I)V"⟩, 8), (⟨"Greenwheels$Claims", "standingWithout", "(I)I"⟩, 4), (⟨"Greenwheels", "doMeshesPassAlike", "()Z"⟩, 8), (⟨"Greenwheels", "mixedAxles", "(J)J"⟩, 8), (⟨"Greenwheels", "axleFraction", "(II)LGreenwheels$Fraction;"⟩, 8), (⟨"Greenwheels", "cellAt", "(II)I"⟩, 8), (⟨"Greenwheels", "mixedWheels", "(J)J"⟩, 8)]
theorem lw_r1 : ∀ q ∈ lw_privs_1, lw_okq q := List.forall_mem_cons.mpr ⟨lw_p0, List.forall_mem_cons.mpr ⟨lw_p1, List.forall_mem_cons.mpr ⟨lw_p2, List.forall_mem_cons.mpr ⟨lw_p3, List.forall_mem_cons.mpr ⟨lw_p4, List.forall_mem_cons.mpr ⟨lw_p5, List.forall_mem_cons.mpr ⟨lw_p6, List.forall_mem_cons.mpr ⟨lw_p7, List.forall_mem_cons.mpr ⟨lw_p8, List.forall_mem_cons.mpr ⟨lw_p9, List.forall_mem_cons.mpr ⟨lw_p10, List.forall_mem_cons.mpr ⟨lw_p11, List.forall_mem_cons.mpr ⟨lw_p12, List.forall_mem_cons.mpr ⟨lw_p13, List.forall_mem_cons.mpr ⟨lw_p14, fun _ h => absurd h List.not_mem_nil⟩⟩⟩⟩⟩⟩⟩⟩⟩⟩⟩⟩⟩⟩⟩
def lw_privs : List (MethodName × Nat) := lw_privs_1
def lw_tbl : List Cond := k2_sels lw_privs ++ tables_1
theorem lw_privs_ok : ∀ q ∈ lw_privs, lw_okq q := lw_r1
/-! ===== BEGIN words of one list among another's, by their places ===== -/
theorem goodIn_r {big : List Cond} (ws : List Cond) (ps : List Nat) (hp : ws = ps.filterMap (fun i => big[i]?)) (h : ws.all goodWord = true) : GoodIn big ws := by
  intro w hw
  have h1 := List.all_eq_true.mp h w hw
  rw [hp] at hw
  obtain ⟨i, -, hi⟩ := List.mem_filterMap.mp hw
  have hm : w ∈ big := by first | exact List.mem_of_getElem? hi | exact List.getElem?_mem hi
  exact ⟨hm, good_of_word h1⟩
theorem goodIn_app {big a b : List Cond} (ha : GoodIn big a) (hb : GoodIn big b) : GoodIn big (a ++ b) := fun w h => (List.mem_append.mp h).elim (ha w) (hb w)
theorem goodIn_ca {big a b : List Cond} {c : Cond} (ha : GoodIn big (c :: a)) (hb : GoodIn big b) : GoodIn big (c :: (a ++ b)) := fun w h => (List.mem_cons.mp h).elim (fun e => ha w (List.mem_cons.mpr (Or.inl e))) (fun h => (List.mem_append.mp h).elim (fun h => ha w (List.mem_cons.mpr (Or.inr h))) (hb w))
theorem goodIn_sub {big ws : List Cond} (hm : ∀ w ∈ ws, w ∈ big) (h : ws.all goodWord = true) : GoodIn big ws := fun w hw => ⟨hm w hw, good_of_word (List.all_eq_true.mp h w hw)⟩
/-! ===== END ===== -/

/-! ===== BEGIN exceptions that leave a method, and their catching by the caller (launches without stack traces) ===== -/
section VXA
/-! The laws vx_back, vx_callV, vx_callS, vx_callSW, vx_throw0, vx_throwS follow proofs of the library, with one case more: JvmDerived/Free/Laws.lean (Back.of_free), Shelf42/LK1.lean (callV, callS), Shelf/KitTraced.lean (throwNew0V, throwNewS). -/
/-- where a method has thrown q: the class by its name, the cell, what was written, the world -/
def vx_T (XC : String → State → State → Prop) (st : State) (q : Addr) (t : State) (mc ms : Nat) (free : Addr → Prop) : Prop :=
  ∃ (E : String) (ce : Cell) (L : List Loc), XC E st t ∧ t.heap[q]? = some ce ∧ ce.vm = .none ∧ st.vm.findClass E = some ce.cls ∧ st.WarmedH t.vm ∧ st.sameButNew ({ t with vm := st.vm } : State) L mc ms ∧ ∀ z ∈ L, free z.base
def vx_Q (Qc : Array Value → State → Outcome → State → Prop) (XC : String → State → State → Prop) (mc ms : Nat) (free : Addr → Prop) : Array Value → State → Outcome → State → Prop := fun a st o t =>
  (Qc a st o t ∧ ∃ L, FrameEnd st o t L mc ms ∧ ∀ q ∈ L, free q.base) ∨ ∃ q, o = .threw q ∧ vx_T XC st q t mc ms free
/-- a callee that returns or throws -/
def vx_Met (l : Launch) (y : MethodName) (ws : List Cond) (rm : Room) (Pc : Array Value → State → Prop) (Qc : Array Value → State → Outcome → State → Prop) (XC : String → State → State → Prop) (mc ms : Nat) (free : Addr → Prop) : Prop :=
  MetFree l y (headSpec ws rm) Pc (fun _ _ _ _ _ => True) (vx_Q Qc XC mc ms free)
def vx_Post (XC : String → State → State → Prop) (mc ms : Nat) (free : Addr → Prop) : Pt → Array Value → Addr → Pt → Prop := fun A a q B =>
  ∃ (g : JFrame) (mk : MethodId) (t : State) (L : List Loc) (E : String) (ce : Cell), B.U.heap = t.heap ∧ B.U.vm = t.vm ∧ XC E (A.U.calling g mk a) t ∧ t.heap[q]? = some ce ∧ ce.vm = .none ∧ A.U.vm.findClass E = some ce.cls ∧ B.locs = A.locs ++ L ∧ (∀ z ∈ L, free z.base) ∧ B.cells = A.cells + mc ∧ B.slots = A.slots + ms
def vx_Back (l : Launch) (R : Room) (p : Program) (e : Env) (below : List Frame) (s : State) (sargs : Array Value) (y : MethodName) (len W9 : Nat)
    (Pre : Pt → Array Value → Prop) (Post : Pt → Array Value → Option Value → Pt → Prop) (PostX : Pt → Array Value → Addr → Pt → Prop) : Prop :=
  ∀ (m : MethodId) (meth : Method) (c : Code) (A : Pt) (g : JFrame) (ig : Instr) (mk : MethodId) (a : Array Value),
    Stand p l e R s m sargs below meth c A.U A.locs A.cells A.slots → g.method = m → g.locals.size = c.maxLocals → decode c.code g.pc = .ok (ig, len) →
    2 * g.monitorRoom + (g.stack.map fun v => v.category).sum ≤ W9 → A.U.methodNamed? y = some mk → Pre A a →
    (∃ (v : Option Value) (B : Pt), Stand p l e R s m sargs below meth c B.U B.locs B.cells B.slots ∧ Post A a v B ∧
      Steps p.tables e below (doInvoke e (A.U.setTop g) [] mk a).1 (B.U.setTop { g with pc := g.pc + len, stack := v.toList ++ g.stack })) ∨
    (∃ (q : Addr) (B : Pt), Stand p l e R s m sargs below meth c B.U B.locs B.cells B.slots ∧ PostX A a q B ∧
      Steps p.tables e below (doInvoke e (A.U.setTop g) [] mk a).1 ((B.U.setTop g).pushFrame (.throwing q)))
section Payer
variable {l : Launch} {R : Room} {p : Program} {e : Env} {below : List Frame} {s : State} {sargs : Array Value} {y : MethodName} {len W9 : Nat}
theorem vx_back {ws : List Cond} {rm : Room} {Pc : Array Value → State → Prop} {Qc : Array Value → State → Outcome → State → Prop} {XC : String → State → State → Prop} {mc ms : Nat} {free : Addr → Prop} {bytes : ByteArray} {maxL : Nat} {ret : Option FieldType}
    (hM : vx_Met l y ws rm Pc Qc XC mc ms free) (hblind : FrameBlind Pc) (hrc : rm.cells = mc) (hrs : rm.slots = ms)
    (hframes : rm.frames + 1 ≤ R.frames) (hlocals : W9 + (maxL + 11) + rm.locals ≤ R.locals)
    (hws : ∀ w ∈ ws, ∀ a' U, s.WarmedH U.vm → w.before a' U = true) (hcode : Cond.code y bytes maxL ret ∈ ws) (hinit : ∀ a' U, s.WarmedH U.vm → (Cond.initialized y.cls).before a' U = true) :
    vx_Back l R p e below s sargs y len W9 (PreOf R mc ms Pc) (PostOf Qc mc ms free) (vx_Post XC mc ms free) := by
  intro m meth c A g ig mk a X hg hsize hdg hW hn hp
  have h1 : (headSpec ws rm).pre.before a A.U = true := atoms_intro fun w hw => hws w hw _ _ X.warmed
  have h2 : (Cond.code y bytes maxL ret).before a A.U = true := hws _ hcode _ _ X.warmed
  have h3 : (Cond.initialized y.cls).before a A.U = true := hinit _ _ X.warmed
  have h4 : A.cells + (headSpec ws rm).room.cells ≤ R.cells := by rw [show (headSpec ws rm).room.cells = mc from hrc]; exact hp.1
  have h5 : A.slots + (headSpec ws rm).room.slots ≤ R.slots := by rw [show (headSpec ws rm).room.slots = ms from hrs]; exact hp.2.1
  have hPc : Pc a (A.U.calling g mk a) := hblind _ _ _ _ hp.2.2
  obtain ⟨U, Ls, c0, s0⟩ := A
  dsimp only [Pt.U, Pt.locs, Pt.cells, Pt.slots] at h1 h2 h3 h4 h5 X hn hPc ⊢
  obtain ⟨methY, cY, hmY, hcY, -, hlY, -, -, -, -⟩ := Cond.code_spec hn h2
  obtain ⟨kY, hkY, -⟩ := className_of_methodNamed hn
  have hinitY : kY.init = .initialized := Cond.initialized_spec (findClass_of_methodNamed hn) hkY h3
  have h : At U g.method c below := by rw [hg]; exact X.here
  have hlocals9 : W9 + (maxL + 11) + (headSpec ws rm).room.locals ≤ R.locals := hlocals
  have happ : (headSpec ws rm).appliesLoose y e.platform (U.calling g mk a) = true :=
    Spec.appliesLoose_calling (g := g) h hdg hn hkY hinitY
      (X.room_calling (g := g) (R' := (headSpec ws rm).room) hsize hmY hcY hframes (by rw [hlY]; omega) h4 h5) h1
  obtain ⟨mid, hmid⟩ := h.above
  have hfr : (U.setTop g).frames = (.java g :: mid) ++ below := by rw [State.frames_setTop' g h.top, hmid]; rfl
  obtain ⟨o, s₂, hsteps, -, hend, hq⟩ := Steps.callFree hM p X.admits X.cas X.clock (acts := []) hfr happ hPc trivial
  have hq' : vx_Q Qc XC mc ms free a (U.calling g mk a) o s₂ := hq
  rw [State.frames_setTop' g h.top] at hend
  obtain ⟨g₀, hg0⟩ := Option.isSome_iff_exists.mp h.top
  obtain ⟨r, hr⟩ := State.topJava?_eq_some.mp hg0
  have hr' : (({ U with heap := s₂.heap, slotsUsed := s₂.slotsUsed } : State).setVm s₂.vm).frames = .java g₀ :: r := hr
  rcases hq' with ⟨hqc, L, hfe, hL⟩ | ⟨q, rfl, E, ce, L, hx, hce, hcv, hcl, hW₂, hsm, hL⟩
  · obtain ⟨⟨v, rfl⟩, hW₂, e2, q2, q3, q4, q5, q6⟩ := id hfe
    have e3 : s₂ = ({ (U.calling g mk a).setFrames s₂.frames with heap := s₂.heap, slotsUsed := s₂.slotsUsed } : State).setVm s₂.vm := by
      have : s₂ = ({ s₂ with vm := (U.calling g mk a).vm } : State).setVm s₂.vm := rfl
      rw [e2] at this
      exact this
    obtain ⟨c₂, i₂, len₂, hc₂, hd₂, hf₂⟩ := hend
    have hW' : U.WarmedH s₂.vm := hW₂
    have hcc : c₂ = c := by
      have h1 : s₂.code? g.method = U.code? g.method := by
        rw [State.code?_eq, State.code?_eq, hW'.alike.method?]
      exact Option.some.inj (hc₂.symm.trans (h1.trans h.code))
    subst hcc
    have hlen : len₂ = len := by rw [hdg] at hd₂; cases hd₂; rfl
    subst hlen
    have hs₂ : s₂ = (({ U with heap := s₂.heap, slotsUsed := s₂.slotsUsed } : State).setVm s₂.vm).setTop { g with pc := g.pc + len₂, stack := v.toList ++ g.stack } := by
      refine e3.trans ?_
      rw [hf₂, State.calling_eq h.top, State.setFrames_setFrames, State.setTop_of_frames _ hr', hr]
      rfl
    have hsame : U.sameButNew ({ U with heap := s₂.heap, slotsUsed := s₂.slotsUsed } : State) L mc ms := by
      refine ⟨?_, q2, q3, q4, q5, q6⟩
      obtain ⟨t, ht, -⟩ := State.frames_cons hr
      show ({ U with heap := s₂.heap, slotsUsed := s₂.slotsUsed } : State) = { U.setFrames U.frames with heap := s₂.heap, slotsUsed := s₂.slotsUsed }
      rw [State.setFrames_self ht]
    subst hg
    refine Or.inl ⟨v, ⟨(({ U with heap := s₂.heap, slotsUsed := s₂.slotsUsed } : State).setVm s₂.vm), Ls ++ L, c0 + mc, s0 + ms⟩,
      ⟨X.admits, X.cas, X.clock, X.frames, X.room, X.hears, X.method, X.code, (X.here.setHeapUsed s₂.heap s₂.slotsUsed).setVm hW'.alike, X.tail, State.WarmedH.trans X.warmed hW', X.limits, X.bytes, X.same.trans (hsame.setVm s.vm)⟩,
      ⟨g, mk, s₂, L, rfl, rfl, hqc, rfl, hL, rfl, rfl⟩, ?_⟩
    show Steps p.tables e below _ ((({ U with heap := s₂.heap, slotsUsed := s₂.slotsUsed } : State).setVm s₂.vm).setTop { g with pc := g.pc + len₂, stack := v.toList ++ g.stack })
    rw [← hs₂]
    exact hsteps
  · obtain ⟨e2, q2, q3, q4, q5, q6⟩ := id hsm
    have e3 : s₂ = ({ (U.calling g mk a).setFrames s₂.frames with heap := s₂.heap, slotsUsed := s₂.slotsUsed } : State).setVm s₂.vm := by
      have : s₂ = ({ s₂ with vm := (U.calling g mk a).vm } : State).setVm s₂.vm := rfl
      rw [e2] at this
      exact this
    have hf₂ : s₂.frames = .throwing q :: .java g :: U.frames.tail := hend
    have hW' : U.WarmedH s₂.vm := hW₂
    have hs₂ : s₂ = ((({ U with heap := s₂.heap, slotsUsed := s₂.slotsUsed } : State).setVm s₂.vm).setTop g).pushFrame (.throwing q) := by
      refine e3.trans ?_
      rw [hf₂, State.calling_eq h.top, State.setFrames_setFrames, State.pushFrame, State.frames_setTop _ hr', State.setTop_of_frames _ hr', State.setFrames_setFrames, hr]
      rfl
    have hsame : U.sameButNew ({ U with heap := s₂.heap, slotsUsed := s₂.slotsUsed } : State) L mc ms := by
      refine ⟨?_, q2, q3, q4, q5, q6⟩
      obtain ⟨t, ht, -⟩ := State.frames_cons hr
      show ({ U with heap := s₂.heap, slotsUsed := s₂.slotsUsed } : State) = { U.setFrames U.frames with heap := s₂.heap, slotsUsed := s₂.slotsUsed }
      rw [State.setFrames_self ht]
    subst hg
    refine Or.inr ⟨q, ⟨(({ U with heap := s₂.heap, slotsUsed := s₂.slotsUsed } : State).setVm s₂.vm), Ls ++ L, c0 + mc, s0 + ms⟩,
      ⟨X.admits, X.cas, X.clock, X.frames, X.room, X.hears, X.method, X.code, (X.here.setHeapUsed s₂.heap s₂.slotsUsed).setVm hW'.alike, X.tail, State.WarmedH.trans X.warmed hW', X.limits, X.bytes, X.same.trans (hsame.setVm s.vm)⟩,
      ⟨g, mk, s₂, L, E, ce, rfl, rfl, hx, hce, hcv, hcl, rfl, hL, rfl, rfl⟩, ?_⟩
    show Steps p.tables e below _ (((({ U with heap := s₂.heap, slotsUsed := s₂.slotsUsed } : State).setVm s₂.vm).setTop g).pushFrame (.throwing q))
    rw [← hs₂]
    exact hsteps
end Payer
section Calls
variable {p : Program} {l : Launch} {e : Env} {R : Room} {s : State} {m : MethodId} {args : Array Value} {below : List Frame} {meth : Method} {c : Code} {T : State} {locs : List Loc} {cells slots : Nat}
theorem vx_callV (X : Stand p l e R s m args below meth c T locs cells slots) (hexec : p.tables.exec = Jvm.exec) {own C : String} {index : Nat} {y : MethodName} {bytes : ByteArray} {maxL : Nat} {ret : Option FieldType}
    (hown : s.vm.findClass own = some m.cls) (hlink : (Cond.methodLink own index y).before args s = true) (hinst : (Cond.instanceMethod y).before args s = true) (hsel : (Cond.selects C y y).before args s = true)
    (hcode : (Cond.code y bytes maxL ret).before args s = true) (hy : y.cls ≠ "java/lang/invoke/MethodHandle" ∧ y.cls ≠ "java/lang/invoke/VarHandle")
    {W9 : Nat} {Pre : Pt → Array Value → Prop} {Post : Pt → Array Value → Option Value → Pt → Prop} {PostX : Pt → Array Value → Addr → Pt → Prop} (hK : vx_Back l R p e below s args y 3 W9 Pre Post PostX)
    {b : Addr} {cellB : Cell} (hcell : T.heap[b]? = some cellB) (hobj : cellB.vm.isStatics = false) (hcls : s.vm.findClass C = some cellB.cls)
    {g : JFrame} (hg : g.method = m) (hsize : g.locals.size = c.maxLocals) {argsL rest : List Value} (hlen : ∀ sig, parseMethodDescriptor y.desc = some sig → argsL.length = sig.parameters.length)
    (hstack : g.stack = argsL.reverse ++ .ref b :: rest) (hW : 2 * g.monitorRoom + (rest.map fun v => v.category).sum ≤ W9) (hdg : decode c.code g.pc = .ok (.invokevirtual index, 3))
    (hpre : ∀ vm₁, s.WarmedH vm₁ → Pre ⟨T.setVm vm₁, locs, cells, slots⟩ (Value.ref b :: argsL).toArray) :
    (∃ (v : Option Value) (vm₁ : Vm) (B : Pt), s.WarmedH vm₁ ∧ Stand p l e R s m args below meth c B.U B.locs B.cells B.slots ∧ Post ⟨T.setVm vm₁, locs, cells, slots⟩ (Value.ref b :: argsL).toArray v B ∧
      ∀ target, Steps p.tables e below (B.U.setTop { g with pc := g.pc + 3, stack := v.toList ++ rest }) target → Steps p.tables e below (T.setTop g) target) ∨
    (∃ (q : Addr) (vm₁ : Vm) (B : Pt), s.WarmedH vm₁ ∧ Stand p l e R s m args below meth c B.U B.locs B.cells B.slots ∧ PostX ⟨T.setVm vm₁, locs, cells, slots⟩ (Value.ref b :: argsL).toArray q B ∧
      Steps p.tables e below (T.setTop g) ((B.U.setTop { g with stack := rest }).pushFrame (.throwing q))) := by
  obtain ⟨mk, methM, hnamed, hmethM, hstM, habM⟩ := Cond.instanceMethod_spec hinst
  obtain ⟨methM', cM, hmethM', -, -, -, -, -, -, hsigM⟩ := Cond.code_spec hnamed hcode
  cases hmethM.symm.trans hmethM'
  obtain ⟨c2, r2, m2, q1, q2, q3, q4, kP, hkP, hkPi⟩ := Cond.selects_spec hsel
  cases hcls.symm.trans q1
  cases (State.methodFound?_of_named hnamed hy).symm.trans q2
  cases hnamed.symm.trans q3
  have hselP : selectMethod e.platform s.vm cellB.cls mk = .method mk := by rw [Launch.admits_selectMethod X.admits]; exact q4
  obtain ⟨vm₁, X₁, hstep₁⟩ := X.invokevirtual hexec hown hlink hnamed hmethM hstM hkP hkPi hy (a := b) (cell := cellB) hcell
    (fun z h => by rw [h] at hobj; cases hobj) hselP hmethM habM hkP hkPi (g := g) hg (argsL := argsL) (rest := rest) (hlen _ hsigM) hstack hdg
  rcases hK m meth c ⟨T.setVm vm₁, locs, cells, slots⟩ { g with stack := rest } (.invokevirtual index) mk (Value.ref b :: argsL).toArray X₁ hg hsize hdg hW (X₁.named hnamed) (hpre vm₁ X₁.warmed) with ⟨v, B, X', hpost, hsteps⟩ | ⟨q, B, X', hpost, hsteps⟩
  · exact Or.inl ⟨v, vm₁, B, X₁.warmed, X', hpost, fun target h => hstep₁ _ fun acts => by rw [doInvoke_state]; exact hsteps.trans h⟩
  · exact Or.inr ⟨q, vm₁, B, X₁.warmed, X', hpost, hstep₁ _ fun acts => by rw [doInvoke_state]; exact hsteps⟩
theorem vx_callS (X : Stand p l e R s m args below meth c T locs cells slots) (hexec : p.tables.exec = Jvm.exec) {own : String} {index : Nat} {y : MethodName} {bytes : ByteArray} {maxL : Nat} {ret : Option FieldType}
    (hown : s.vm.findClass own = some m.cls) (hlink : (Cond.methodLink own index y).before args s = true) (hstat : (Cond.static y).before args s = true) (hinit : (Cond.initialized y.cls).before args s = true)
    (hcode : (Cond.code y bytes maxL ret).before args s = true) (hy : y.cls ≠ "java/lang/invoke/MethodHandle" ∧ y.cls ≠ "java/lang/invoke/VarHandle")
    {W9 : Nat} {Pre : Pt → Array Value → Prop} {Post : Pt → Array Value → Option Value → Pt → Prop} {PostX : Pt → Array Value → Addr → Pt → Prop} (hK : vx_Back l R p e below s args y 3 W9 Pre Post PostX)
    {g : JFrame} (hg : g.method = m) (hsize : g.locals.size = c.maxLocals) {argsL rest : List Value} (hlen : ∀ sig, parseMethodDescriptor y.desc = some sig → argsL.length = sig.parameters.length)
    (hstack : g.stack = argsL.reverse ++ rest) (hW : 2 * g.monitorRoom + (rest.map fun v => v.category).sum ≤ W9) (hdg : decode c.code g.pc = .ok (.invokestatic index, 3))
    (hpre : ∀ vm₁, s.WarmedH vm₁ → Pre ⟨T.setVm vm₁, locs, cells, slots⟩ argsL.toArray) :
    (∃ (v : Option Value) (vm₁ : Vm) (B : Pt), s.WarmedH vm₁ ∧ Stand p l e R s m args below meth c B.U B.locs B.cells B.slots ∧ Post ⟨T.setVm vm₁, locs, cells, slots⟩ argsL.toArray v B ∧
      ∀ target, Steps p.tables e below (B.U.setTop { g with pc := g.pc + 3, stack := v.toList ++ rest }) target → Steps p.tables e below (T.setTop g) target) ∨
    (∃ (q : Addr) (vm₁ : Vm) (B : Pt), s.WarmedH vm₁ ∧ Stand p l e R s m args below meth c B.U B.locs B.cells B.slots ∧ PostX ⟨T.setVm vm₁, locs, cells, slots⟩ argsL.toArray q B ∧
      Steps p.tables e below (T.setTop g) ((B.U.setTop { g with stack := rest }).pushFrame (.throwing q))) := by
  obtain ⟨mk, hnamed⟩ := Cond.code_named hcode
  obtain ⟨methM, cM, hmethM, -, -, -, -, -, -, hsigM⟩ := Cond.code_spec hnamed hcode
  have hstatic : methM.isStatic = true := Cond.static_spec hnamed hmethM hstat
  obtain ⟨kP, hkP, -⟩ := className_of_methodNamed hnamed
  have hinitP : kP.init = .initialized := Cond.initialized_spec (findClass_of_methodNamed hnamed) hkP hinit
  obtain ⟨vm₁, X₁, hstep₁⟩ := X.invokestatic hexec hown hlink hnamed hmethM hstatic hkP hinitP hy (g := g) hg (argsL := argsL) (rest := rest) (hlen _ hsigM) hstack hdg
  rcases hK m meth c ⟨T.setVm vm₁, locs, cells, slots⟩ { g with stack := rest } (.invokestatic index) mk argsL.toArray X₁ hg hsize hdg hW (X₁.named hnamed) (hpre vm₁ X₁.warmed) with ⟨v, B, X', hpost, hsteps⟩ | ⟨q, B, X', hpost, hsteps⟩
  · exact Or.inl ⟨v, vm₁, B, X₁.warmed, X', hpost, fun target h => hstep₁ _ fun acts => by rw [doInvoke_state]; exact hsteps.trans h⟩
  · exact Or.inr ⟨q, vm₁, B, X₁.warmed, X', hpost, hstep₁ _ fun acts => by rw [doInvoke_state]; exact hsteps⟩
end Calls
theorem vx_cls {s : State} {T : State} {vm₁ : Vm} {E : String} {k : ClassId} (hW : s.WarmedH vm₁) (h : (T.setVm vm₁).vm.findClass E = some k) : s.vm.findClass E = some k := by
  have h1 : vm₁.findClass E = some k := h
  rw [hW.alike.findClass] at h1
  exact h1
/-- the method's frame g, with q thrown over it -/
def vx_W (p : Program) (l : Launch) (e : Env) (R : Room) (s : State) (m : MethodId) (args : Array Value) (below : List Frame) (meth : Method) (c : Code) (H : Heap) (locs : List Loc) (cells slots : Nat) (Q : State → Prop) (g : JFrame) (q : Addr) : Prop :=
  ∀ T : State, T.heap = H → Stand p l e R s m args below meth c T locs cells slots → ∃ t, Steps p.tables e below ((T.setTop g).pushFrame (.throwing q)) t ∧ Q t
def vx_Run (p : Program) (l : Launch) (e : Env) (R : Room) (s : State) (m : MethodId) (args : Array Value) (below : List Frame) (meth : Method) (c : Code) (H : Heap) (locs : List Loc) (cells slots mc ms : Nat) (g : JFrame) (rest : List Value) (Qa : State → Outcome → State → Prop) (XC : String → State → State → Prop) (free : Addr → Prop) : Prop :=
  ∀ T : State, T.heap = H → Stand p l e R s m args below meth c T locs cells slots →
    (∃ (v : Option Value) (st₀ t T' : State) (L : List Loc), st₀.heap = H ∧ Stand p l e R s m args below meth c T' (locs ++ L) (cells + mc) (slots + ms) ∧ (∀ q ∈ L, free q.base) ∧ T'.heap = t.heap ∧ T'.vm = t.vm ∧ Qa st₀ (.returned v) t ∧
      Goes p e below T g T' { g with pc := g.pc + 3, stack := v.toList ++ rest }) ∨
    (∃ (q : Addr) (st₀ t T' : State) (L : List Loc) (E : String) (ce : Cell), st₀.heap = H ∧ Stand p l e R s m args below meth c T' (locs ++ L) (cells + mc) (slots + ms) ∧ (∀ z ∈ L, free z.base) ∧ T'.heap = t.heap ∧ T'.vm = t.vm ∧ XC E st₀ t ∧ t.heap[q]? = some ce ∧ ce.vm = .none ∧ s.vm.findClass E = some ce.cls ∧
      Steps p.tables e below (T.setTop g) ((T'.setTop { g with stack := rest }).pushFrame (.throwing q)))
def vx_X {S : Type} (px : S → Prop) (B : String → S → State → Prop) (A : Nat → Prop) : String → State → State → Prop := fun E st t => ∃ u : S, px u ∧ B E u t ∧ va_F A st t
section Runs
variable {p : Program} {l : Launch} {e : Env} {R : Room} {s : State} {m : MethodId} {args : Array Value} {below : List Frame} {meth : Method} {c : Code} {H : Heap} {locs : List Loc} {cells slots : Nat}
variable {y : MethodName} {bytes cc : ByteArray} {maxL nL mc ms n index : Nat} {ret : Option FieldType} {ws : List Cond} {rm : Room} {Pc : Array Value → State → Prop} {Qc : Array Value → State → Outcome → State → Prop} {XC : String → State → State → Prop} {free : Addr → Prop} {Ts : List Cond} {own C : String} {b : Addr} {As rest : List Value} {g : JFrame}
theorem vx_callBack (cb : CallB R s args own index y bytes maxL ret ws rm mc ms n) (hM : vx_Met l y ws rm Pc Qc XC mc ms free) (hbl : FrameBlind Pc) : vx_Back l R p e below s args y 3 8 (PreOf R mc ms Pc) (PostOf Qc mc ms free) (vx_Post XC mc ms free) := by
  obtain ⟨hrc, hrs, hfr, hlo, hws, hcw, -, hini, -⟩ := cb
  exact vx_back (bytes := bytes) (maxL := maxL) (ret := ret) hM hbl hrc hrs hfr hlo hws hcw (fun a' U hW => word_at hW (Or.inl (by first | rfl | simp [Cond.onTables, Cond.keeps, Cond.steady])) hini)
theorem vx_runV (S : CallFix p m c cc nL s args Ts own) (hM : vx_Met l y ws rm Pc Qc XC mc ms free) (cw : CallW R s args own C index y bytes maxL ret ws rm mc ms n) (hp : PreV s H C b Pc As)
    (hg : g.method = m) (hn : As.length = n) (hsize : g.locals.size = nL) (hstack : g.stack = As.reverse ++ .ref b :: rest) (hW : 2 * g.monitorRoom + (rest.map fun v => v.category).sum ≤ 8) (hdg : decode cc g.pc = .ok (.invokevirtual index, 3)) (hf : cells + mc ≤ R.cells ∧ slots + ms ≤ R.slots) :
    vx_Run p l e R s m args below meth c H locs cells slots mc ms g rest (Qc (Value.ref b :: As).toArray) XC free := by
  have hK : vx_Back l R p e below s args y 3 8 (PreOf R mc ms Pc) (PostOf Qc mc ms free) (vx_Post XC mc ms free) := vx_callBack cw.1 hM hp.1
  obtain ⟨⟨-, -, -, -, -, -, hcode, -, hy, hlen, hl⟩, hin, hse⟩ := cw
  obtain ⟨hx, hb, hml, ho, -⟩ := S
  obtain ⟨-, ⟨cellB, hcB, hoB, hclB⟩, hPc⟩ := hp
  intro T hT X
  rcases vx_callV X hx (C := C) (bytes := bytes) (maxL := maxL) (ret := ret) ho hl hin hse hcode hy hK (by rw [hT]; exact hcB) hoB hclB hg (hsize.trans hml.symm) (argsL := As) (rest := rest) (fun sig h => hn.trans (hlen sig h)) hstack hW (by rw [hb]; exact hdg)
    (fun vm₁ hW₁ => ⟨hf.1, hf.2, hPc (T.setVm vm₁) hT hW₁⟩) with ⟨v, vm₁, ⟨U', l2, c2, s2⟩, hW₁, X', ⟨g', mk, t, L, e1, e2, hq, h1, hL, h2, h3⟩, st⟩ | ⟨q, vm₁, ⟨U', l2, c2, s2⟩, hW₁, X', ⟨g', mk, t, L, E, ce, e1, e2, hq, hce, hcv, hcl, h1, hL, h2, h3⟩, st⟩
  · dsimp only [Pt.U, Pt.locs, Pt.cells, Pt.slots] at X' e1 e2 h1 h2 h3 st
    subst h1; subst h2; subst h3
    exact Or.inl ⟨v, (T.setVm vm₁).calling g' mk (Value.ref b :: As).toArray, t, U', L, hT, X', hL, e1, e2, hq, st⟩
  · dsimp only [Pt.U, Pt.locs, Pt.cells, Pt.slots] at X' e1 e2 h1 h2 h3 st hcl
    subst h1; subst h2; subst h3
    exact Or.inr ⟨q, (T.setVm vm₁).calling g' mk (Value.ref b :: As).toArray, t, U', L, E, ce, hT, X', hL, e1, e2, hq, hce, hcv, vx_cls hW₁ hcl, st⟩
theorem vx_runS (S : CallFix p m c cc nL s args Ts own) (hM : vx_Met l y ws rm Pc Qc XC mc ms free) (cw : CallB R s args own index y bytes maxL ret ws rm mc ms n ∧ (Cond.static y).before args s = true) (hp : PreS s H Pc As)
    (hg : g.method = m) (hn : As.length = n) (hsize : g.locals.size = nL) (hstack : g.stack = As.reverse ++ rest) (hW : 2 * g.monitorRoom + (rest.map fun v => v.category).sum ≤ 8) (hdg : decode cc g.pc = .ok (.invokestatic index, 3)) (hf : cells + mc ≤ R.cells ∧ slots + ms ≤ R.slots) :
    vx_Run p l e R s m args below meth c H locs cells slots mc ms g rest (Qc As.toArray) XC free := by
  have hK : vx_Back l R p e below s args y 3 8 (PreOf R mc ms Pc) (PostOf Qc mc ms free) (vx_Post XC mc ms free) := vx_callBack cw.1 hM hp.1
  obtain ⟨⟨-, -, -, -, -, -, hcode, hini, hy, hlen, hl⟩, hstt⟩ := cw
  obtain ⟨hx, hb, hml, ho, -⟩ := S
  intro T hT X
  rcases vx_callS X hx (bytes := bytes) (maxL := maxL) (ret := ret) ho hl hstt hini hcode hy hK hg (hsize.trans hml.symm) (argsL := As) (rest := rest) (fun sig h => hn.trans (hlen sig h)) hstack hW (by rw [hb]; exact hdg)
    (fun vm₁ hW₁ => ⟨hf.1, hf.2, hp.2 (T.setVm vm₁) hT hW₁⟩) with ⟨v, vm₁, ⟨U', l2, c2, s2⟩, hW₁, X', ⟨g', mk, t, L, e1, e2, hq, h1, hL, h2, h3⟩, st⟩ | ⟨q, vm₁, ⟨U', l2, c2, s2⟩, hW₁, X', ⟨g', mk, t, L, E, ce, e1, e2, hq, hce, hcv, hcl, h1, hL, h2, h3⟩, st⟩
  · dsimp only [Pt.U, Pt.locs, Pt.cells, Pt.slots] at X' e1 e2 h1 h2 h3 st
    subst h1; subst h2; subst h3
    exact Or.inl ⟨v, (T.setVm vm₁).calling g' mk As.toArray, t, U', L, hT, X', hL, e1, e2, hq, st⟩
  · dsimp only [Pt.U, Pt.locs, Pt.cells, Pt.slots] at X' e1 e2 h1 h2 h3 st hcl
    subst h1; subst h2; subst h3
    exact Or.inr ⟨q, (T.setVm vm₁).calling g' mk As.toArray, t, U', L, E, ce, hT, X', hL, e1, e2, hq, hce, hcv, vx_cls hW₁ hcl, st⟩
end Runs
section Rows
variable {p : Program} {l : Launch} {e : Env} {R : Room} {s : State} {m : MethodId} {args : Array Value} {below : List Frame} {meth : Method} {c : Code} {H : Heap} {locs : List Loc} {cells slots : Nat} {Q : State → Prop}
variable {mc ms : Nat} {free : Addr → Prop} {A0 A1 : Nat → Prop} {H0 : Heap} {a : Array Value} {pc : Nat} {ls : Array Slot} {st0 rest : List Value}
theorem vx_keep {st₀ t T' : State} {L : List Loc} (h0 : st₀.heap = H) (e1 : T'.heap = t.heap) (hS : va_S A0 H0 H locs) (hA : ∀ q, q < H.size → A1 q → A0 q) (hf : ∀ q, free q → A0 q) (hL : ∀ q ∈ L, free q.base) (hF : va_F A1 st₀ t) :
    H.size ≤ T'.heap.size ∧ (∀ q : Nat, q < H.size → ¬ A1 q → T'.heap[q]? = H[q]?) ∧ va_S A0 H0 T'.heap (locs ++ L) := by
  obtain ⟨hz, hk⟩ := hF
  rw [h0] at hz hk
  exact ⟨by rw [e1]; exact hz, fun q h1 h2 => by rw [e1]; exact hk q h1 h2,
    ⟨Nat.le_trans hS.1 (by rw [e1]; exact hz), fun q h1 h2 => by rw [e1, hk q (Nat.lt_of_lt_of_le h1 hS.1) (fun z => h2 (hA q (Nat.lt_of_lt_of_le h1 hS.1) z))]; exact hS.2.1 q h1 h2, fun q hq => by
      rcases List.mem_append.mp hq with h | h
      · exact hS.2.2 q h
      · exact hf _ (hL q h)⟩⟩
theorem vx_calli {S SX : Type} {post : Int32 → S → Prop} {px : SX → Prop} {B : S → State → Prop} {BX : String → SX → State → Prop} {AX : Nat → Prop} (hr : vx_Run p l e R s m args below meth c H locs cells slots mc ms (F0 m pc ls st0) rest (va_Qi post B A1 a) (vx_X px BX AX) free) (hS : va_S A0 H0 H locs) (hA : ∀ q, q < H.size → A1 q → A0 q) (hf : ∀ q, free q → A0 q) (hAX : ∀ q, q < H.size → AX q → A0 q)
    (kx : ∀ (E : String) (ce : Cell) (q9 : Addr) (u : SX) (t : State) (H1 : Heap) (locs1 : List Loc), t.heap = H1 → s.vm.Alike t.vm → px u → BX E u t → H.size ≤ H1.size → (∀ q : Nat, q < H.size → ¬ AX q → H1[q]? = H[q]?) → va_S A0 H0 H1 locs1 → H1[q9]? = some ce → ce.vm = .none → s.vm.findClass E = some ce.cls → vx_W p l e R s m args below meth c H1 locs1 (cells + mc) (slots + ms) Q (F0 m pc ls rest) q9)
    (kk : ∀ (r : Int32) (u : S) (t : State) (H1 : Heap) (locs1 : List Loc), t.heap = H1 → s.vm.Alike t.vm → post r u → B u t → H.size ≤ H1.size → (∀ q : Nat, q < H.size → ¬ A1 q → H1[q]? = H[q]?) → va_S A0 H0 H1 locs1 → W p l e R s m args below meth c H1 locs1 (cells + mc) (slots + ms) Q (F0 m (pc + 3) ls (.int r :: rest))) : W p l e R s m args below meth c H locs cells slots Q (F0 m pc ls st0) := by
  intro T hT X
  rcases hr T hT X with ⟨v, st₀, t, T', L, h0, X', hL, e1, e2, ⟨⟨r, u, hv, hp, hb⟩, hF⟩, st⟩ | ⟨q, st₀, t, T', L, E, ce, h0, X', hL, e1, e2, ⟨u, hp, hb, hF⟩, hce, hcv, hcl, st⟩
  · cases hv
    obtain ⟨k1, k2, k3⟩ := vx_keep h0 e1 hS hA hf hL hF
    obtain ⟨t2, a1, b1⟩ := kk r u t T'.heap (locs ++ L) e1.symm (by rw [← e2]; exact X'.warmed.alike) hp hb k1 k2 k3 T' rfl X'
    exact ⟨t2, st t2 a1, b1⟩
  · obtain ⟨k1, k2, k3⟩ := vx_keep h0 e1 hS hAX hf hL hF
    obtain ⟨t2, a1, b1⟩ := kx E ce q u t T'.heap (locs ++ L) e1.symm (by rw [← e2]; exact X'.warmed.alike) hp hb k1 k2 k3 (by rw [e1]; exact hce) hcv hcl T' rfl X'
    exact ⟨t2, st.trans a1, b1⟩
theorem vx_calll {S SX : Type} {post : Int64 → S → Prop} {px : SX → Prop} {B : S → State → Prop} {BX : String → SX → State → Prop} {AX : Nat → Prop} (hr : vx_Run p l e R s m args below meth c H locs cells slots mc ms (F0 m pc ls st0) rest (va_Ql post B A1 a) (vx_X px BX AX) free) (hS : va_S A0 H0 H locs) (hA : ∀ q, q < H.size → A1 q → A0 q) (hf : ∀ q, free q → A0 q) (hAX : ∀ q, q < H.size → AX q → A0 q)
    (kx : ∀ (E : String) (ce : Cell) (q9 : Addr) (u : SX) (t : State) (H1 : Heap) (locs1 : List Loc), t.heap = H1 → s.vm.Alike t.vm → px u → BX E u t → H.size ≤ H1.size → (∀ q : Nat, q < H.size → ¬ AX q → H1[q]? = H[q]?) → va_S A0 H0 H1 locs1 → H1[q9]? = some ce → ce.vm = .none → s.vm.findClass E = some ce.cls → vx_W p l e R s m args below meth c H1 locs1 (cells + mc) (slots + ms) Q (F0 m pc ls rest) q9)
    (kk : ∀ (r : Int64) (u : S) (t : State) (H1 : Heap) (locs1 : List Loc), t.heap = H1 → s.vm.Alike t.vm → post r u → B u t → H.size ≤ H1.size → (∀ q : Nat, q < H.size → ¬ A1 q → H1[q]? = H[q]?) → va_S A0 H0 H1 locs1 → W p l e R s m args below meth c H1 locs1 (cells + mc) (slots + ms) Q (F0 m (pc + 3) ls (.long r :: rest))) : W p l e R s m args below meth c H locs cells slots Q (F0 m pc ls st0) := by
  intro T hT X
  rcases hr T hT X with ⟨v, st₀, t, T', L, h0, X', hL, e1, e2, ⟨⟨r, u, hv, hp, hb⟩, hF⟩, st⟩ | ⟨q, st₀, t, T', L, E, ce, h0, X', hL, e1, e2, ⟨u, hp, hb, hF⟩, hce, hcv, hcl, st⟩
  · cases hv
    obtain ⟨k1, k2, k3⟩ := vx_keep h0 e1 hS hA hf hL hF
    obtain ⟨t2, a1, b1⟩ := kk r u t T'.heap (locs ++ L) e1.symm (by rw [← e2]; exact X'.warmed.alike) hp hb k1 k2 k3 T' rfl X'
    exact ⟨t2, st t2 a1, b1⟩
  · obtain ⟨k1, k2, k3⟩ := vx_keep h0 e1 hS hAX hf hL hF
    obtain ⟨t2, a1, b1⟩ := kx E ce q u t T'.heap (locs ++ L) e1.symm (by rw [← e2]; exact X'.warmed.alike) hp hb k1 k2 k3 (by rw [e1]; exact hce) hcv hcl T' rfl X'
    exact ⟨t2, st.trans a1, b1⟩
theorem vx_callf {S SX : Type} {post : UInt32 → S → Prop} {px : SX → Prop} {B : S → State → Prop} {BX : String → SX → State → Prop} {AX : Nat → Prop} (hr : vx_Run p l e R s m args below meth c H locs cells slots mc ms (F0 m pc ls st0) rest (va_Qf post B A1 a) (vx_X px BX AX) free) (hS : va_S A0 H0 H locs) (hA : ∀ q, q < H.size → A1 q → A0 q) (hf : ∀ q, free q → A0 q) (hAX : ∀ q, q < H.size → AX q → A0 q)
    (kx : ∀ (E : String) (ce : Cell) (q9 : Addr) (u : SX) (t : State) (H1 : Heap) (locs1 : List Loc), t.heap = H1 → s.vm.Alike t.vm → px u → BX E u t → H.size ≤ H1.size → (∀ q : Nat, q < H.size → ¬ AX q → H1[q]? = H[q]?) → va_S A0 H0 H1 locs1 → H1[q9]? = some ce → ce.vm = .none → s.vm.findClass E = some ce.cls → vx_W p l e R s m args below meth c H1 locs1 (cells + mc) (slots + ms) Q (F0 m pc ls rest) q9)
    (kk : ∀ (r : UInt32) (u : S) (t : State) (H1 : Heap) (locs1 : List Loc), t.heap = H1 → s.vm.Alike t.vm → post r u → B u t → H.size ≤ H1.size → (∀ q : Nat, q < H.size → ¬ A1 q → H1[q]? = H[q]?) → va_S A0 H0 H1 locs1 → W p l e R s m args below meth c H1 locs1 (cells + mc) (slots + ms) Q (F0 m (pc + 3) ls (.float r :: rest))) : W p l e R s m args below meth c H locs cells slots Q (F0 m pc ls st0) := by
  intro T hT X
  rcases hr T hT X with ⟨v, st₀, t, T', L, h0, X', hL, e1, e2, ⟨⟨r, u, hv, hp, hb⟩, hF⟩, st⟩ | ⟨q, st₀, t, T', L, E, ce, h0, X', hL, e1, e2, ⟨u, hp, hb, hF⟩, hce, hcv, hcl, st⟩
  · cases hv
    obtain ⟨k1, k2, k3⟩ := vx_keep h0 e1 hS hA hf hL hF
    obtain ⟨t2, a1, b1⟩ := kk r u t T'.heap (locs ++ L) e1.symm (by rw [← e2]; exact X'.warmed.alike) hp hb k1 k2 k3 T' rfl X'
    exact ⟨t2, st t2 a1, b1⟩
  · obtain ⟨k1, k2, k3⟩ := vx_keep h0 e1 hS hAX hf hL hF
    obtain ⟨t2, a1, b1⟩ := kx E ce q u t T'.heap (locs ++ L) e1.symm (by rw [← e2]; exact X'.warmed.alike) hp hb k1 k2 k3 (by rw [e1]; exact hce) hcv hcl T' rfl X'
    exact ⟨t2, st.trans a1, b1⟩
theorem vx_calld {S SX : Type} {post : UInt64 → S → Prop} {px : SX → Prop} {B : S → State → Prop} {BX : String → SX → State → Prop} {AX : Nat → Prop} (hr : vx_Run p l e R s m args below meth c H locs cells slots mc ms (F0 m pc ls st0) rest (va_Qd post B A1 a) (vx_X px BX AX) free) (hS : va_S A0 H0 H locs) (hA : ∀ q, q < H.size → A1 q → A0 q) (hf : ∀ q, free q → A0 q) (hAX : ∀ q, q < H.size → AX q → A0 q)
    (kx : ∀ (E : String) (ce : Cell) (q9 : Addr) (u : SX) (t : State) (H1 : Heap) (locs1 : List Loc), t.heap = H1 → s.vm.Alike t.vm → px u → BX E u t → H.size ≤ H1.size → (∀ q : Nat, q < H.size → ¬ AX q → H1[q]? = H[q]?) → va_S A0 H0 H1 locs1 → H1[q9]? = some ce → ce.vm = .none → s.vm.findClass E = some ce.cls → vx_W p l e R s m args below meth c H1 locs1 (cells + mc) (slots + ms) Q (F0 m pc ls rest) q9)
    (kk : ∀ (r : UInt64) (u : S) (t : State) (H1 : Heap) (locs1 : List Loc), t.heap = H1 → s.vm.Alike t.vm → post r u → B u t → H.size ≤ H1.size → (∀ q : Nat, q < H.size → ¬ A1 q → H1[q]? = H[q]?) → va_S A0 H0 H1 locs1 → W p l e R s m args below meth c H1 locs1 (cells + mc) (slots + ms) Q (F0 m (pc + 3) ls (.double r :: rest))) : W p l e R s m args below meth c H locs cells slots Q (F0 m pc ls st0) := by
  intro T hT X
  rcases hr T hT X with ⟨v, st₀, t, T', L, h0, X', hL, e1, e2, ⟨⟨r, u, hv, hp, hb⟩, hF⟩, st⟩ | ⟨q, st₀, t, T', L, E, ce, h0, X', hL, e1, e2, ⟨u, hp, hb, hF⟩, hce, hcv, hcl, st⟩
  · cases hv
    obtain ⟨k1, k2, k3⟩ := vx_keep h0 e1 hS hA hf hL hF
    obtain ⟨t2, a1, b1⟩ := kk r u t T'.heap (locs ++ L) e1.symm (by rw [← e2]; exact X'.warmed.alike) hp hb k1 k2 k3 T' rfl X'
    exact ⟨t2, st t2 a1, b1⟩
  · obtain ⟨k1, k2, k3⟩ := vx_keep h0 e1 hS hAX hf hL hF
    obtain ⟨t2, a1, b1⟩ := kx E ce q u t T'.heap (locs ++ L) e1.symm (by rw [← e2]; exact X'.warmed.alike) hp hb k1 k2 k3 (by rw [e1]; exact hce) hcv hcl T' rfl X'
    exact ⟨t2, st.trans a1, b1⟩
theorem vx_callv {S SX : Type} {post : S → Prop} {px : SX → Prop} {B : S → State → Prop} {BX : String → SX → State → Prop} {AX : Nat → Prop} (hr : vx_Run p l e R s m args below meth c H locs cells slots mc ms (F0 m pc ls st0) rest (va_Qv post B A1 a) (vx_X px BX AX) free) (hS : va_S A0 H0 H locs) (hA : ∀ q, q < H.size → A1 q → A0 q) (hf : ∀ q, free q → A0 q) (hAX : ∀ q, q < H.size → AX q → A0 q)
    (kx : ∀ (E : String) (ce : Cell) (q9 : Addr) (u : SX) (t : State) (H1 : Heap) (locs1 : List Loc), t.heap = H1 → s.vm.Alike t.vm → px u → BX E u t → H.size ≤ H1.size → (∀ q : Nat, q < H.size → ¬ AX q → H1[q]? = H[q]?) → va_S A0 H0 H1 locs1 → H1[q9]? = some ce → ce.vm = .none → s.vm.findClass E = some ce.cls → vx_W p l e R s m args below meth c H1 locs1 (cells + mc) (slots + ms) Q (F0 m pc ls rest) q9)
    (kk : ∀ (u : S) (t : State) (H1 : Heap) (locs1 : List Loc), t.heap = H1 → s.vm.Alike t.vm → post u → B u t → H.size ≤ H1.size → (∀ q : Nat, q < H.size → ¬ A1 q → H1[q]? = H[q]?) → va_S A0 H0 H1 locs1 → W p l e R s m args below meth c H1 locs1 (cells + mc) (slots + ms) Q (F0 m (pc + 3) ls (rest))) : W p l e R s m args below meth c H locs cells slots Q (F0 m pc ls st0) := by
  intro T hT X
  rcases hr T hT X with ⟨v, st₀, t, T', L, h0, X', hL, e1, e2, ⟨⟨u, hv, hp, hb⟩, hF⟩, st⟩ | ⟨q, st₀, t, T', L, E, ce, h0, X', hL, e1, e2, ⟨u, hp, hb, hF⟩, hce, hcv, hcl, st⟩
  · cases hv
    obtain ⟨k1, k2, k3⟩ := vx_keep h0 e1 hS hA hf hL hF
    obtain ⟨t2, a1, b1⟩ := kk u t T'.heap (locs ++ L) e1.symm (by rw [← e2]; exact X'.warmed.alike) hp hb k1 k2 k3 T' rfl X'
    exact ⟨t2, st t2 a1, b1⟩
  · obtain ⟨k1, k2, k3⟩ := vx_keep h0 e1 hS hAX hf hL hF
    obtain ⟨t2, a1, b1⟩ := kx E ce q u t T'.heap (locs ++ L) e1.symm (by rw [← e2]; exact X'.warmed.alike) hp hb k1 k2 k3 (by rw [e1]; exact hce) hcv hcl T' rfl X'
    exact ⟨t2, st.trans a1, b1⟩
/-- caught by the row x of this method's table; the rows ahead don't take it -/
theorem vx_catch {own name : String} {E : String} {ce : Cell} {q : Addr} (hown : s.vm.findClass own = some m.cls) (pre : List ExceptionTableEntry) (x : ExceptionTableEntry) (suf : List ExceptionTableEntry) (hsplit : c.exceptionTable.toList = pre ++ x :: suf)
    (hpass : ∀ z ∈ pre, covers z pc = false ∨ (z.catchType ≠ 0 ∧ ∃ nm : String, (Cond.classLink own z.catchType nm).before args s = true ∧ va_Nc E nm s)) (hx : covers x pc = true) (h0 : x.catchType ≠ 0)
    (hlink : (Cond.classLink own x.catchType name).before args s = true) (hcast : (Cond.castable E name).before args s = true) (hcell : H[q]? = some ce) (hv : ce.vm = .none) (hcl : s.vm.findClass E = some ce.cls)
    (kk : W p l e R s m args below meth c H locs cells slots Q (F0 m x.handlerPc ls [.ref q])) : vx_W p l e R s m args below meth c H locs cells slots Q (F0 m pc ls rest) q := by
  intro T hT X
  have hpl : e.platform.magicAccessors = ({} : Platform).magicAccessors := by rw [X.admits.platform]
  obtain ⟨c3, c4, hc3, hc4, hasg⟩ := Cond.castable_spec hcast
  cases Option.some.inj (hc3.symm.trans hcl)
  obtain ⟨c5, hc5, hcl5⟩ := Cond.classLink_spec hown hlink e.platform hpl
  cases Option.some.inj (hc4.symm.trans hc5)
  obtain ⟨vm', X', st⟩ := X.thenCaughtThrough q (g := F0 m pc ls rest) rfl (Steps.refl _) (by rw [hT]; exact hcell) (by rw [hv]; rfl) (by obtain ⟨k9, h9, -⟩ := Vm.findClass_spec hcl; exact ⟨k9, h9⟩) pre x suf hsplit
    (fun z hz => by
      rcases hpass z hz with h | ⟨hz0, nm, hl1, hn1⟩
      · exact Or.inl h
      · obtain ⟨c6, hc6, hcl6⟩ := Cond.classLink_spec hown hl1 e.platform hpl
        obtain ⟨a8, b8, h1, h2, h3⟩ := hn1
        cases Option.some.inj (h1.symm.trans hcl)
        cases Option.some.inj (h2.symm.trans hc6)
        exact Or.inr ⟨hz0, _, hcl6, h3⟩) hx (Or.inr ⟨h0, c4, hcl5, hasg⟩)
  obtain ⟨t, a1, b1⟩ := kk (T.setVm vm') hT X'
  exact ⟨t, st.trans a1, b1⟩
end Rows
section Ends
variable {p : Program} {l : Launch} {e : Env} {R : Room} {s : State} {m : MethodId} {args : Array Value} {below : List Frame} {meth : Method} {c : Code} {H : Heap} {locs : List Loc} {cells slots : Nat} {Q : State → Prop}
variable {mc ms : Nat} {free : Addr → Prop} {A0 A1 : Nat → Prop} {H0 : Heap} {a : Array Value} {ls : Array Slot} {st0 rest : List Value}
variable {Qc : Array Value → State → Outcome → State → Prop} {XC : String → State → State → Prop}
/-- what a body that may throw owes at its end -/
def vx_MQ (below : List Frame) (Qc : Array Value → State → Outcome → State → Prop) (XC : String → State → State → Prop) (a : Array Value) (s : State) (mc ms : Nat) (free : Addr → Prop) : State → Prop := fun t =>
  ∃ o, t.status = .running ∧ Ended t below o ∧ vx_Q Qc XC mc ms free a s o t
theorem vx_ret {g : JFrame} {mc ms : Nat} (k : W p l e R s m args below meth c H locs cells slots (MQ below Qc args s mc ms free) g) : W p l e R s m args below meth c H locs cells slots (vx_MQ below Qc XC args s mc ms free) g := by
  intro T hT X
  obtain ⟨t, a1, o, b1, b2, b3, b4⟩ := k T hT X
  exact ⟨t, a1, o, b1, b2, Or.inl ⟨b3, b4⟩⟩
/-- not caught here: it goes on to the caller -/
theorem vx_widen {g : JFrame} {q : Addr} {k n : Nat} (h1 : cells ≤ k) (h2 : slots ≤ n) (kk : vx_W p l e R s m args below meth c H locs k n Q g q) : vx_W p l e R s m args below meth c H locs cells slots Q g q := fun T hT X => kk T hT (stand_widen X h1 h2)
theorem vx_out {pc : Nat} {E : String} {ce : Cell} {q : Addr} {mc ms : Nat} (hout : ∀ x ∈ c.exceptionTable.toList, covers x pc = false) (hlocks : meth.locks = false) (hcell : H[q]? = some ce) (hv : ce.vm = .none) (hcl : s.vm.findClass E = some ce.cls)
    (hx : ∀ t : State, t.heap = H → s.vm.Alike t.vm → XC E s t) (hf : ∀ z ∈ locs, free z.base) (hc : cells ≤ mc) (hs : slots ≤ ms) :
    vx_W p l e R s m args below meth c H locs cells slots (vx_MQ below Qc XC args s mc ms free) (F0 m pc ls rest) q := by
  intro T hT X
  obtain ⟨st1, hrun, hend, hW, hsm⟩ := X.leaveThrown q (g := F0 m pc ls rest) rfl rfl rfl hout hlocks
  have hcell9 : (T.setFrames (.throwing q :: below)).heap[q]? = some ce := by
    show T.heap[q]? = some ce
    rw [hT]; exact hcell
  exact ⟨_, st1, .threw q, hrun, hend, Or.inr ⟨q, rfl, E, ce, locs, hx _ hT hW.alike, hcell9, hv, hcl, hW, hsm.mono hc hs, hf⟩⟩
theorem vx_frame {U : State} {k n : Nat} (h : s.sameButNew ({ U with vm := s.vm } : State) locs k n) : s.heap.size ≤ U.heap.size ∧ ∀ q : Nat, q < s.heap.size → (∀ z ∈ locs, z.base ≠ q) → U.heap[q]? = s.heap[q]? := by
  obtain ⟨-, h2, -, -, -, h6⟩ := h
  refine ⟨h2, fun q hq hz => ?_⟩
  obtain ⟨c9, e1, e2, e3, e4⟩ := h6 q _ (Array.getElem?_eq_getElem hq)
  have hs : c9.slots = (s.heap[q]).slots := Array.ext_getElem? fun i => e4 i fun hm => hz _ hm rfl
  have h9 : c9 = s.heap[q] := by
    rw [hs] at e2
    exact e2
  have e5 : U.heap[q]? = some c9 := e1
  rw [e5, h9, Array.getElem?_eq_getElem hq]
/-- the words of a throw but the four that speak of the heap -/
def vx_no (w : Cond) : Bool := decide (w ≠ .isRef (.static Bundle.tN "UNASSIGNED_STACK" Bundle.steD)) && decide (w ≠ .isRef (.static Bundle.tN "SUPPRESSED_SENTINEL" Bundle.listD)) && decide (w ≠ .laysStatic Bundle.tN "UNASSIGNED_STACK" Bundle.steD) && decide (w ≠ .laysStatic Bundle.tN "SUPPRESSED_SENTINEL" Bundle.listD)
def vx_at0 (own : String) (ic : Nat) (X : String) (names : List String) : List Cond := (Bundle.ownAtoms0 own ic X names).filter vx_no
def vx_atS (own : String) (ic : Nat) (X : String) (names : List String) : List Cond := (Bundle.ownAtoms own ic X names).filter vx_no
/-- a word that the tables alone decide, or a good one -/
def vx_ot (w : Cond) : Bool := w.onTables || goodWord w
theorem vx_ot_at {args a' : Array Value} {s U : State} {w : Cond} (hW : s.WarmedH U.vm) (hvm : s.vm = U.vm) (hg : vx_ot w = true) (h : w.before args s = true) : w.before a' U = true := by
  simp only [vx_ot, Bool.or_eq_true] at hg
  rcases hg with hg | hg
  · exact va_tabs hg hvm h
  · exact word_at hW (good_of_word hg) h
/-- a list's words: the good ones out of the method's own list, the others by premises of their own -/
theorem vx_hat {args : Array Value} {s : State} {L B : List Cond} (h1 : ∀ w ∈ L.filter goodWord, w.before args s = true) (h2 : ∀ w ∈ L.filter (fun w => !goodWord w), w ∈ B) (h3 : ∀ w ∈ B, w.before args s = true) : ∀ w ∈ L, w.before args s = true := by
  intro w hw
  by_cases g : goodWord w = true
  · exact h1 w (List.mem_filter.mpr ⟨hw, g⟩)
  · refine h3 w (h2 w (List.mem_filter.mpr ⟨hw, ?_⟩))
    show (!goodWord w) = true
    cases hgw : goodWord w
    · rfl
    · exact absurd hgw g
theorem vx_c {args : Array Value} {s : State} {w : Cond} {B : List Cond} (h : w.before args s = true) (t : ∀ w ∈ B, w.before args s = true) : ∀ w' ∈ w :: B, w'.before args s = true := fun w' h' => (List.mem_cons.mp h').elim (fun e => by rw [e]; exact h) (t w')
theorem vx_n {args : Array Value} {s : State} : ∀ w ∈ ([] : List Cond), w.before args s = true := fun _ h => nomatch h
theorem vx_own {args : Array Value} {s : State} {L : List Cond} (h1 : ∀ w ∈ L.filter vx_no, w.before args s = true)
    (hU : (Cond.isRef (.static Bundle.tN "UNASSIGNED_STACK" Bundle.steD)).before args s = true) (hN : (Cond.isRef (.static Bundle.tN "SUPPRESSED_SENTINEL" Bundle.listD)).before args s = true)
    (lU : (Cond.laysStatic Bundle.tN "UNASSIGNED_STACK" Bundle.steD).before args s = true) (lN : (Cond.laysStatic Bundle.tN "SUPPRESSED_SENTINEL" Bundle.listD).before args s = true) : ∀ w ∈ L, w.before args s = true := by
  intro w hw
  by_cases e1 : w = .isRef (.static Bundle.tN "UNASSIGNED_STACK" Bundle.steD)
  · rw [e1]; exact hU
  · by_cases e2 : w = .isRef (.static Bundle.tN "SUPPRESSED_SENTINEL" Bundle.listD)
    · rw [e2]; exact hN
    · by_cases e3 : w = .laysStatic Bundle.tN "UNASSIGNED_STACK" Bundle.steD
      · rw [e3]; exact lU
      · by_cases e4 : w = .laysStatic Bundle.tN "SUPPRESSED_SENTINEL" Bundle.listD
        · rw [e4]; exact lN
        · exact h1 w (List.mem_filter.mpr ⟨hw, by unfold vx_no; rw [decide_eq_true e1, decide_eq_true e2, decide_eq_true e3, decide_eq_true e4]; rfl⟩)
/-- where a static field lies, its class's statics cell in H -/
def vx_L (C n d : String) (A : Nat → Prop) (U : State) (H : Heap) : Prop := ∃ (c : ClassId) (k : Class) (i : Nat) (f : Field) (a : Nat) (cell : Cell), U.vm.findClass C = some c ∧ U.fieldFound? C n d = some (c, k, i, f) ∧ f.isStatic = true ∧ k.statics = some a ∧ H[a]? = some cell ∧ cell.vm.isStatics = true ∧ cell.cls = c ∧ f.slot < cell.slots.size ∧ k.staticTypes[f.slot]? = some f.type ∧ ¬ A a
theorem vx_L.moved {C n d : String} {A : Nat → Prop} {u U : State} {H : Heap} (hvm : u.vm.Alike U.vm) (h : vx_L C n d A u H) : vx_L C n d A U H := by
  obtain ⟨c, k, i, f, a, cell, h1, h2, h3, h4, h5, h6, h7, h8, h9, h10⟩ := h
  obtain ⟨k', hi', he⟩ := State.fieldFound?_setVm hvm h2
  exact ⟨c, k', i, f, a, cell, by rw [hvm.findClass]; exact h1, hi', h3, by rw [he]; exact h4, h5, h6, h7, h8, by rw [he]; exact h9, h10⟩
theorem vx_L.kept {C n d : String} {A : Nat → Prop} {U : State} {H H1 : Heap} (h : vx_L C n d A U H) (hq : ∀ a : Nat, a < H.size → ¬ A a → H1[a]? = H[a]?) : vx_L C n d A U H1 := by
  obtain ⟨c, k, i, f, a, cell, h1, h2, h3, h4, h5, h6, h7, h8, h9, h10⟩ := h
  exact ⟨c, k, i, f, a, cell, h1, h2, h3, h4, by rw [hq a (Array.getElem?_eq_some_iff.mp h5).1 h10]; exact h5, h6, h7, h8, h9, h10⟩
theorem vx_L.narrow {C n d : String} {A B : Nat → Prop} {U : State} {H : Heap} (h : vx_L C n d A U H) (hAB : ∀ q, B q → A q) : vx_L C n d B U H := by
  obtain ⟨c, k, i, f, a, cell, h1, h2, h3, h4, h5, h6, h7, h8, h9, h10⟩ := h
  exact ⟨c, k, i, f, a, cell, h1, h2, h3, h4, h5, h6, h7, h8, h9, fun z => h10 (hAB _ z)⟩
theorem vx_L.word {C n d : String} {A : Nat → Prop} {s : State} {args : Array Value} (h : vx_L C n d A s s.heap) : (Cond.laysStatic C n d).before args s = true := by
  obtain ⟨c, k, i, f, a, cell, h1, h2, h3, h4, h5, h6, h7, h8, h9, -⟩ := h
  show (Cond.laysStatic C n d).holds args s none s [] = true
  exact Cond.laysStatic_of h1 h2 h3 h4 h5 h6 h7 h8 h9
/-- .. and what it holds: null or some reference -/
def vx_Zq (C n d : String) (A : Nat → Prop) (U : State) (H : Heap) : Prop := va_Zq C n d A U H ∧ vx_L C n d A U H
theorem vx_Zq.moved {C n d : String} {A : Nat → Prop} {u U : State} {H : Heap} (hvm : u.vm.Alike U.vm) (h : vx_Zq C n d A u H) : vx_Zq C n d A U H := ⟨va_Zq.moved hvm h.1, vx_L.moved hvm h.2⟩
theorem vx_Zq.kept {C n d : String} {A : Nat → Prop} {U : State} {H H1 : Heap} (h : vx_Zq C n d A U H) (hq : ∀ a : Nat, a < H.size → ¬ A a → H1[a]? = H[a]?) : vx_Zq C n d A U H1 := ⟨va_Zq.kept h.1 hq, vx_L.kept h.2 hq⟩
theorem vx_Zq.narrow {C n d : String} {A B : Nat → Prop} {U : State} {H : Heap} (h : vx_Zq C n d A U H) (hAB : ∀ q, B q → A q) : vx_Zq C n d B U H := ⟨va_Zq.narrow h.1 hAB, vx_L.narrow h.2 hAB⟩
theorem vx_Zqof {args : Array Value} {s : State} {C n d : String} {A : Nat → Prop} (hl : (Cond.laysStatic C n d).before args s = true) (hini : (Cond.initialized C).before args s = true) (h : (Cond.isRef (.static C n d)).before args s = true) (hA : ∀ a : Nat, a < s.heap.size → ¬ A a) : vx_Zq C n d A s s.heap := by
  refine ⟨va_Zqof hl hini h hA, ?_⟩
  obtain ⟨c, k, i, f, a, cell, h1, h2, h3, h4, h5, h6, h7, h8, h9⟩ := Cond.laysStatic_spec hl
  exact ⟨c, k, i, f, a, cell, h1, h2, h3, h4, h5, h6, h7, h8, h9, hA a (Array.getElem?_eq_some_iff.mp h5).1⟩
theorem vx_isRef {C n d : String} {v : Value} {A : Nat → Prop} {s : State} {args : Array Value} (h : va_Z C n d v A s s.heap) (hv : v.isRef = true) : (Cond.isRef (.static C n d)).before args s = true := by
  obtain ⟨cf, kf, fi, f, a, cell, h1, h2, h3, h4, h5, h6, h7, -⟩ := h
  have he : (Term.static C n d).eval args s none [] s = some v := by
    simp [Term.eval, State.fieldNamed?, h1, h2, h4, h5, h6, h7]
  simp only [Cond.before, Cond.holds, Cond.value, he]
  cases v <;> simp_all [Value.isRef]
theorem vx_isRefq {C n d : String} {A : Nat → Prop} {s : State} {args : Array Value} (h : va_Zq C n d A s s.heap) : (Cond.isRef (.static C n d)).before args s = true := by
  rcases h with h | ⟨t, h⟩
  · exact vx_isRef h rfl
  · exact vx_isRef h rfl
/-- the same frame, seen from here: as if the method were called anew in this heap -/
theorem vx_rebase {T : State} (X : Stand p l e R s m args below meth c T locs cells slots) {R' : Room} (hf : R'.frames ≤ R.frames) (hl : R'.locals ≤ R.locals) (hc : cells + R'.cells ≤ R.cells) (hs : slots + R'.slots ≤ R.slots) :
    Stand p l e R' ((T.setVm s.vm).setFrames (.invoking m args :: below)) m args below meth c T [] 0 0 := by
  have htop : (T.setVm s.vm).topJava?.isSome := X.here.top
  have hF : ((T.setVm s.vm).setFrames (.invoking m args :: below)).frames = .invoking m args :: below := State.frames_setFrames _ (State.cur_lt_of_top htop)
  obtain ⟨g₀, hg0⟩ := Option.isSome_iff_exists.mp htop
  obtain ⟨r, hr⟩ := State.topJava?_eq_some.mp hg0
  have hl9 : e.platform.stackLimits (T.setVm s.vm).me = e.platform.stackLimits s.me := X.limits
  have hb9 : (T.setVm s.vm).me.stackBytes = s.me.stackBytes := X.bytes
  refine ⟨X.admits, X.cas, X.clock, hF, ?_, X.hears, X.method, X.code, X.here, X.tail, X.warmed, ?_, ?_, ?_⟩
  · have h := X.room
    have hU : ((T.setVm s.vm).setFrames (.invoking m args :: below)).localsInUse = s.localsInUse := by
      rw [State.localsInUse_invoking hF (meth := meth) (c := c) X.method X.code, State.localsInUse_invoking X.frames X.method X.code]
    simp only [State.hasRoom, Bool.and_eq_true, decide_eq_true_eq] at h ⊢
    obtain ⟨⟨⟨⟨h1, h2, h3, h4, h5, h6⟩, h7⟩, h8⟩, h9⟩ := h
    rw [X.frames, List.length_cons] at h2 h3
    have q1 := X.heapSize
    have q2 := X.used
    simp only [hF, hU, List.length_cons, State.stackLimits_setFrames, State.stackBytes_setFrames, hl9, hb9]
    refine ⟨⟨⟨⟨by omega, by omega, by omega, by omega, by omega, h6⟩, ?_⟩, ?_⟩, X.book⟩
    · show T.heap.size + R'.cells ≤ e.platform.maxCells
      omega
    · show T.slotsUsed + R'.slots ≤ e.platform.maxSlots
      omega
  · rw [State.stackLimits_setFrames]; rfl
  · rw [State.stackBytes_setFrames]; rfl
  · refine ⟨?_, Nat.le_refl _, Nat.le_refl _, ?_, ?_, fun a c9 h9 => ⟨c9, h9, rfl, rfl, fun _ _ => rfl⟩⟩
    · obtain ⟨t, ht, -⟩ := State.frames_cons hr
      show T.setVm s.vm = { ((T.setVm s.vm).setFrames (.invoking m args :: below)).setFrames (T.setVm s.vm).frames with heap := T.heap, slotsUsed := T.slotsUsed }
      rw [State.setFrames_setFrames, State.setFrames_self ht]
      rfl
    · show T.slotsUsed = T.slotsUsed + ((T.heap.toList.drop T.heap.size).map (·.slots.size)).sum
      rw [List.drop_eq_nil_of_le (Nat.le_of_eq Array.length_toList)]
      rfl
    · show ((T.heap.toList.drop T.heap.size).map (·.slots.size)).sum ≤ 0
      rw [List.drop_eq_nil_of_le (Nat.le_of_eq Array.length_toList)]
      exact Nat.le_refl _
/-- 'throw new E()': new; dup; invokespecial; athrow -/
theorem vx_throw0 {cc : ByteArray} {pc : Nat} (hexec : p.tables.exec = Jvm.exec) (hb : c.code = cc) (hl : l.stackTraces = false) {own cls : String} {names : List String} {ik ic mc ms : Nat} {A : Nat → Prop}
    (hown : s.vm.findClass own = some m.cls) (hcls : Bundle.fit cls = true) (hnames : ∀ n ∈ names, Bundle.fit n = true)
    (hk : (Cond.classLink own ik cls).before args s = true) (hini : (Cond.initialized cls).before args s = true) (hat : ∀ w ∈ vx_at0 own ic cls names, w.before args s = true)
    (hgood : ∀ w ∈ Cond.classLink own ik cls :: Cond.initialized cls :: vx_at0 own ic cls names, vx_ot w = true)
    (hU : vx_Zq Bundle.tN "UNASSIGNED_STACK" Bundle.steD A s s.heap) (hN : vx_Zq Bundle.tN "SUPPRESSED_SENTINEL" Bundle.listD A s s.heap) (hS : va_S A s.heap H locs) (hsize : ls.size = c.maxLocals)
    (d0 : decode cc pc = .ok (.new ik, 3)) (d3 : decode cc (pc + 3) = .ok (.dup, 1)) (d4 : decode cc (pc + 4) = .ok (.invokespecial ic, 3)) (d7 : decode cc (pc + 7) = .ok (.athrow, 1))
    (hout : ∀ x ∈ c.exceptionTable.toList, covers x (pc + 7) = false)
    (hRframes : names.length + 3 < R.frames) (hRlocals : (rest.map fun v => v.category).sum + (13 * (names.length + 1) + 42) ≤ R.locals) (hRcells : cells + 1 ≤ R.cells) (hRslots : slots + 6 ≤ R.slots) (hlocks : meth.locks = false)
    (hx : ∀ t : State, s.vm.Alike t.vm → H.size ≤ t.heap.size → (∀ q : Nat, q < H.size → t.heap[q]? = H[q]?) → XC cls s t)
    (hf : ∀ z ∈ locs, free z.base) (hc : cells + 1 ≤ mc) (hs : slots + 6 ≤ ms) :
    W p l e R s m args below meth c H locs cells slots (vx_MQ below Qc XC args s mc ms free) (F0 m pc ls rest) := by
  intro T hT X
  have htr : e.platform.stackTraces = false := (show e.platform.stackTraces = l.stackTraces by rw [X.admits.platform]).trans hl
  have Y := vx_rebase X (R' := { frames := R.frames, locals := R.locals, cells := 1, slots := 6 }) (Nat.le_refl _) (Nat.le_refl _) hRcells hRslots
  obtain ⟨s', hA⟩ : ∃ z, z = (T.setVm s.vm).setFrames (.invoking m args :: below) := ⟨_, rfl⟩
  rw [← hA] at Y
  have hvm : s'.vm = s.vm := by rw [hA]; rfl
  have hhp : s'.heap = H := by rw [hA]; exact hT
  have hW0 : s.WarmedH s'.vm := by rw [hvm]; exact State.WarmedH.refl s
  have hat' : ∀ w ∈ vx_at0 own ic cls names, w.before args s' = true := fun w hw => vx_ot_at hW0 hvm.symm (hgood w (List.mem_cons_of_mem _ (List.mem_cons_of_mem _ hw))) (hat w hw)
  have hk' : (Cond.classLink own ik cls).before args s' = true := vx_ot_at hW0 hvm.symm (hgood _ List.mem_cons_self) hk
  have hini' : (Cond.initialized cls).before args s' = true := vx_ot_at hW0 hvm.symm (hgood _ (List.mem_cons_of_mem _ List.mem_cons_self)) hini
  have hU' : vx_Zq Bundle.tN "UNASSIGNED_STACK" Bundle.steD A s' s'.heap := by rw [hhp]; exact vx_Zq.moved hW0.alike (hU.kept hS.2.1)
  have hN' : vx_Zq Bundle.tN "SUPPRESSED_SENTINEL" Bundle.listD A s' s'.heap := by rw [hhp]; exact vx_Zq.moved hW0.alike (hN.kept hS.2.1)
  have h : ∀ w ∈ Bundle.ownAtoms0 own ic cls names, w.before args s' = true := vx_own hat' (vx_isRefq hU'.1) (vx_isRefq hN'.1) hU'.2.word hN'.2.word
  have hown' : s'.vm.findClass own = some m.cls := by rw [hvm]; exact hown
  have hins : (Cond.instantiable cls 6).before args s' = true := h _ (by simp [Bundle.ownAtoms0])
  obtain ⟨vm₁, cX, kX, hfX, hkX, -, -, X₁, st1⟩ := Y.newCold hexec (own := own) (C := cls) (index := ik) (n := 6) hown' hk' hins hini'
    (g := F0 m pc ls rest) rfl (by rw [hb]; exact d0) (Nat.le_refl _) (Nat.le_refl _)
  generalize hT1 : (T.setVm vm₁).pushCell { cls := cX, slots := kX.instanceTypes.map defaultValue, vm := .none } = T1 at X₁ st1
  have hcat : (Value.ref T.heap.size).category = 1 := rfl
  have hcellA : T1.heap[T.heap.size]? = some (freshCell cX kX) := by rw [← hT1]; exact State.heap_pushCell_size _ _
  have d3' : decode c.code (pc + 3) = .ok (.dup, 1) := by rw [hb]; exact d3
  obtain ⟨U, hsteps, hrun, hend, hW, hsame, ce, hce, hO⟩ := X₁.ctorThrow0 hexec htr (own := own) (cls := cls) (names := names) (ic := ic) hown' hcls hnames h (fun x hx => nomatch hx) hfX hkX hcellA (by rw [hhp, hT]; exact Nat.le_refl _)
    (g := { method := m, pc := pc + 4, locals := ls, stack := .ref T.heap.size :: .ref T.heap.size :: rest, locked := none }) rfl hsize rfl rfl (rest := rest) rfl
    (by rw [hb]; exact d4) (by rw [hb]; exact d7) hout hRframes (by simp only [List.map_cons, List.sum_cons, hcat]; omega) hlocks
  obtain ⟨f1, f2⟩ := vx_frame hsame
  rw [hhp] at f1 f2
  have hWs : s.WarmedH U.vm := State.WarmedH.trans hW0 hW
  have hcl : s.vm.findClass cls = some ce.cls := by
    have h9 := hO.cls
    rw [hvm] at h9
    exact h9
  have hall : s.sameButNew ({ U with vm := s.vm } : State) locs mc ms := by
    subst hA
    obtain ⟨e1, e2⟩ := hsame
    rw [State.setFrames_setFrames] at e1
    have h2 : (T.setVm s.vm).sameButNew ({ U with vm := s.vm } : State) [] (0 + 1) (0 + 6) := ⟨e1, e2⟩
    have h3 := X.same.trans h2
    rw [List.append_nil] at h3
    exact h3.mono hc hs
  refine ⟨U, ?_, .threw T.heap.size, hrun, hend, Or.inr ⟨T.heap.size, rfl, cls, ce, locs, hx U hWs.alike f1 (fun q hq => f2 q hq (fun z hz => nomatch hz)), hce, hO.vm, hcl, hWs, hall, hf⟩⟩
  refine st1 _ ?_
  show Steps p.tables e below (T1.setTop { method := m, pc := pc + 3, locals := ls, stack := .ref T.heap.size :: rest, locked := none }) _
  jvm_step X₁.here [X₁.here.top, hexec, d3', Value.category]
  exact hsteps
/-- 'throw new E("text")': new; dup; ldc; invokespecial; athrow -/
theorem vx_throwS {cc : ByteArray} {pc : Nat} (hexec : p.tables.exec = Jvm.exec) (hb : c.code = cc) (hl : l.stackTraces = false) {own cls text : String} {names : List String} {ik is ic mc ms sa : Nat} {A : Nat → Prop}
    (hown : s.vm.findClass own = some m.cls) (hcls : Bundle.fit cls = true) (hnames : ∀ n ∈ names, Bundle.fit n = true)
    (hk : (Cond.classLink own ik cls).before args s = true) (hini : (Cond.initialized cls).before args s = true) (hstr : vk_R own is text sa s) (hat : ∀ w ∈ vx_atS own ic cls names, w.before args s = true)
    (hgood : ∀ w ∈ Cond.classLink own ik cls :: Cond.initialized cls :: vx_atS own ic cls names, vx_ot w = true)
    (hU : vx_Zq Bundle.tN "UNASSIGNED_STACK" Bundle.steD A s s.heap) (hN : vx_Zq Bundle.tN "SUPPRESSED_SENTINEL" Bundle.listD A s s.heap) (hS : va_S A s.heap H locs) (hsize : ls.size = c.maxLocals)
    (d0 : decode cc pc = .ok (.new ik, 3)) (d3 : decode cc (pc + 3) = .ok (.dup, 1)) (d4 : decode cc (pc + 4) = .ok (.ldc is, 2)) (d6 : decode cc (pc + 6) = .ok (.invokespecial ic, 3)) (d9 : decode cc (pc + 9) = .ok (.athrow, 1))
    (hout : ∀ x ∈ c.exceptionTable.toList, covers x (pc + 9) = false)
    (hRframes : names.length + 3 < R.frames) (hRlocals : (rest.map fun v => v.category).sum + (13 * (names.length + 1) + 43) ≤ R.locals) (hRcells : cells + 1 ≤ R.cells) (hRslots : slots + 6 ≤ R.slots) (hlocks : meth.locks = false)
    (hx : ∀ t : State, s.vm.Alike t.vm → H.size ≤ t.heap.size → (∀ q : Nat, q < H.size → t.heap[q]? = H[q]?) → XC cls s t)
    (hf : ∀ z ∈ locs, free z.base) (hc : cells + 1 ≤ mc) (hs : slots + 6 ≤ ms) :
    W p l e R s m args below meth c H locs cells slots (vx_MQ below Qc XC args s mc ms free) (F0 m pc ls rest) := by
  intro T hT X
  have htr : e.platform.stackTraces = false := (show e.platform.stackTraces = l.stackTraces by rw [X.admits.platform]).trans hl
  have Y := vx_rebase X (R' := { frames := R.frames, locals := R.locals, cells := 1, slots := 6 }) (Nat.le_refl _) (Nat.le_refl _) hRcells hRslots
  obtain ⟨s', hA⟩ : ∃ z, z = (T.setVm s.vm).setFrames (.invoking m args :: below) := ⟨_, rfl⟩
  rw [← hA] at Y
  have hvm : s'.vm = s.vm := by rw [hA]; rfl
  have hhp : s'.heap = H := by rw [hA]; exact hT
  have hW0 : s.WarmedH s'.vm := by rw [hvm]; exact State.WarmedH.refl s
  have hat' : ∀ w ∈ vx_atS own ic cls names, w.before args s' = true := fun w hw => vx_ot_at hW0 hvm.symm (hgood w (List.mem_cons_of_mem _ (List.mem_cons_of_mem _ hw))) (hat w hw)
  have hk' : (Cond.classLink own ik cls).before args s' = true := vx_ot_at hW0 hvm.symm (hgood _ List.mem_cons_self) hk
  have hini' : (Cond.initialized cls).before args s' = true := vx_ot_at hW0 hvm.symm (hgood _ (List.mem_cons_of_mem _ List.mem_cons_self)) hini
  have hU' : vx_Zq Bundle.tN "UNASSIGNED_STACK" Bundle.steD A s' s'.heap := by rw [hhp]; exact vx_Zq.moved hW0.alike (hU.kept hS.2.1)
  have hN' : vx_Zq Bundle.tN "SUPPRESSED_SENTINEL" Bundle.listD A s' s'.heap := by rw [hhp]; exact vx_Zq.moved hW0.alike (hN.kept hS.2.1)
  have h : ∀ w ∈ Bundle.ownAtoms own ic cls names, w.before args s' = true := vx_own hat' (vx_isRefq hU'.1) (vx_isRefq hN'.1) hU'.2.word hN'.2.word
  have hown' : s'.vm.findClass own = some m.cls := by rw [hvm]; exact hown
  have hins : (Cond.instantiable cls 6).before args s' = true := h _ (by simp [Bundle.ownAtoms])
  obtain ⟨vm₁, cX, kX, hfX, hkX, -, -, X₁, st1⟩ := Y.newCold hexec (own := own) (C := cls) (index := ik) (n := 6) hown' hk' hins hini'
    (g := F0 m pc ls rest) rfl (by rw [hb]; exact d0) (Nat.le_refl _) (Nat.le_refl _)
  generalize hT1 : (T.setVm vm₁).pushCell { cls := cX, slots := kX.instanceTypes.map defaultValue, vm := .none } = T1 at X₁ st1
  have hcat : (Value.ref T.heap.size).category = 1 := rfl
  have hcellA : T1.heap[T.heap.size]? = some (freshCell cX kX) := by rw [← hT1]; exact State.heap_pushCell_size _ _
  have d3' : decode c.code (pc + 3) = .ok (.dup, 1) := by rw [hb]; exact d3
  have d4' : decode c.code (pc + 4) = .ok (.ldc is, 2) := by rw [hb]; exact d4
  have hstr' : vk_R own is text sa s' := vk_R.warm hW0 hstr
  obtain ⟨U, hsteps, hrun, hend, hW, hsame, ce, hce, hO⟩ := X₁.ctorThrowS hexec htr (own := own) (cls := cls) (names := names) (ic := ic) hown' hcls hnames h (fun x hx => nomatch hx) hfX hkX hcellA (by rw [hhp, hT]; exact Nat.le_refl _) (msg := .ref sa) rfl
    (g := { method := m, pc := pc + 6, locals := ls, stack := .ref sa :: .ref T.heap.size :: .ref T.heap.size :: rest, locked := none }) rfl hsize rfl rfl (rest := rest) rfl
    (by rw [hb]; exact d6) (by rw [hb]; exact d9) hout hRframes (by simp only [List.map_cons, List.sum_cons, hcat]; omega) hlocks
  obtain ⟨f1, f2⟩ := vx_frame hsame
  rw [hhp] at f1 f2
  have hWs : s.WarmedH U.vm := State.WarmedH.trans hW0 hW
  have hcl : s.vm.findClass cls = some ce.cls := by
    have h9 := hO.cls
    rw [hvm] at h9
    exact h9
  have hall : s.sameButNew ({ U with vm := s.vm } : State) locs mc ms := by
    subst hA
    obtain ⟨e1, e2⟩ := hsame
    rw [State.setFrames_setFrames] at e1
    have h2 : (T.setVm s.vm).sameButNew ({ U with vm := s.vm } : State) [] (0 + 1) (0 + 6) := ⟨e1, e2⟩
    have h3 := X.same.trans h2
    rw [List.append_nil] at h3
    exact h3.mono hc hs
  refine ⟨U, ?_, .threw T.heap.size, hrun, hend, Or.inr ⟨T.heap.size, rfl, cls, ce, locs, hx U hWs.alike f1 (fun q hq => f2 q hq (fun z hz => nomatch hz)), hce, hO.vm, hcl, hWs, hall, hf⟩⟩
  refine st1 _ ?_
  show Steps p.tables e below (T1.setTop { method := m, pc := pc + 3, locals := ls, stack := .ref T.heap.size :: rest, locked := none }) _
  jvm_step X₁.here [X₁.here.top, hexec, d3', Value.category]
  exact X₁.ldcString hexec (own := own) (text := text) (index := is) (a := sa) hown' hstr'.1 hstr'.2
    (g := { method := m, pc := pc + 4, locals := ls, stack := .ref T.heap.size :: .ref T.heap.size :: rest, locked := none }) rfl d4' _ hsteps
/-- 'throw new E("text")', the text by a wide index -/
theorem vx_throwSW {cc : ByteArray} {pc : Nat} (hexec : p.tables.exec = Jvm.exec) (hb : c.code = cc) (hl : l.stackTraces = false) {own cls text : String} {names : List String} {ik is ic mc ms sa : Nat} {A : Nat → Prop}
    (hown : s.vm.findClass own = some m.cls) (hcls : Bundle.fit cls = true) (hnames : ∀ n ∈ names, Bundle.fit n = true)
    (hk : (Cond.classLink own ik cls).before args s = true) (hini : (Cond.initialized cls).before args s = true) (hstr : vk_R own is text sa s) (hat : ∀ w ∈ vx_atS own ic cls names, w.before args s = true)
    (hgood : ∀ w ∈ Cond.classLink own ik cls :: Cond.initialized cls :: vx_atS own ic cls names, vx_ot w = true)
    (hU : vx_Zq Bundle.tN "UNASSIGNED_STACK" Bundle.steD A s s.heap) (hN : vx_Zq Bundle.tN "SUPPRESSED_SENTINEL" Bundle.listD A s s.heap) (hS : va_S A s.heap H locs) (hsize : ls.size = c.maxLocals)
    (d0 : decode cc pc = .ok (.new ik, 3)) (d3 : decode cc (pc + 3) = .ok (.dup, 1)) (d4 : decode cc (pc + 4) = .ok (.ldc_w is, 3)) (d7 : decode cc (pc + 7) = .ok (.invokespecial ic, 3)) (d10 : decode cc (pc + 10) = .ok (.athrow, 1))
    (hout : ∀ x ∈ c.exceptionTable.toList, covers x (pc + 10) = false)
    (hRframes : names.length + 3 < R.frames) (hRlocals : (rest.map fun v => v.category).sum + (13 * (names.length + 1) + 43) ≤ R.locals) (hRcells : cells + 1 ≤ R.cells) (hRslots : slots + 6 ≤ R.slots) (hlocks : meth.locks = false)
    (hx : ∀ t : State, s.vm.Alike t.vm → H.size ≤ t.heap.size → (∀ q : Nat, q < H.size → t.heap[q]? = H[q]?) → XC cls s t)
    (hf : ∀ z ∈ locs, free z.base) (hc : cells + 1 ≤ mc) (hs : slots + 6 ≤ ms) :
    W p l e R s m args below meth c H locs cells slots (vx_MQ below Qc XC args s mc ms free) (F0 m pc ls rest) := by
  intro T hT X
  have htr : e.platform.stackTraces = false := (show e.platform.stackTraces = l.stackTraces by rw [X.admits.platform]).trans hl
  have Y := vx_rebase X (R' := { frames := R.frames, locals := R.locals, cells := 1, slots := 6 }) (Nat.le_refl _) (Nat.le_refl _) hRcells hRslots
  obtain ⟨s', hA⟩ : ∃ z, z = (T.setVm s.vm).setFrames (.invoking m args :: below) := ⟨_, rfl⟩
  rw [← hA] at Y
  have hvm : s'.vm = s.vm := by rw [hA]; rfl
  have hhp : s'.heap = H := by rw [hA]; exact hT
  have hW0 : s.WarmedH s'.vm := by rw [hvm]; exact State.WarmedH.refl s
  have hat' : ∀ w ∈ vx_atS own ic cls names, w.before args s' = true := fun w hw => vx_ot_at hW0 hvm.symm (hgood w (List.mem_cons_of_mem _ (List.mem_cons_of_mem _ hw))) (hat w hw)
  have hk' : (Cond.classLink own ik cls).before args s' = true := vx_ot_at hW0 hvm.symm (hgood _ List.mem_cons_self) hk
  have hini' : (Cond.initialized cls).before args s' = true := vx_ot_at hW0 hvm.symm (hgood _ (List.mem_cons_of_mem _ List.mem_cons_self)) hini
  have hU' : vx_Zq Bundle.tN "UNASSIGNED_STACK" Bundle.steD A s' s'.heap := by rw [hhp]; exact vx_Zq.moved hW0.alike (hU.kept hS.2.1)
  have hN' : vx_Zq Bundle.tN "SUPPRESSED_SENTINEL" Bundle.listD A s' s'.heap := by rw [hhp]; exact vx_Zq.moved hW0.alike (hN.kept hS.2.1)
  have h : ∀ w ∈ Bundle.ownAtoms own ic cls names, w.before args s' = true := vx_own hat' (vx_isRefq hU'.1) (vx_isRefq hN'.1) hU'.2.word hN'.2.word
  have hown' : s'.vm.findClass own = some m.cls := by rw [hvm]; exact hown
  have hins : (Cond.instantiable cls 6).before args s' = true := h _ (by simp [Bundle.ownAtoms])
  obtain ⟨vm₁, cX, kX, hfX, hkX, -, -, X₁, st1⟩ := Y.newCold hexec (own := own) (C := cls) (index := ik) (n := 6) hown' hk' hins hini'
    (g := F0 m pc ls rest) rfl (by rw [hb]; exact d0) (Nat.le_refl _) (Nat.le_refl _)
  generalize hT1 : (T.setVm vm₁).pushCell { cls := cX, slots := kX.instanceTypes.map defaultValue, vm := .none } = T1 at X₁ st1
  have hcat : (Value.ref T.heap.size).category = 1 := rfl
  have hcellA : T1.heap[T.heap.size]? = some (freshCell cX kX) := by rw [← hT1]; exact State.heap_pushCell_size _ _
  have d3' : decode c.code (pc + 3) = .ok (.dup, 1) := by rw [hb]; exact d3
  have d4' : decode c.code (pc + 4) = .ok (.ldc_w is, 3) := by rw [hb]; exact d4
  have hstr' : vk_R own is text sa s' := vk_R.warm hW0 hstr
  obtain ⟨U, hsteps, hrun, hend, hW, hsame, ce, hce, hO⟩ := X₁.ctorThrowS hexec htr (own := own) (cls := cls) (names := names) (ic := ic) hown' hcls hnames h (fun x hx => nomatch hx) hfX hkX hcellA (by rw [hhp, hT]; exact Nat.le_refl _) (msg := .ref sa) rfl
    (g := { method := m, pc := pc + 7, locals := ls, stack := .ref sa :: .ref T.heap.size :: .ref T.heap.size :: rest, locked := none }) rfl hsize rfl rfl (rest := rest) rfl
    (by rw [hb]; exact d7) (by rw [hb]; exact d10) hout hRframes (by simp only [List.map_cons, List.sum_cons, hcat]; omega) hlocks
  obtain ⟨f1, f2⟩ := vx_frame hsame
  rw [hhp] at f1 f2
  have hWs : s.WarmedH U.vm := State.WarmedH.trans hW0 hW
  have hcl : s.vm.findClass cls = some ce.cls := by
    have h9 := hO.cls
    rw [hvm] at h9
    exact h9
  have hall : s.sameButNew ({ U with vm := s.vm } : State) locs mc ms := by
    subst hA
    obtain ⟨e1, e2⟩ := hsame
    rw [State.setFrames_setFrames] at e1
    have h2 : (T.setVm s.vm).sameButNew ({ U with vm := s.vm } : State) [] (0 + 1) (0 + 6) := ⟨e1, e2⟩
    have h3 := X.same.trans h2
    rw [List.append_nil] at h3
    exact h3.mono hc hs
  refine ⟨U, ?_, .threw T.heap.size, hrun, hend, Or.inr ⟨T.heap.size, rfl, cls, ce, locs, hx U hWs.alike f1 (fun q hq => f2 q hq (fun z hz => nomatch hz)), hce, hO.vm, hcl, hWs, hall, hf⟩⟩
  refine st1 _ ?_
  show Steps p.tables e below (T1.setTop { method := m, pc := pc + 3, locals := ls, stack := .ref T.heap.size :: rest, locked := none }) _
  jvm_step X₁.here [X₁.here.top, hexec, d3', Value.category]
  exact X₁.ldcStringW hexec (own := own) (text := text) (index := is) (a := sa) hown' hstr'.1 hstr'.2
    (g := { method := m, pc := pc + 4, locals := ls, stack := .ref T.heap.size :: .ref T.heap.size :: rest, locked := none }) rfl d4' _ hsteps
end Ends
section Bodies
variable {l : Launch}
theorem vx_ofW {y : MethodName} {ws ws' : List Cond} {rm : Room} {Pc : Array Value → State → Prop} {Qc : Array Value → State → Outcome → State → Prop} {XC : String → State → State → Prop} {mc ms : Nat} {free : Addr → Prop} {cc : ByteArray} {maxL : Nat} {ret : Option FieldType}
    (hy : plainName y.cls = true) (hw : ws = Cond.code y cc maxL ret :: ws')
    (body : ∀ p e s m args below meth c s₁, BodyLoose p l y (headSpec ws rm) cc maxL ret e s m args below meth c s₁ → c.maxLocals = maxL → (∀ x ∈ c.exceptionTable.toList, False) → Pc args s →
      W p l e (headSpec ws rm).room s m args below meth c s.heap [] 0 0 (vx_MQ below Qc XC args s mc ms free) (entryFrame m args maxL)) : vx_Met l y ws rm Pc Qc XC mc ms free := by
  refine MetFree.of_bodyS (code := cc) (maxLocals := maxL) (ret := ret) hy ?_ ?_
  · intro args s m h hn
    obtain ⟨meth, c, h1, h2, h3, h4, h5, h6, -, -⟩ := Cond.code_spec hn (atoms_spec (ws := ws) h _ (by rw [hw]; exact List.mem_cons_self))
    exact ⟨meth, c, h1, h2, h3, h4, h5, h6⟩
  · intro p e s m args below meth c s₁ B hml hP _
    have hh0 : s₁.heap = s.heap := by rw [B.state]; rfl
    have ht : ∀ x ∈ c.exceptionTable.toList, False := by
      obtain ⟨meth9, c9, h1, h2, -, -, -, -, h7, -⟩ := Cond.code_spec B.named (atoms_spec (ws := ws) B.pre _ (by rw [hw]; exact List.mem_cons_self))
      cases Option.some.inj (h1.symm.trans B.method)
      cases Option.some.inj (h2.symm.trans (Stand.of_body B).code)
      intro x hx
      rw [Array.isEmpty_iff.mp h7] at hx
      cases hx
    obtain ⟨t, a1, o, b1, b2, b3⟩ := body p e s m args below meth c s₁ B hml ht hP s₁ hh0 (Stand.of_body B)
    exact ⟨t, o, a1, b1, b2, b3⟩
/-- the table of a body with handlers -/
theorem vx_table {p : Program} {x y : MethodName} {S : Spec} {cc bytes : ByteArray} {maxL maxL' : Nat} {ret ret' : Option FieldType} {e : Env} {s s₁ : State} {m : MethodId} {args : Array Value} {below : List Frame} {meth : Method} {c : Code} {hh : List (Nat × Nat × Nat × Nat)}
    (B : BodyLoose p l y S cc maxL ret e s m args below meth c s₁) (h : (Cond.codeWith y bytes maxL' ret' hh).before args s = true) : c.exceptionTable.toList = tableOf hh := by
  obtain ⟨m9, meth9, c9, hn9, h1, h2, -, -, h6, -⟩ := Cond.codeWith_spec h
  cases Option.some.inj (hn9.symm.trans B.named)
  cases Option.some.inj (h1.symm.trans B.method)
  cases Option.some.inj (h2.symm.trans (Stand.of_body B).code)
  rw [← h6, table_eq]
end Bodies
end VXA
/-! ===== END ===== -/
/-! ===== BEGIN a static call of a method with an exception table ===== -/
section VXS
variable {p : Program} {l : Launch} {e : Env} {R : Room} {s : State} {m : MethodId} {args : Array Value} {below : List Frame} {meth : Method} {c : Code} {T : State} {H : Heap} {locs : List Loc} {cells slots : Nat}
abbrev vx_CSW (R : Room) (s : State) (args : Array Value) (own : String) (index : Nat) (y : MethodName) (bytes : ByteArray) (maxL : Nat) (ret : Option FieldType) (hh : List (Nat × Nat × Nat × Nat)) (ws : List Cond) (rm : Room) (mc ms n : Nat) : Prop :=
  (rm.cells = mc ∧ rm.slots = ms ∧ rm.frames + 1 ≤ R.frames ∧ 8 + (maxL + 11) + rm.locals ≤ R.locals ∧ (∀ w ∈ ws, ∀ (a' : Array Value) (U : State), s.WarmedH U.vm → w.before a' U = true) ∧ Cond.codeWith y bytes maxL ret hh ∈ ws) ∧
  (Cond.codeWith y bytes maxL ret hh).before args s = true ∧ (Cond.initialized y.cls).before args s = true ∧ (y.cls ≠ "java/lang/invoke/MethodHandle" ∧ y.cls ≠ "java/lang/invoke/VarHandle") ∧
  (∀ sig, parseMethodDescriptor y.desc = some sig → n = sig.parameters.length) ∧ (Cond.methodLink own index y).before args s = true ∧ (Cond.static y).before args s = true
theorem vx_cwSW {own : String} {index maxL mc ms : Nat} {y : MethodName} {bytes : ByteArray} {ret : Option FieldType} {hh : List (Nat × Nat × Nat × Nat)} {Ts ws ws' : List Cond} {rm : Room} (n : Nat) (ht : ∀ w ∈ Ts, w.before args s = true) (hT : GoodIn Ts (va_wsS own index y ws)) (hw : ws = Cond.codeWith y bytes maxL ret hh :: ws') (hrc : rm.cells = mc) (hrs : rm.slots = ms)
    (hd : y.cls ≠ "java/lang/invoke/MethodHandle" ∧ y.cls ≠ "java/lang/invoke/VarHandle" ∧ (parseMethodDescriptor y.desc).map (fun d => d.parameters.length) = some n) (hR : rm.frames + 1 ≤ R.frames ∧ 8 + (maxL + 11) + rm.locals ≤ R.locals) :
    vx_CSW R s args own index y bytes maxL ret hh ws rm mc ms n := by
  have ok : ∀ w ∈ va_wsS own index y ws, w.before args s = true := fun w h => ht w (hT w h).1
  have hG : GoodIn Ts ws := fun w h => hT w (by unfold va_wsS; exact List.mem_append_right _ h)
  have hc : Cond.codeWith y bytes maxL ret hh ∈ ws := by rw [hw]; exact List.mem_cons_self
  refine ⟨⟨hrc, hrs, hR.1, hR.2, pay_in ht hG, hc⟩, ht _ (hG _ hc).1, ok _ (by simp [va_wsS]), ⟨hd.1, hd.2.1⟩, fun sig h => ?_, ok _ (by simp [va_wsS]), ok _ (by simp [va_wsS])⟩
  have h2 := hd.2.2
  rw [h] at h2
  exact (Option.some.inj h2).symm
theorem vx_callSW (X : Stand p l e R s m args below meth c T locs cells slots) (hexec : p.tables.exec = Jvm.exec) {own : String} {index : Nat} {y : MethodName} {bytes : ByteArray} {maxL : Nat} {ret : Option FieldType} {hh : List (Nat × Nat × Nat × Nat)}
    (hown : s.vm.findClass own = some m.cls) (hlink : (Cond.methodLink own index y).before args s = true) (hstat : (Cond.static y).before args s = true) (hinit : (Cond.initialized y.cls).before args s = true)
    (hcode : (Cond.codeWith y bytes maxL ret hh).before args s = true) (hy : y.cls ≠ "java/lang/invoke/MethodHandle" ∧ y.cls ≠ "java/lang/invoke/VarHandle")
    {W9 : Nat} {Pre : Pt → Array Value → Prop} {Post : Pt → Array Value → Option Value → Pt → Prop} (hK : Back l R p e below s args y 3 W9 Pre Post)
    {g : JFrame} (hg : g.method = m) (hsize : g.locals.size = c.maxLocals) {argsL rest : List Value} (hlen : ∀ sig, parseMethodDescriptor y.desc = some sig → argsL.length = sig.parameters.length)
    (hstack : g.stack = argsL.reverse ++ rest) (hW : 2 * g.monitorRoom + (rest.map fun v => v.category).sum ≤ W9) (hdg : decode c.code g.pc = .ok (.invokestatic index, 3))
    (hpre : ∀ vm₁, s.WarmedH vm₁ → Pre ⟨T.setVm vm₁, locs, cells, slots⟩ argsL.toArray) :
    ∃ (v : Option Value) (vm₁ : Vm) (B : Pt), s.WarmedH vm₁ ∧ Stand p l e R s m args below meth c B.U B.locs B.cells B.slots ∧ Post ⟨T.setVm vm₁, locs, cells, slots⟩ argsL.toArray v B ∧
      ∀ target, Steps p.tables e below (B.U.setTop { g with pc := g.pc + 3, stack := v.toList ++ rest }) target → Steps p.tables e below (T.setTop g) target := by
  obtain ⟨mk, methM, cM, hnamed, hmethM, -, -, -, -, -, -, hsigM⟩ := Cond.codeWith_spec hcode
  have hstatic : methM.isStatic = true := Cond.static_spec hnamed hmethM hstat
  obtain ⟨kP, hkP, -⟩ := className_of_methodNamed hnamed
  have hinitP : kP.init = .initialized := Cond.initialized_spec (findClass_of_methodNamed hnamed) hkP hinit
  obtain ⟨vm₁, X₁, hstep₁⟩ := X.invokestatic hexec hown hlink hnamed hmethM hstatic hkP hinitP hy (g := g) hg (argsL := argsL) (rest := rest) (hlen _ hsigM) hstack hdg
  obtain ⟨v, B, X', hpost, hsteps⟩ := hK m meth c ⟨T.setVm vm₁, locs, cells, slots⟩ { g with stack := rest } (.invokestatic index) mk argsL.toArray X₁ hg hsize hdg hW (X₁.named hnamed) (hpre vm₁ X₁.warmed)
  exact ⟨v, vm₁, B, X₁.warmed, X', hpost, fun target h => hstep₁ _ fun acts => by rw [doInvoke_state]; exact hsteps.trans h⟩
theorem vx_runSW {y : MethodName} {bytes cc : ByteArray} {maxL nL mc ms n index : Nat} {ret : Option FieldType} {hh : List (Nat × Nat × Nat × Nat)} {ws : List Cond} {rm : Room} {Pc : Array Value → State → Prop} {Qc : Array Value → State → Outcome → State → Prop} {free : Addr → Prop} {Ts : List Cond} {own : String} {As rest : List Value} {g : JFrame}
    (S : CallFix p m c cc nL s args Ts own) (hM : Met l y ws rm Pc Qc mc ms free) (cw : vx_CSW R s args own index y bytes maxL ret hh ws rm mc ms n) (hp : PreS s H Pc As)
    (hg : g.method = m) (hn : As.length = n) (hsize : g.locals.size = nL) (hstack : g.stack = As.reverse ++ rest) (hW : 2 * g.monitorRoom + (rest.map fun v => v.category).sum ≤ 8) (hdg : decode cc g.pc = .ok (.invokestatic index, 3)) (hf : cells + mc ≤ R.cells ∧ slots + ms ≤ R.slots) :
    va_Run p l e R s m args below meth c H locs cells slots mc ms g rest (Qc As.toArray) (free) := by
  obtain ⟨⟨hrc, hrs, hfr, hlo, hws, hcw⟩, hcode, hini, hy, hlen, hl, hstt⟩ := cw
  have hK : Back l R p e below s args y 3 8 (PreOf R mc ms Pc) (PostOf Qc mc ms free) := va_backW (hh := hh) (bytes := bytes) (maxL := maxL) (ret := ret) hM hp.1 hrc hrs hfr hlo hws hcw (fun a' U hW => word_at hW (Or.inl (by first | rfl | simp [Cond.onTables, Cond.keeps, Cond.steady])) hini)
  obtain ⟨hx, hb, hml, ho, -⟩ := S
  intro T hT X
  obtain ⟨v, vm₁, ⟨U', l2, c2, s2⟩, hW₁, X', ⟨g', mk, t, L, e1, e2, hq, h1, hL, h2, h3⟩, st⟩ := vx_callSW X hx (hh := hh) (bytes := bytes) (maxL := maxL) (ret := ret) ho hl hstt hini hcode hy hK hg (hsize.trans hml.symm) (argsL := As) (rest := rest) (fun sig h => hn.trans (hlen sig h)) hstack hW (by rw [hb]; exact hdg)
    (fun vm₁ hW₁ => ⟨hf.1, hf.2, hp.2 (T.setVm vm₁) hT hW₁⟩)
  dsimp only [Pt.U, Pt.locs, Pt.cells, Pt.slots] at X' e1 e2 h1 h2 h3 st
  subst h1; subst h2; subst h3
  exact ⟨v, (T.setVm vm₁).calling g' mk As.toArray, t, U', L, hT, X', hL, e1, e2, hq, st⟩
/-- not caught here, past rows that name other classes: it goes on to the caller -/
theorem vx_outP {p : Program} {l : Launch} {e : Env} {R : Room} {s : State} {m : MethodId} {args : Array Value} {below : List Frame} {meth : Method} {c : Code} {H : Heap} {locs : List Loc} {cells slots : Nat} {free : Addr → Prop} {ls : Array Slot} {rest : List Value} {Qc : Array Value → State → Outcome → State → Prop} {XC : String → State → State → Prop}
    {pc : Nat} {own E : String} {ce : Cell} {q : Addr} {mc ms : Nat} (hown : s.vm.findClass own = some m.cls) (hlocks : meth.locks = false)
    (hpass : ∀ z ∈ c.exceptionTable.toList, covers z pc = false ∨ (z.catchType ≠ 0 ∧ ∃ nm : String, (Cond.classLink own z.catchType nm).before args s = true ∧ va_Nc E nm s)) (hcell : H[q]? = some ce) (hv : ce.vm = .none) (hcl : s.vm.findClass E = some ce.cls)
    (hx : ∀ t : State, t.heap = H → s.vm.Alike t.vm → XC E s t) (hf : ∀ z ∈ locs, free z.base) (hc : cells ≤ mc) (hs : slots ≤ ms) :
    vx_W p l e R s m args below meth c H locs cells slots (vx_MQ below Qc XC args s mc ms free) (F0 m pc ls rest) q := by
  intro T hT X
  have hpl : e.platform.magicAccessors = ({} : Platform).magicAccessors := by rw [X.admits.platform]
  obtain ⟨vm', hW', X', st⟩ := X.outThrough hlocks q (g := F0 m pc ls rest) rfl rfl rfl (cell := ce) (by rw [hT]; exact hcell) (by rw [hv]; rfl)
    (by obtain ⟨k9, h9, -⟩ := Vm.findClass_spec hcl; exact ⟨k9, h9⟩) (fun z hz => by
      rcases hpass z hz with h | ⟨hz0, nm, hl1, hn1⟩
      · exact Or.inl h
      · obtain ⟨c6, hc6, hcl6⟩ := Cond.classLink_spec hown hl1 e.platform hpl
        obtain ⟨a8, b8, h1, h2, h3⟩ := hn1
        cases Option.some.inj (h1.symm.trans hcl)
        cases Option.some.inj (h2.symm.trans hc6)
        exact Or.inr ⟨hz0, _, hcl6, h3⟩)
  obtain ⟨g₀, hfr⟩ := X'.frames_eq
  have hcell9 : ((T.setVm vm').setFrames (.throwing q :: below)).heap[q]? = some ce := by
    show T.heap[q]? = some ce
    rw [hT]; exact hcell
  have hend : Ended ((T.setVm vm').setFrames (.throwing q :: below)) below (.threw q) := State.frames_setFrames _ (State.cur_lt_of_frames hfr)
  refine ⟨(T.setVm vm').setFrames (.throwing q :: below), ?_, .threw q, X'.here.running, hend, Or.inr ⟨q, rfl, E, ce, locs, hx _ hT (X'.ends _).1.alike, hcell9, hv, hcl, (X'.ends _).1, (X'.ends _).2.mono hc hs, hf⟩⟩
  rw [X.pushThrowing_eq]
  exact st
/-- a thing of a world lies in the heap -/
theorem vx_lt {D : va_G} {cl : List vw_C} {ws : va_W} {H1 : Heap} (h : va_P D cl ws H1) {k : Nat} {q : Nat × va_E} (hk : ws[k]? = some q) : q.1 < H1.size := (h k q hk).lt
end VXS
/-! ===== END ===== -/
/-! ===== BEGIN methods with a table of their own: called by a name, returning or throwing ===== -/
section VXH
/-! vx_backW, vx_callVX, vx_callSX, vx_callVW, vx_runVW, vx_runVX, vx_runSX, vx_ofWH follow the same proofs as their sisters above (Free/Laws.lean, Shelf42/LK1.lean); vx_outP calls Shelf42/NT130.lean (outThrough). -/
section
variable {l : Launch} {R : Room} {p : Program} {e : Env} {below : List Frame} {s : State} {sargs : Array Value} {y : MethodName} {len W9 : Nat}
theorem vx_backW {ws : List Cond} {rm : Room} {Pc : Array Value → State → Prop} {Qc : Array Value → State → Outcome → State → Prop} {XC : String → State → State → Prop} {mc ms : Nat} {free : Addr → Prop} {bytes : ByteArray} {maxL : Nat} {ret : Option FieldType} {hh : List (Nat × Nat × Nat × Nat)}
    (hM : vx_Met l y ws rm Pc Qc XC mc ms free) (hblind : FrameBlind Pc) (hrc : rm.cells = mc) (hrs : rm.slots = ms)
    (hframes : rm.frames + 1 ≤ R.frames) (hlocals : W9 + (maxL + 11) + rm.locals ≤ R.locals)
    (hws : ∀ w ∈ ws, ∀ a' U, s.WarmedH U.vm → w.before a' U = true) (hcode : Cond.codeWith y bytes maxL ret hh ∈ ws) (hinit : ∀ a' U, s.WarmedH U.vm → (Cond.initialized y.cls).before a' U = true) :
    vx_Back l R p e below s sargs y len W9 (PreOf R mc ms Pc) (PostOf Qc mc ms free) (vx_Post XC mc ms free) := by
  intro m meth c A g ig mk a X hg hsize hdg hW hn hp
  have h1 : (headSpec ws rm).pre.before a A.U = true := atoms_intro fun w hw => hws w hw _ _ X.warmed
  have h2 : (Cond.codeWith y bytes maxL ret hh).before a A.U = true := hws _ hcode _ _ X.warmed
  have h3 : (Cond.initialized y.cls).before a A.U = true := hinit _ _ X.warmed
  have h4 : A.cells + (headSpec ws rm).room.cells ≤ R.cells := by rw [show (headSpec ws rm).room.cells = mc from hrc]; exact hp.1
  have h5 : A.slots + (headSpec ws rm).room.slots ≤ R.slots := by rw [show (headSpec ws rm).room.slots = ms from hrs]; exact hp.2.1
  have hPc : Pc a (A.U.calling g mk a) := hblind _ _ _ _ hp.2.2
  obtain ⟨U, Ls, c0, s0⟩ := A
  dsimp only [Pt.U, Pt.locs, Pt.cells, Pt.slots] at h1 h2 h3 h4 h5 X hn hPc ⊢
  obtain ⟨m9, methY, cY, hn9, hmY, hcY, -, hlY, -⟩ := Cond.codeWith_spec h2
  cases Option.some.inj (hn9.symm.trans hn)
  obtain ⟨kY, hkY, -⟩ := className_of_methodNamed hn
  have hinitY : kY.init = .initialized := Cond.initialized_spec (findClass_of_methodNamed hn) hkY h3
  have h : At U g.method c below := by rw [hg]; exact X.here
  have hlocals9 : W9 + (maxL + 11) + (headSpec ws rm).room.locals ≤ R.locals := hlocals
  have happ : (headSpec ws rm).appliesLoose y e.platform (U.calling g mk a) = true :=
    Spec.appliesLoose_calling (g := g) h hdg hn hkY hinitY
      (X.room_calling (g := g) (R' := (headSpec ws rm).room) hsize hmY hcY hframes (by rw [hlY]; omega) h4 h5) h1
  obtain ⟨mid, hmid⟩ := h.above
  have hfr : (U.setTop g).frames = (.java g :: mid) ++ below := by rw [State.frames_setTop' g h.top, hmid]; rfl
  obtain ⟨o, s₂, hsteps, -, hend, hq⟩ := Steps.callFree hM p X.admits X.cas X.clock (acts := []) hfr happ hPc trivial
  have hq' : vx_Q Qc XC mc ms free a (U.calling g mk a) o s₂ := hq
  rw [State.frames_setTop' g h.top] at hend
  obtain ⟨g₀, hg0⟩ := Option.isSome_iff_exists.mp h.top
  obtain ⟨r, hr⟩ := State.topJava?_eq_some.mp hg0
  have hr' : (({ U with heap := s₂.heap, slotsUsed := s₂.slotsUsed } : State).setVm s₂.vm).frames = .java g₀ :: r := hr
  rcases hq' with ⟨hqc, L, hfe, hL⟩ | ⟨q, rfl, E, ce, L, hx, hce, hcv, hcl, hW₂, hsm, hL⟩
  · obtain ⟨⟨v, rfl⟩, hW₂, e2, q2, q3, q4, q5, q6⟩ := id hfe
    have e3 : s₂ = ({ (U.calling g mk a).setFrames s₂.frames with heap := s₂.heap, slotsUsed := s₂.slotsUsed } : State).setVm s₂.vm := by
      have : s₂ = ({ s₂ with vm := (U.calling g mk a).vm } : State).setVm s₂.vm := rfl
      rw [e2] at this
      exact this
    obtain ⟨c₂, i₂, len₂, hc₂, hd₂, hf₂⟩ := hend
    have hW' : U.WarmedH s₂.vm := hW₂
    have hcc : c₂ = c := by
      have h1 : s₂.code? g.method = U.code? g.method := by
        rw [State.code?_eq, State.code?_eq, hW'.alike.method?]
      exact Option.some.inj (hc₂.symm.trans (h1.trans h.code))
    subst hcc
    have hlen : len₂ = len := by rw [hdg] at hd₂; cases hd₂; rfl
    subst hlen
    have hs₂ : s₂ = (({ U with heap := s₂.heap, slotsUsed := s₂.slotsUsed } : State).setVm s₂.vm).setTop { g with pc := g.pc + len₂, stack := v.toList ++ g.stack } := by
      refine e3.trans ?_
      rw [hf₂, State.calling_eq h.top, State.setFrames_setFrames, State.setTop_of_frames _ hr', hr]
      rfl
    have hsame : U.sameButNew ({ U with heap := s₂.heap, slotsUsed := s₂.slotsUsed } : State) L mc ms := by
      refine ⟨?_, q2, q3, q4, q5, q6⟩
      obtain ⟨t, ht, -⟩ := State.frames_cons hr
      show ({ U with heap := s₂.heap, slotsUsed := s₂.slotsUsed } : State) = { U.setFrames U.frames with heap := s₂.heap, slotsUsed := s₂.slotsUsed }
      rw [State.setFrames_self ht]
    subst hg
    refine Or.inl ⟨v, ⟨(({ U with heap := s₂.heap, slotsUsed := s₂.slotsUsed } : State).setVm s₂.vm), Ls ++ L, c0 + mc, s0 + ms⟩,
      ⟨X.admits, X.cas, X.clock, X.frames, X.room, X.hears, X.method, X.code, (X.here.setHeapUsed s₂.heap s₂.slotsUsed).setVm hW'.alike, X.tail, State.WarmedH.trans X.warmed hW', X.limits, X.bytes, X.same.trans (hsame.setVm s.vm)⟩,
      ⟨g, mk, s₂, L, rfl, rfl, hqc, rfl, hL, rfl, rfl⟩, ?_⟩
    show Steps p.tables e below _ ((({ U with heap := s₂.heap, slotsUsed := s₂.slotsUsed } : State).setVm s₂.vm).setTop { g with pc := g.pc + len₂, stack := v.toList ++ g.stack })
    rw [← hs₂]
    exact hsteps
  · obtain ⟨e2, q2, q3, q4, q5, q6⟩ := id hsm
    have e3 : s₂ = ({ (U.calling g mk a).setFrames s₂.frames with heap := s₂.heap, slotsUsed := s₂.slotsUsed } : State).setVm s₂.vm := by
      have : s₂ = ({ s₂ with vm := (U.calling g mk a).vm } : State).setVm s₂.vm := rfl
      rw [e2] at this
      exact this
    have hf₂ : s₂.frames = .throwing q :: .java g :: U.frames.tail := hend
    have hW' : U.WarmedH s₂.vm := hW₂
    have hs₂ : s₂ = ((({ U with heap := s₂.heap, slotsUsed := s₂.slotsUsed } : State).setVm s₂.vm).setTop g).pushFrame (.throwing q) := by
      refine e3.trans ?_
      rw [hf₂, State.calling_eq h.top, State.setFrames_setFrames, State.pushFrame, State.frames_setTop _ hr', State.setTop_of_frames _ hr', State.setFrames_setFrames, hr]
      rfl
    have hsame : U.sameButNew ({ U with heap := s₂.heap, slotsUsed := s₂.slotsUsed } : State) L mc ms := by
      refine ⟨?_, q2, q3, q4, q5, q6⟩
      obtain ⟨t, ht, -⟩ := State.frames_cons hr
      show ({ U with heap := s₂.heap, slotsUsed := s₂.slotsUsed } : State) = { U.setFrames U.frames with heap := s₂.heap, slotsUsed := s₂.slotsUsed }
      rw [State.setFrames_self ht]
    subst hg
    refine Or.inr ⟨q, ⟨(({ U with heap := s₂.heap, slotsUsed := s₂.slotsUsed } : State).setVm s₂.vm), Ls ++ L, c0 + mc, s0 + ms⟩,
      ⟨X.admits, X.cas, X.clock, X.frames, X.room, X.hears, X.method, X.code, (X.here.setHeapUsed s₂.heap s₂.slotsUsed).setVm hW'.alike, X.tail, State.WarmedH.trans X.warmed hW', X.limits, X.bytes, X.same.trans (hsame.setVm s.vm)⟩,
      ⟨g, mk, s₂, L, E, ce, rfl, rfl, hx, hce, hcv, hcl, rfl, hL, rfl, rfl⟩, ?_⟩
    show Steps p.tables e below _ (((({ U with heap := s₂.heap, slotsUsed := s₂.slotsUsed } : State).setVm s₂.vm).setTop g).pushFrame (.throwing q))
    rw [← hs₂]
    exact hsteps
end
variable {p : Program} {l : Launch} {e : Env} {R : Room} {s : State} {m : MethodId} {args : Array Value} {below : List Frame} {meth : Method} {c : Code} {T : State} {H : Heap} {locs : List Loc} {cells slots : Nat}
theorem vx_callVX (X : Stand p l e R s m args below meth c T locs cells slots) (hexec : p.tables.exec = Jvm.exec) {own C : String} {index : Nat} {y : MethodName} {bytes : ByteArray} {maxL : Nat} {ret : Option FieldType} {hh : List (Nat × Nat × Nat × Nat)}
    (hown : s.vm.findClass own = some m.cls) (hlink : (Cond.methodLink own index y).before args s = true) (hinst : (Cond.instanceMethod y).before args s = true) (hsel : (Cond.selects C y y).before args s = true)
    (hcode : (Cond.codeWith y bytes maxL ret hh).before args s = true) (hy : y.cls ≠ "java/lang/invoke/MethodHandle" ∧ y.cls ≠ "java/lang/invoke/VarHandle")
    {W9 : Nat} {Pre : Pt → Array Value → Prop} {Post : Pt → Array Value → Option Value → Pt → Prop} {PostX : Pt → Array Value → Addr → Pt → Prop} (hK : vx_Back l R p e below s args y 3 W9 Pre Post PostX)
    {b : Addr} {cellB : Cell} (hcell : T.heap[b]? = some cellB) (hobj : cellB.vm.isStatics = false) (hcls : s.vm.findClass C = some cellB.cls)
    {g : JFrame} (hg : g.method = m) (hsize : g.locals.size = c.maxLocals) {argsL rest : List Value} (hlen : ∀ sig, parseMethodDescriptor y.desc = some sig → argsL.length = sig.parameters.length)
    (hstack : g.stack = argsL.reverse ++ .ref b :: rest) (hW : 2 * g.monitorRoom + (rest.map fun v => v.category).sum ≤ W9) (hdg : decode c.code g.pc = .ok (.invokevirtual index, 3))
    (hpre : ∀ vm₁, s.WarmedH vm₁ → Pre ⟨T.setVm vm₁, locs, cells, slots⟩ (Value.ref b :: argsL).toArray) :
    (∃ (v : Option Value) (vm₁ : Vm) (B : Pt), s.WarmedH vm₁ ∧ Stand p l e R s m args below meth c B.U B.locs B.cells B.slots ∧ Post ⟨T.setVm vm₁, locs, cells, slots⟩ (Value.ref b :: argsL).toArray v B ∧
      ∀ target, Steps p.tables e below (B.U.setTop { g with pc := g.pc + 3, stack := v.toList ++ rest }) target → Steps p.tables e below (T.setTop g) target) ∨
    (∃ (q : Addr) (vm₁ : Vm) (B : Pt), s.WarmedH vm₁ ∧ Stand p l e R s m args below meth c B.U B.locs B.cells B.slots ∧ PostX ⟨T.setVm vm₁, locs, cells, slots⟩ (Value.ref b :: argsL).toArray q B ∧
      Steps p.tables e below (T.setTop g) ((B.U.setTop { g with stack := rest }).pushFrame (.throwing q))) := by
  obtain ⟨mk, methM, hnamed, hmethM, hstM, habM⟩ := Cond.instanceMethod_spec hinst
  obtain ⟨m8, methM', cM, hn8, hmethM', -, -, -, -, -, -, hsigM⟩ := Cond.codeWith_spec hcode
  cases Option.some.inj (hn8.symm.trans hnamed)
  cases hmethM.symm.trans hmethM'
  obtain ⟨c2, r2, m2, q1, q2, q3, q4, kP, hkP, hkPi⟩ := Cond.selects_spec hsel
  cases hcls.symm.trans q1
  cases (State.methodFound?_of_named hnamed hy).symm.trans q2
  cases hnamed.symm.trans q3
  have hselP : selectMethod e.platform s.vm cellB.cls mk = .method mk := by rw [Launch.admits_selectMethod X.admits]; exact q4
  obtain ⟨vm₁, X₁, hstep₁⟩ := X.invokevirtual hexec hown hlink hnamed hmethM hstM hkP hkPi hy (a := b) (cell := cellB) hcell
    (fun z h => by rw [h] at hobj; cases hobj) hselP hmethM habM hkP hkPi (g := g) hg (argsL := argsL) (rest := rest) (hlen _ hsigM) hstack hdg
  rcases hK m meth c ⟨T.setVm vm₁, locs, cells, slots⟩ { g with stack := rest } (.invokevirtual index) mk (Value.ref b :: argsL).toArray X₁ hg hsize hdg hW (X₁.named hnamed) (hpre vm₁ X₁.warmed) with ⟨v, B, X', hpost, hsteps⟩ | ⟨q, B, X', hpost, hsteps⟩
  · exact Or.inl ⟨v, vm₁, B, X₁.warmed, X', hpost, fun target h => hstep₁ _ fun acts => by rw [doInvoke_state]; exact hsteps.trans h⟩
  · exact Or.inr ⟨q, vm₁, B, X₁.warmed, X', hpost, hstep₁ _ fun acts => by rw [doInvoke_state]; exact hsteps⟩
theorem vx_callSX (X : Stand p l e R s m args below meth c T locs cells slots) (hexec : p.tables.exec = Jvm.exec) {own : String} {index : Nat} {y : MethodName} {bytes : ByteArray} {maxL : Nat} {ret : Option FieldType} {hh : List (Nat × Nat × Nat × Nat)}
    (hown : s.vm.findClass own = some m.cls) (hlink : (Cond.methodLink own index y).before args s = true) (hstat : (Cond.static y).before args s = true) (hinit : (Cond.initialized y.cls).before args s = true)
    (hcode : (Cond.codeWith y bytes maxL ret hh).before args s = true) (hy : y.cls ≠ "java/lang/invoke/MethodHandle" ∧ y.cls ≠ "java/lang/invoke/VarHandle")
    {W9 : Nat} {Pre : Pt → Array Value → Prop} {Post : Pt → Array Value → Option Value → Pt → Prop} {PostX : Pt → Array Value → Addr → Pt → Prop} (hK : vx_Back l R p e below s args y 3 W9 Pre Post PostX)
    {g : JFrame} (hg : g.method = m) (hsize : g.locals.size = c.maxLocals) {argsL rest : List Value} (hlen : ∀ sig, parseMethodDescriptor y.desc = some sig → argsL.length = sig.parameters.length)
    (hstack : g.stack = argsL.reverse ++ rest) (hW : 2 * g.monitorRoom + (rest.map fun v => v.category).sum ≤ W9) (hdg : decode c.code g.pc = .ok (.invokestatic index, 3))
    (hpre : ∀ vm₁, s.WarmedH vm₁ → Pre ⟨T.setVm vm₁, locs, cells, slots⟩ argsL.toArray) :
    (∃ (v : Option Value) (vm₁ : Vm) (B : Pt), s.WarmedH vm₁ ∧ Stand p l e R s m args below meth c B.U B.locs B.cells B.slots ∧ Post ⟨T.setVm vm₁, locs, cells, slots⟩ argsL.toArray v B ∧
      ∀ target, Steps p.tables e below (B.U.setTop { g with pc := g.pc + 3, stack := v.toList ++ rest }) target → Steps p.tables e below (T.setTop g) target) ∨
    (∃ (q : Addr) (vm₁ : Vm) (B : Pt), s.WarmedH vm₁ ∧ Stand p l e R s m args below meth c B.U B.locs B.cells B.slots ∧ PostX ⟨T.setVm vm₁, locs, cells, slots⟩ argsL.toArray q B ∧
      Steps p.tables e below (T.setTop g) ((B.U.setTop { g with stack := rest }).pushFrame (.throwing q))) := by
  obtain ⟨mk, methM, cM, hnamed, hmethM, -, -, -, -, -, -, hsigM⟩ := Cond.codeWith_spec hcode
  have hstatic : methM.isStatic = true := Cond.static_spec hnamed hmethM hstat
  obtain ⟨kP, hkP, -⟩ := className_of_methodNamed hnamed
  have hinitP : kP.init = .initialized := Cond.initialized_spec (findClass_of_methodNamed hnamed) hkP hinit
  obtain ⟨vm₁, X₁, hstep₁⟩ := X.invokestatic hexec hown hlink hnamed hmethM hstatic hkP hinitP hy (g := g) hg (argsL := argsL) (rest := rest) (hlen _ hsigM) hstack hdg
  rcases hK m meth c ⟨T.setVm vm₁, locs, cells, slots⟩ { g with stack := rest } (.invokestatic index) mk argsL.toArray X₁ hg hsize hdg hW (X₁.named hnamed) (hpre vm₁ X₁.warmed) with ⟨v, B, X', hpost, hsteps⟩ | ⟨q, B, X', hpost, hsteps⟩
  · exact Or.inl ⟨v, vm₁, B, X₁.warmed, X', hpost, fun target h => hstep₁ _ fun acts => by rw [doInvoke_state]; exact hsteps.trans h⟩
  · exact Or.inr ⟨q, vm₁, B, X₁.warmed, X', hpost, hstep₁ _ fun acts => by rw [doInvoke_state]; exact hsteps⟩
theorem vx_callVW (X : Stand p l e R s m args below meth c T locs cells slots) (hexec : p.tables.exec = Jvm.exec) {own C : String} {index : Nat} {y : MethodName} {bytes : ByteArray} {maxL : Nat} {ret : Option FieldType} {hh : List (Nat × Nat × Nat × Nat)}
    (hown : s.vm.findClass own = some m.cls) (hlink : (Cond.methodLink own index y).before args s = true) (hinst : (Cond.instanceMethod y).before args s = true) (hsel : (Cond.selects C y y).before args s = true)
    (hcode : (Cond.codeWith y bytes maxL ret hh).before args s = true) (hy : y.cls ≠ "java/lang/invoke/MethodHandle" ∧ y.cls ≠ "java/lang/invoke/VarHandle")
    {W9 : Nat} {Pre : Pt → Array Value → Prop} {Post : Pt → Array Value → Option Value → Pt → Prop} (hK : Back l R p e below s args y 3 W9 Pre Post)
    {b : Addr} {cellB : Cell} (hcell : T.heap[b]? = some cellB) (hobj : cellB.vm.isStatics = false) (hcls : s.vm.findClass C = some cellB.cls)
    {g : JFrame} (hg : g.method = m) (hsize : g.locals.size = c.maxLocals) {argsL rest : List Value} (hlen : ∀ sig, parseMethodDescriptor y.desc = some sig → argsL.length = sig.parameters.length)
    (hstack : g.stack = argsL.reverse ++ .ref b :: rest) (hW : 2 * g.monitorRoom + (rest.map fun v => v.category).sum ≤ W9) (hdg : decode c.code g.pc = .ok (.invokevirtual index, 3))
    (hpre : ∀ vm₁, s.WarmedH vm₁ → Pre ⟨T.setVm vm₁, locs, cells, slots⟩ (Value.ref b :: argsL).toArray) :
    ∃ (v : Option Value) (vm₁ : Vm) (B : Pt), s.WarmedH vm₁ ∧ Stand p l e R s m args below meth c B.U B.locs B.cells B.slots ∧ Post ⟨T.setVm vm₁, locs, cells, slots⟩ (Value.ref b :: argsL).toArray v B ∧
      ∀ target, Steps p.tables e below (B.U.setTop { g with pc := g.pc + 3, stack := v.toList ++ rest }) target → Steps p.tables e below (T.setTop g) target := by
  obtain ⟨mk, methM, hnamed, hmethM, hstM, habM⟩ := Cond.instanceMethod_spec hinst
  obtain ⟨m8, methM', cM, hn8, hmethM', -, -, -, -, -, -, hsigM⟩ := Cond.codeWith_spec hcode
  cases Option.some.inj (hn8.symm.trans hnamed)
  cases hmethM.symm.trans hmethM'
  obtain ⟨c2, r2, m2, q1, q2, q3, q4, kP, hkP, hkPi⟩ := Cond.selects_spec hsel
  cases hcls.symm.trans q1
  cases (State.methodFound?_of_named hnamed hy).symm.trans q2
  cases hnamed.symm.trans q3
  have hselP : selectMethod e.platform s.vm cellB.cls mk = .method mk := by rw [Launch.admits_selectMethod X.admits]; exact q4
  obtain ⟨vm₁, X₁, hstep₁⟩ := X.invokevirtual hexec hown hlink hnamed hmethM hstM hkP hkPi hy (a := b) (cell := cellB) hcell
    (fun z h => by rw [h] at hobj; cases hobj) hselP hmethM habM hkP hkPi (g := g) hg (argsL := argsL) (rest := rest) (hlen _ hsigM) hstack hdg
  obtain ⟨v, B, X', hpost, hsteps⟩ := hK m meth c ⟨T.setVm vm₁, locs, cells, slots⟩ { g with stack := rest } (.invokevirtual index) mk (Value.ref b :: argsL).toArray X₁ hg hsize hdg hW (X₁.named hnamed) (hpre vm₁ X₁.warmed)
  exact ⟨v, vm₁, B, X₁.warmed, X', hpost, fun target h => hstep₁ _ fun acts => by rw [doInvoke_state]; exact hsteps.trans h⟩
abbrev vx_CVW (R : Room) (s : State) (args : Array Value) (own C : String) (index : Nat) (y : MethodName) (bytes : ByteArray) (maxL : Nat) (ret : Option FieldType) (hh : List (Nat × Nat × Nat × Nat)) (ws : List Cond) (rm : Room) (mc ms n : Nat) : Prop :=
  (rm.cells = mc ∧ rm.slots = ms ∧ rm.frames + 1 ≤ R.frames ∧ 8 + (maxL + 11) + rm.locals ≤ R.locals ∧ (∀ w ∈ ws, ∀ (a' : Array Value) (U : State), s.WarmedH U.vm → w.before a' U = true) ∧ Cond.codeWith y bytes maxL ret hh ∈ ws) ∧
  (Cond.codeWith y bytes maxL ret hh).before args s = true ∧ (Cond.initialized y.cls).before args s = true ∧ (y.cls ≠ "java/lang/invoke/MethodHandle" ∧ y.cls ≠ "java/lang/invoke/VarHandle") ∧
  (∀ sig, parseMethodDescriptor y.desc = some sig → n = sig.parameters.length) ∧ (Cond.methodLink own index y).before args s = true ∧ (Cond.instanceMethod y).before args s = true ∧ (Cond.selects C y y).before args s = true
theorem vx_cwVW {own C : String} {index maxL mc ms : Nat} {y : MethodName} {bytes : ByteArray} {ret : Option FieldType} {hh : List (Nat × Nat × Nat × Nat)} {Ts ws ws' : List Cond} {rm : Room} (n : Nat) (ht : ∀ w ∈ Ts, w.before args s = true) (hT : GoodIn Ts (wsV own index C y ws)) (hw : ws = Cond.codeWith y bytes maxL ret hh :: ws') (hrc : rm.cells = mc) (hrs : rm.slots = ms)
    (hd : y.cls = C ∧ y.cls ≠ "java/lang/invoke/MethodHandle" ∧ y.cls ≠ "java/lang/invoke/VarHandle" ∧ (parseMethodDescriptor y.desc).map (fun d => d.parameters.length) = some n) (hR : rm.frames + 1 ≤ R.frames ∧ 8 + (maxL + 11) + rm.locals ≤ R.locals) :
    vx_CVW R s args own C index y bytes maxL ret hh ws rm mc ms n := by
  obtain ⟨hC, hd⟩ := hd
  subst hC
  have ok : ∀ w ∈ wsV own index y.cls y ws, w.before args s = true := fun w h => ht w (hT w h).1
  have hG : GoodIn Ts ws := fun w h => hT w (by unfold wsV; exact List.mem_append_right _ h)
  have hc : Cond.codeWith y bytes maxL ret hh ∈ ws := by rw [hw]; exact List.mem_cons_self
  refine ⟨⟨hrc, hrs, hR.1, hR.2, pay_in ht hG, hc⟩, ht _ (hG _ hc).1, ok _ (by simp [wsV]), ⟨hd.1, hd.2.1⟩, fun sig h => ?_, ok _ (by simp [wsV]), ok _ (by simp [wsV]), ok _ (by simp [wsV])⟩
  have h2 := hd.2.2
  rw [h] at h2
  exact (Option.some.inj h2).symm
theorem vx_runVW {y : MethodName} {bytes cc : ByteArray} {maxL nL mc ms n index : Nat} {ret : Option FieldType} {hh : List (Nat × Nat × Nat × Nat)} {ws : List Cond} {rm : Room} {Pc : Array Value → State → Prop} {Qc : Array Value → State → Outcome → State → Prop} {free : Addr → Prop} {Ts : List Cond} {own C : String} {b : Addr} {As rest : List Value} {g : JFrame}
    (S : CallFix p m c cc nL s args Ts own) (hM : Met l y ws rm Pc Qc mc ms free) (cw : vx_CVW R s args own C index y bytes maxL ret hh ws rm mc ms n) (hp : PreV s H C b Pc As)
    (hg : g.method = m) (hn : As.length = n) (hsize : g.locals.size = nL) (hstack : g.stack = As.reverse ++ .ref b :: rest) (hW : 2 * g.monitorRoom + (rest.map fun v => v.category).sum ≤ 8) (hdg : decode cc g.pc = .ok (.invokevirtual index, 3)) (hf : cells + mc ≤ R.cells ∧ slots + ms ≤ R.slots) :
    va_Run p l e R s m args below meth c H locs cells slots mc ms g rest (Qc (Value.ref b :: As).toArray) free := by
  obtain ⟨⟨hrc, hrs, hfr, hlo, hws, hcw⟩, hcode, hini, hy, hlen, hl, hin, hse⟩ := cw
  have hK : Back l R p e below s args y 3 8 (PreOf R mc ms Pc) (PostOf Qc mc ms free) := va_backW (hh := hh) (bytes := bytes) (maxL := maxL) (ret := ret) hM hp.1 hrc hrs hfr hlo hws hcw (fun a' U hW => word_at hW (Or.inl (by first | rfl | simp [Cond.onTables, Cond.keeps, Cond.steady])) hini)
  obtain ⟨hx, hb, hml, ho, -⟩ := S
  obtain ⟨-, ⟨cellB, hcB, hoB, hclB⟩, hPc⟩ := hp
  intro T hT X
  obtain ⟨v, vm₁, ⟨U', l2, c2, s2⟩, hW₁, X', ⟨g', mk, t, L, e1, e2, hq, h1, hL, h2, h3⟩, st⟩ := vx_callVW X hx (C := C) (hh := hh) (bytes := bytes) (maxL := maxL) (ret := ret) ho hl hin hse hcode hy hK (by rw [hT]; exact hcB) hoB hclB hg (hsize.trans hml.symm) (argsL := As) (rest := rest) (fun sig h => hn.trans (hlen sig h)) hstack hW (by rw [hb]; exact hdg)
    (fun vm₁ hW₁ => ⟨hf.1, hf.2, hPc (T.setVm vm₁) hT hW₁⟩)
  dsimp only [Pt.U, Pt.locs, Pt.cells, Pt.slots] at X' e1 e2 h1 h2 h3 st
  subst h1; subst h2; subst h3
  exact ⟨v, (T.setVm vm₁).calling g' mk (Value.ref b :: As).toArray, t, U', L, hT, X', hL, e1, e2, hq, st⟩
section
variable {y : MethodName} {bytes cc : ByteArray} {maxL nL mc ms n index : Nat} {ret : Option FieldType} {ws : List Cond} {rm : Room} {Pc : Array Value → State → Prop} {Qc : Array Value → State → Outcome → State → Prop} {XC : String → State → State → Prop} {free : Addr → Prop} {Ts : List Cond} {own C : String} {b : Addr} {As rest : List Value} {g : JFrame}
theorem vx_runVX {hh : List (Nat × Nat × Nat × Nat)} (S : CallFix p m c cc nL s args Ts own) (hM : vx_Met l y ws rm Pc Qc XC mc ms free) (cw : vx_CVW R s args own C index y bytes maxL ret hh ws rm mc ms n) (hp : PreV s H C b Pc As)
    (hg : g.method = m) (hn : As.length = n) (hsize : g.locals.size = nL) (hstack : g.stack = As.reverse ++ .ref b :: rest) (hW : 2 * g.monitorRoom + (rest.map fun v => v.category).sum ≤ 8) (hdg : decode cc g.pc = .ok (.invokevirtual index, 3)) (hf : cells + mc ≤ R.cells ∧ slots + ms ≤ R.slots) :
    vx_Run p l e R s m args below meth c H locs cells slots mc ms g rest (Qc (Value.ref b :: As).toArray) XC free := by
  obtain ⟨⟨hrc, hrs, hfr, hlo, hws, hcw⟩, hcode, hini, hy, hlen, hl, hin, hse⟩ := cw
  have hK : vx_Back l R p e below s args y 3 8 (PreOf R mc ms Pc) (PostOf Qc mc ms free) (vx_Post XC mc ms free) := vx_backW (hh := hh) (bytes := bytes) (maxL := maxL) (ret := ret) hM hp.1 hrc hrs hfr hlo hws hcw (fun a' U hW => word_at hW (Or.inl (by first | rfl | simp [Cond.onTables, Cond.keeps, Cond.steady])) hini)
  obtain ⟨hx, hb, hml, ho, -⟩ := S
  obtain ⟨-, ⟨cellB, hcB, hoB, hclB⟩, hPc⟩ := hp
  intro T hT X
  rcases vx_callVX X hx (C := C) (hh := hh) (bytes := bytes) (maxL := maxL) (ret := ret) ho hl hin hse hcode hy hK (by rw [hT]; exact hcB) hoB hclB hg (hsize.trans hml.symm) (argsL := As) (rest := rest) (fun sig h => hn.trans (hlen sig h)) hstack hW (by rw [hb]; exact hdg)
    (fun vm₁ hW₁ => ⟨hf.1, hf.2, hPc (T.setVm vm₁) hT hW₁⟩) with ⟨v, vm₁, ⟨U', l2, c2, s2⟩, hW₁, X', ⟨g', mk, t, L, e1, e2, hq, h1, hL, h2, h3⟩, st⟩ | ⟨q, vm₁, ⟨U', l2, c2, s2⟩, hW₁, X', ⟨g', mk, t, L, E, ce, e1, e2, hq, hce, hcv, hcl, h1, hL, h2, h3⟩, st⟩
  · dsimp only [Pt.U, Pt.locs, Pt.cells, Pt.slots] at X' e1 e2 h1 h2 h3 st
    subst h1; subst h2; subst h3
    exact Or.inl ⟨v, (T.setVm vm₁).calling g' mk (Value.ref b :: As).toArray, t, U', L, hT, X', hL, e1, e2, hq, st⟩
  · dsimp only [Pt.U, Pt.locs, Pt.cells, Pt.slots] at X' e1 e2 h1 h2 h3 st hcl
    subst h1; subst h2; subst h3
    exact Or.inr ⟨q, (T.setVm vm₁).calling g' mk (Value.ref b :: As).toArray, t, U', L, E, ce, hT, X', hL, e1, e2, hq, hce, hcv, vx_cls hW₁ hcl, st⟩
theorem vx_runSX {hh : List (Nat × Nat × Nat × Nat)} (S : CallFix p m c cc nL s args Ts own) (hM : vx_Met l y ws rm Pc Qc XC mc ms free) (cw : vx_CSW R s args own index y bytes maxL ret hh ws rm mc ms n) (hp : PreS s H Pc As)
    (hg : g.method = m) (hn : As.length = n) (hsize : g.locals.size = nL) (hstack : g.stack = As.reverse ++ rest) (hW : 2 * g.monitorRoom + (rest.map fun v => v.category).sum ≤ 8) (hdg : decode cc g.pc = .ok (.invokestatic index, 3)) (hf : cells + mc ≤ R.cells ∧ slots + ms ≤ R.slots) :
    vx_Run p l e R s m args below meth c H locs cells slots mc ms g rest (Qc As.toArray) XC free := by
  obtain ⟨⟨hrc, hrs, hfr, hlo, hws, hcw⟩, hcode, hini, hy, hlen, hl, hstt⟩ := cw
  have hK : vx_Back l R p e below s args y 3 8 (PreOf R mc ms Pc) (PostOf Qc mc ms free) (vx_Post XC mc ms free) := vx_backW (hh := hh) (bytes := bytes) (maxL := maxL) (ret := ret) hM hp.1 hrc hrs hfr hlo hws hcw (fun a' U hW => word_at hW (Or.inl (by first | rfl | simp [Cond.onTables, Cond.keeps, Cond.steady])) hini)
  obtain ⟨hx, hb, hml, ho, -⟩ := S
  intro T hT X
  rcases vx_callSX X hx (hh := hh) (bytes := bytes) (maxL := maxL) (ret := ret) ho hl hstt hini hcode hy hK hg (hsize.trans hml.symm) (argsL := As) (rest := rest) (fun sig h => hn.trans (hlen sig h)) hstack hW (by rw [hb]; exact hdg)
    (fun vm₁ hW₁ => ⟨hf.1, hf.2, hp.2 (T.setVm vm₁) hT hW₁⟩) with ⟨v, vm₁, ⟨U', l2, c2, s2⟩, hW₁, X', ⟨g', mk, t, L, e1, e2, hq, h1, hL, h2, h3⟩, st⟩ | ⟨q, vm₁, ⟨U', l2, c2, s2⟩, hW₁, X', ⟨g', mk, t, L, E, ce, e1, e2, hq, hce, hcv, hcl, h1, hL, h2, h3⟩, st⟩
  · dsimp only [Pt.U, Pt.locs, Pt.cells, Pt.slots] at X' e1 e2 h1 h2 h3 st
    subst h1; subst h2; subst h3
    exact Or.inl ⟨v, (T.setVm vm₁).calling g' mk As.toArray, t, U', L, hT, X', hL, e1, e2, hq, st⟩
  · dsimp only [Pt.U, Pt.locs, Pt.cells, Pt.slots] at X' e1 e2 h1 h2 h3 st hcl
    subst h1; subst h2; subst h3
    exact Or.inr ⟨q, (T.setVm vm₁).calling g' mk As.toArray, t, U', L, E, ce, hT, X', hL, e1, e2, hq, hce, hcv, vx_cls hW₁ hcl, st⟩
end
end VXH
theorem vx_ofWH {l : Launch} {y : MethodName} {ws ws' : List Cond} {rm : Room} {Pc : Array Value → State → Prop} {Qc : Array Value → State → Outcome → State → Prop} {XC : String → State → State → Prop} {mc ms : Nat} {free : Addr → Prop} {cc : ByteArray} {maxL : Nat} {ret : Option FieldType} {hh : List (Nat × Nat × Nat × Nat)}
    (hy : plainName y.cls = true) (hw : ws = Cond.codeWith y cc maxL ret hh :: ws')
    (body : ∀ p e s m args below meth c s₁, BodyLoose p l y (headSpec ws rm) cc maxL ret e s m args below meth c s₁ → c.maxLocals = maxL → Pc args s →
      W p l e (headSpec ws rm).room s m args below meth c s.heap [] 0 0 (vx_MQ below Qc XC args s mc ms free) (entryFrame m args maxL)) : vx_Met l y ws rm Pc Qc XC mc ms free := by
  refine MetFree.of_bodyS (code := cc) (maxLocals := maxL) (ret := ret) hy ?_ ?_
  · intro args s m h hn
    obtain ⟨m9, meth, c, hn9, h1, h2, h3, h4, -, h5, h6, -⟩ := Cond.codeWith_spec (atoms_spec (ws := ws) h _ (by rw [hw]; exact List.mem_cons_self))
    cases hn.symm.trans hn9
    exact ⟨meth, c, h1, h2, h3, h4, h5, h6⟩
  · intro p e s m args below meth c s₁ B hml hP _
    have hh0 : s₁.heap = s.heap := by rw [B.state]; rfl
    obtain ⟨t, a1, o, b1, b2, b3⟩ := body p e s m args below meth c s₁ B hml hP s₁ hh0 (Stand.of_body B)
    exact ⟨t, o, a1, b1, b2, b3⟩
/-! ===== END ===== -/
end
section
/-! ===== BEGIN printed: names, fields, word lists, decode rows ===== -/
def RX0 : String := "Greenwheels$Claims"
def TX0 : u_T := fun k => match k with
  | 0 => ("Greenwheels$Claims", "count", "I", false)
  | 1 => ("Greenwheels$Claims", "withdrawn", "I", false)
  | 2 => ("Greenwheels$Claims", "near", "[I", true)
  | _ => ("Greenwheels$Claims", "nearAndFar", "[I", true)
def tyX0 : Nat → FieldType := fun k => match k with
  | 0 => .int
  | 1 => .int
  | 2 => .array .int
  | _ => .array .int
abbrev wsX00 : List Cond := u_ws RX0 TX0 4
theorem nmX0 : ∀ a, a < 4 → ∀ b, b < 4 → a ≠ b → (TX0 a).2.1 ≠ (TX0 b).2.1 := by decide +kernel
theorem tyX0_ok : ∀ k, k < 4 → parseFieldDescriptor (TX0 k).2.2.1 = some (tyX0 k) := by decide +kernel
abbrev cX0_init : ByteArray := prog_2_method_1_code
def yX0_init : MethodName := ⟨RX0, "<init>", "()V"⟩
abbrev cX0_isSetOfThem : ByteArray := prog_2_method_2_code
def yX0_isSetOfThem : MethodName := ⟨RX0, "isSetOfThem", "(I)Z"⟩
abbrev cX0_addClaim : ByteArray := prog_2_method_3_code
def yX0_addClaim : MethodName := ⟨RX0, "addClaim", "(I)I"⟩
abbrev cX0_setWithdrawn : ByteArray := prog_2_method_4_code
def yX0_setWithdrawn : MethodName := ⟨RX0, "setWithdrawn", "(IZ)V"⟩
abbrev cX0_hangsOn : ByteArray := prog_2_method_5_code
def yX0_hangsOn : MethodName := ⟨RX0, "hangsOn", "(I)I"⟩
abbrev cX0_isWithdrawn : ByteArray := prog_2_method_6_code
def yX0_isWithdrawn : MethodName := ⟨RX0, "isWithdrawn", "(I)Z"⟩
abbrev cX0_isStanding : ByteArray := prog_2_method_7_code
def yX0_isStanding : MethodName := ⟨RX0, "isStanding", "(I)Z"⟩
abbrev cX0_countStanding : ByteArray := prog_2_method_8_code
def yX0_countStanding : MethodName := ⟨RX0, "countStanding", "()I"⟩
abbrev cX0_fallingWith : ByteArray := prog_2_method_9_code
def yX0_fallingWith : MethodName := ⟨RX0, "fallingWith", "(I)I"⟩
abbrev cX0_areConsistent : ByteArray := prog_2_method_10_code
def yX0_areConsistent : MethodName := ⟨RX0, "areConsistent", "()Z"⟩
abbrev cX0_standingWithout : ByteArray := prog_2_method_11_code
def yX0_standingWithout : MethodName := ⟨RX0, "standingWithout", "(I)I"⟩
def RX1 : String := "Greenwheels$Fraction"
def TX1 : u_T := fun k => match k with
  | 0 => ("Greenwheels$Fraction", "upper", "J", true)
  | _ => ("Greenwheels$Fraction", "lower", "J", true)
def tyX1 : Nat → FieldType := fun k => match k with
  | 0 => .long
  | _ => .long
abbrev wsX10 : List Cond := u_ws RX1 TX1 2
theorem nmX1 : ∀ a, a < 2 → ∀ b, b < 2 → a ≠ b → (TX1 a).2.1 ≠ (TX1 b).2.1 := by decide +kernel
theorem tyX1_ok : ∀ k, k < 2 → parseFieldDescriptor (TX1 k).2.2.1 = some (tyX1 k) := by decide +kernel
abbrev cX1_init : ByteArray := prog_3_method_1_code
def yX1_init : MethodName := ⟨RX1, "<init>", "(JJ)V"⟩
abbrev cX1_times : ByteArray := prog_3_method_2_code
def yX1_times : MethodName := ⟨RX1, "times", "(JJ)LGreenwheels$Fraction;"⟩
abbrev cX1_withoutWhole : ByteArray := prog_3_method_3_code
def yX1_withoutWhole : MethodName := ⟨RX1, "withoutWhole", "()LGreenwheels$Fraction;"⟩
abbrev cX1_cellOf : ByteArray := prog_3_method_4_code
def yX1_cellOf : MethodName := ⟨RX1, "cellOf", "(I)I"⟩
abbrev cX1_isSameAs : ByteArray := prog_3_method_5_code
def yX1_isSameAs : MethodName := ⟨RX1, "isSameAs", "(LGreenwheels$Fraction;)Z"⟩
abbrev cX1_isOppositeOf : ByteArray := prog_3_method_6_code
def yX1_isOppositeOf : MethodName := ⟨RX1, "isOppositeOf", "(LGreenwheels$Fraction;)Z"⟩
abbrev cX1_told : ByteArray := prog_3_method_7_code
def yX1_told : MethodName := ⟨RX1, "told", "(Z)J"⟩
def RX2 : String := "Greenwheels$Gearing"
def TX2 : u_T := fun k => match k with
  | 0 => ("Greenwheels$Gearing", "wheels", "I", false)
  | 1 => ("Greenwheels$Gearing", "axles", "[I", true)
  | 2 => ("Greenwheels$Gearing", "teeth", "[I", true)
  | 3 => ("Greenwheels$Gearing", "meshSets", "[I", true)
  | 4 => ("Greenwheels$Gearing", "whole", "LGreenwheels$Fraction;", true)
  | 5 => ("Greenwheels$Gearing", "still", "LGreenwheels$Fraction;", true)
  | 6 => ("Greenwheels$Gearing", "byCrank", "[LGreenwheels$Fraction;", true)
  | _ => ("Greenwheels$Gearing", "byAnother", "[LGreenwheels$Fraction;", true)
def tyX2 : Nat → FieldType := fun k => match k with
  | 0 => .int
  | 1 => .array .int
  | 2 => .array .int
  | 3 => .array .int
  | 4 => .object "Greenwheels$Fraction"
  | 5 => .object "Greenwheels$Fraction"
  | 6 => .array (.object "Greenwheels$Fraction")
  | _ => .array (.object "Greenwheels$Fraction")
abbrev wsX20 : List Cond := u_ws RX2 TX2 8
theorem nmX2 : ∀ a, a < 8 → ∀ b, b < 8 → a ≠ b → (TX2 a).2.1 ≠ (TX2 b).2.1 := by decide +kernel
theorem tyX2_ok : ∀ k, k < 8 → parseFieldDescriptor (TX2 k).2.2.1 = some (tyX2 k) := by decide +kernel
abbrev cX2_init : ByteArray := prog_4_method_1_code
def yX2_init : MethodName := ⟨RX2, "<init>", "()V"⟩
abbrev cX2_addWheel : ByteArray := prog_4_method_2_code
def yX2_addWheel : MethodName := ⟨RX2, "addWheel", "(II)I"⟩
abbrev cX2_axleOf : ByteArray := prog_4_method_3_code
def yX2_axleOf : MethodName := ⟨RX2, "axleOf", "(I)I"⟩
abbrev cX2_teethOf : ByteArray := prog_4_method_4_code
def yX2_teethOf : MethodName := ⟨RX2, "teethOf", "(I)I"⟩
abbrev cX2_meshedWith : ByteArray := prog_4_method_5_code
def yX2_meshedWith : MethodName := ⟨RX2, "meshedWith", "(I)I"⟩
abbrev cX2_areOnOneAxle : ByteArray := prog_4_method_6_code
def yX2_areOnOneAxle : MethodName := ⟨RX2, "areOnOneAxle", "(II)Z"⟩
abbrev cX2_areMeshed : ByteArray := prog_4_method_7_code
def yX2_areMeshed : MethodName := ⟨RX2, "areMeshed", "(II)Z"⟩
abbrev cX2_join : ByteArray := prog_4_method_8_code
def yX2_join : MethodName := ⟨RX2, "join", "(II)V"⟩
abbrev cX2_separate : ByteArray := prog_4_method_9_code
def yX2_separate : MethodName := ⟨RX2, "separate", "(II)V"⟩
abbrev cX2_wouldJam : ByteArray := prog_4_method_10_code
def yX2_wouldJam : MethodName := ⟨RX2, "wouldJam", "(II)Z"⟩
abbrev cX2_isMoved : ByteArray := prog_4_method_11_code
def yX2_isMoved : MethodName := ⟨RX2, "isMoved", "(I)Z"⟩
abbrev cX2_rateOf : ByteArray := prog_4_method_12_code
def yX2_rateOf : MethodName := ⟨RX2, "rateOf", "(I)LGreenwheels$Fraction;"⟩
abbrev cX2_turnedAt : ByteArray := prog_4_method_13_code
def yX2_turnedAt : MethodName := ⟨RX2, "turnedAt", "(II)LGreenwheels$Fraction;"⟩
abbrev cX2_countMeshes : ByteArray := prog_4_method_14_code
def yX2_countMeshes : MethodName := ⟨RX2, "countMeshes", "()I"⟩
abbrev cX2_countMoved : ByteArray := prog_4_method_15_code
def yX2_countMoved : MethodName := ⟨RX2, "countMoved", "()I"⟩
abbrev cX2_turnsToReturn : ByteArray := prog_4_method_16_code
def yX2_turnsToReturn : MethodName := ⟨RX2, "turnsToReturn", "()J"⟩
abbrev cX2_isPeriodRight : ByteArray := prog_4_method_17_code
def yX2_isPeriodRight : MethodName := ⟨RX2, "isPeriodRight", "()Z"⟩
abbrev cX2_spreadRates : ByteArray := prog_4_method_18_code
def yX2_spreadRates : MethodName := ⟨RX2, "spreadRates", "(I[LGreenwheels$Fraction;)V"⟩
abbrev cX2_spreadFromWheel : ByteArray := prog_4_method_19_code
def yX2_spreadFromWheel : MethodName := ⟨RX2, "spreadFromWheel", "(I[LGreenwheels$Fraction;)Z"⟩
abbrev cX2_rateIn : ByteArray := prog_4_method_20_code
def yX2_rateIn : MethodName := ⟨RX2, "rateIn", "([LGreenwheels$Fraction;I)LGreenwheels$Fraction;"⟩
def RX3 : String := "Greenwheels$Lumps"
def TX3 : u_T := fun k => match k with
  | 0 => ("Greenwheels$Lumps", "pieces", "[I", true)
  | 1 => ("Greenwheels$Lumps", "teeth", "[I", true)
  | 2 => ("Greenwheels$Lumps", "degrees", "[I", true)
  | 3 => ("Greenwheels$Lumps", "doubts", "[I", true)
  | 4 => ("Greenwheels$Lumps", "agreeing", "[I", true)
  | 5 => ("Greenwheels$Lumps", "least", "[I", true)
  | _ => ("Greenwheels$Lumps", "greatest", "[I", true)
def tyX3 : Nat → FieldType := fun k => match k with
  | 0 => .array .int
  | 1 => .array .int
  | 2 => .array .int
  | 3 => .array .int
  | 4 => .array .int
  | 5 => .array .int
  | _ => .array .int
abbrev wsX30 : List Cond := u_ws RX3 TX3 7
theorem nmX3 : ∀ a, a < 7 → ∀ b, b < 7 → a ≠ b → (TX3 a).2.1 ≠ (TX3 b).2.1 := by decide +kernel
theorem tyX3_ok : ∀ k, k < 7 → parseFieldDescriptor (TX3 k).2.2.1 = some (tyX3 k) := by decide +kernel
abbrev cX3_init : ByteArray := prog_5_method_1_code
def yX3_init : MethodName := ⟨RX3, "<init>", "()V"⟩
abbrev cX3_piecesOf : ByteArray := prog_5_method_2_code
def yX3_piecesOf : MethodName := ⟨RX3, "piecesOf", "(I)I"⟩
abbrev cX3_agreeingOf : ByteArray := prog_5_method_3_code
def yX3_agreeingOf : MethodName := ⟨RX3, "agreeingOf", "(I)I"⟩
abbrev cX3_leastOf : ByteArray := prog_5_method_4_code
def yX3_leastOf : MethodName := ⟨RX3, "leastOf", "(I)I"⟩
abbrev cX3_greatestOf : ByteArray := prog_5_method_5_code
def yX3_greatestOf : MethodName := ⟨RX3, "greatestOf", "(I)I"⟩
abbrev cX3_countPieces : ByteArray := prog_5_method_6_code
def yX3_countPieces : MethodName := ⟨RX3, "countPieces", "()I"⟩
abbrev cX3_weigh : ByteArray := prog_5_method_8_code
def yX3_weigh : MethodName := ⟨RX3, "weigh", "(I)V"⟩
abbrev cX3_agreesWithAll : ByteArray := prog_5_method_9_code
def yX3_agreesWithAll : MethodName := ⟨RX3, "agreesWithAll", "(II)Z"⟩
def RX4 : String := "Greenwheels$TrainSearch"
def TX4 : u_T := fun k => match k with
  | 0 => ("Greenwheels$TrainSearch", "pairs", "I", false)
  | 1 => ("Greenwheels$TrainSearch", "a", "I", false)
  | 2 => ("Greenwheels$TrainSearch", "b", "I", false)
  | 3 => ("Greenwheels$TrainSearch", "c", "I", false)
  | _ => ("Greenwheels$TrainSearch", "d", "I", false)
def tyX4 : Nat → FieldType := fun k => match k with
  | 0 => .int
  | 1 => .int
  | 2 => .int
  | 3 => .int
  | _ => .int
abbrev wsX40 : List Cond := u_ws RX4 TX4 5
theorem nmX4 : ∀ a, a < 5 → ∀ b, b < 5 → a ≠ b → (TX4 a).2.1 ≠ (TX4 b).2.1 := by decide +kernel
theorem tyX4_ok : ∀ k, k < 5 → parseFieldDescriptor (TX4 k).2.2.1 = some (tyX4 k) := by decide +kernel
abbrev cX4_init : ByteArray := prog_6_method_1_code
def yX4_init : MethodName := ⟨RX4, "<init>", "()V"⟩
abbrev cX4_forget : ByteArray := prog_6_method_3_code
def yX4_forget : MethodName := ⟨RX4, "forget", "()V"⟩
def RX5 : String := "Greenwheels"
def TX5 : u_T := fun k => match k with
  | 0 => ("Greenwheels", "gearing", "LGreenwheels$Gearing;", true)
  | 1 => ("Greenwheels", "cells", "[I", true)
  | 2 => ("Greenwheels", "lumps", "LGreenwheels$Lumps;", true)
  | 3 => ("Greenwheels", "claims", "LGreenwheels$Claims;", true)
  | 4 => ("Greenwheels", "search", "LGreenwheels$TrainSearch;", true)
  | 5 => ("Greenwheels", "turns", "I", false)
  | 6 => ("Greenwheels", "jams", "I", false)
  | _ => ("Greenwheels", "refused", "I", false)
def tyX5 : Nat → FieldType := fun k => match k with
  | 0 => .object "Greenwheels$Gearing"
  | 1 => .array .int
  | 2 => .object "Greenwheels$Lumps"
  | 3 => .object "Greenwheels$Claims"
  | 4 => .object "Greenwheels$TrainSearch"
  | 5 => .int
  | 6 => .int
  | _ => .int
abbrev wsX50 : List Cond := u_ws RX5 TX5 8
theorem nmX5 : ∀ a, a < 8 → ∀ b, b < 8 → a ≠ b → (TX5 a).2.1 ≠ (TX5 b).2.1 := by decide +kernel
theorem tyX5_ok : ∀ k, k < 8 → parseFieldDescriptor (TX5 k).2.2.1 = some (tyX5 k) := by decide +kernel
abbrev cX5_init : ByteArray := prog_1_method_1_code
def yX5_init : MethodName := ⟨RX5, "<init>", "()V"⟩
abbrev cX5_wheel : ByteArray := prog_1_method_2_code
def yX5_wheel : MethodName := ⟨RX5, "wheel", "(II)I"⟩
abbrev cX5_mesh : ByteArray := prog_1_method_3_code
def yX5_mesh : MethodName := ⟨RX5, "mesh", "(II)Z"⟩
abbrev cX5_part : ByteArray := prog_1_method_4_code
def yX5_part : MethodName := ⟨RX5, "part", "(II)Z"⟩
abbrev cX5_turn : ByteArray := prog_1_method_5_code
def yX5_turn : MethodName := ⟨RX5, "turn", "(I)I"⟩
abbrev cX5_dial : ByteArray := prog_1_method_6_code
def yX5_dial : MethodName := ⟨RX5, "dial", "(II)I"⟩
abbrev cX5_claim : ByteArray := prog_1_method_8_code
def yX5_claim : MethodName := ⟨RX5, "claim", "(I)I"⟩
abbrev cX5_withdraw : ByteArray := prog_1_method_9_code
def yX5_withdraw : MethodName := ⟨RX5, "withdraw", "(IZ)I"⟩
abbrev cX5_ofAxle : ByteArray := prog_1_method_10_code
def yX5_ofAxle : MethodName := ⟨RX5, "ofAxle", "(IIZ)J"⟩
abbrev cX5_ofWheel : ByteArray := prog_1_method_11_code
def yX5_ofWheel : MethodName := ⟨RX5, "ofWheel", "(II)I"⟩
abbrev cX5_passed : ByteArray := prog_1_method_12_code
def yX5_passed : MethodName := ⟨RX5, "passed", "(IZ)J"⟩
abbrev cX5_period : ByteArray := prog_1_method_13_code
def yX5_period : MethodName := ⟨RX5, "period", "()J"⟩
abbrev cX5_ofLump : ByteArray := prog_1_method_15_code
def yX5_ofLump : MethodName := ⟨RX5, "ofLump", "(II)I"⟩
abbrev cX5_ofClaim : ByteArray := prog_1_method_16_code
def yX5_ofClaim : MethodName := ⟨RX5, "ofClaim", "(II)I"⟩
abbrev cX5_house : ByteArray := prog_1_method_17_code
def yX5_house : MethodName := ⟨RX5, "house", "(I)I"⟩
abbrev cX5_isSound : ByteArray := prog_1_method_23_code
def yX5_isSound : MethodName := ⟨RX5, "isSound", "()Z"⟩
abbrev cX5_digest : ByteArray := prog_1_method_25_code
def yX5_digest : MethodName := ⟨RX5, "digest", "()J"⟩
abbrev cX5_demandIndex : ByteArray := prog_1_method_26_code
def yX5_demandIndex : MethodName := ⟨RX5, "demandIndex", "(Z)V"⟩
abbrev cX5_demandArgument : ByteArray := prog_1_method_27_code
def yX5_demandArgument : MethodName := ⟨RX5, "demandArgument", "(Z)V"⟩
abbrev cX5_demandState : ByteArray := prog_1_method_28_code
def yX5_demandState : MethodName := ⟨RX5, "demandState", "(Z)V"⟩
abbrev cX5_demandAxle : ByteArray := prog_1_method_29_code
def yX5_demandAxle : MethodName := ⟨RX5, "demandAxle", "(I)V"⟩
abbrev cX5_demandWheel : ByteArray := prog_1_method_30_code
def yX5_demandWheel : MethodName := ⟨RX5, "demandWheel", "(I)V"⟩
abbrev cX5_demandClaim : ByteArray := prog_1_method_31_code
def yX5_demandClaim : MethodName := ⟨RX5, "demandClaim", "(I)V"⟩
abbrev cX5_axleFraction : ByteArray := prog_1_method_32_code
def yX5_axleFraction : MethodName := ⟨RX5, "axleFraction", "(II)LGreenwheels$Fraction;"⟩
abbrev cX5_passedBy : ByteArray := prog_1_method_33_code
def yX5_passedBy : MethodName := ⟨RX5, "passedBy", "(I)LGreenwheels$Fraction;"⟩
abbrev cX5_cellAt : ByteArray := prog_1_method_34_code
def yX5_cellAt : MethodName := ⟨RX5, "cellAt", "(II)I"⟩
abbrev cX5_doMeshesPassAlike : ByteArray := prog_1_method_36_code
def yX5_doMeshesPassAlike : MethodName := ⟨RX5, "doMeshesPassAlike", "()Z"⟩
abbrev cX5_mixedAxles : ByteArray := prog_1_method_37_code
def yX5_mixedAxles : MethodName := ⟨RX5, "mixedAxles", "(J)J"⟩
abbrev cX5_mixedWheels : ByteArray := prog_1_method_38_code
def yX5_mixedWheels : MethodName := ⟨RX5, "mixedWheels", "(J)J"⟩
abbrev cX5_mixedFraction : ByteArray := prog_1_method_39_code
def yX5_mixedFraction : MethodName := ⟨RX5, "mixedFraction", "(JLGreenwheels$Fraction;)J"⟩
abbrev cX5_mixed : ByteArray := prog_1_method_40_code
def yX5_mixed : MethodName := ⟨RX5, "mixed", "(JJ)J"⟩
abbrev cX5_isWithin : ByteArray := prog_1_method_41_code
def yX5_isWithin : MethodName := ⟨RX5, "isWithin", "(III)Z"⟩
abbrev cX5_at : ByteArray := prog_1_method_42_code
def yX5_at : MethodName := ⟨RX5, "at", "([II)I"⟩
abbrev cX5_put : ByteArray := prog_1_method_43_code
def yX5_put : MethodName := ⟨RX5, "put", "([III)V"⟩
abbrev cX5_isIn : ByteArray := prog_1_method_44_code
def yX5_isIn : MethodName := ⟨RX5, "isIn", "(II)Z"⟩
abbrev cX5_commonDivisor : ByteArray := prog_1_method_45_code
def yX5_commonDivisor : MethodName := ⟨RX5, "commonDivisor", "(JJ)J"⟩
def RX6 : String := "GreenwheelsModel"
def TX6 : u_T := fun k => match k with
  | _ => ("", "", "", false)
def tyX6 : Nat → FieldType := fun k => match k with
  | _ => .int
abbrev wsX60 : List Cond := u_ws RX6 TX6 0
theorem nmX6 : ∀ a, a < 0 → ∀ b, b < 0 → a ≠ b → (TX6 a).2.1 ≠ (TX6 b).2.1 := by decide +kernel
theorem tyX6_ok : ∀ k, k < 0 → parseFieldDescriptor (TX6 k).2.2.1 = some (tyX6 k) := by decide +kernel
def RJx145de : String := "java/io/Serializable"
def TJx145de : u_T := fun k => match k with
  | _ => ("", "", "", false)
def tyJx145de : Nat → FieldType := fun k => match k with
  | _ => .int
abbrev wsJx145de0 : List Cond := u_ws RJx145de TJx145de 0
theorem nmJx145de : ∀ a, a < 0 → ∀ b, b < 0 → a ≠ b → (TJx145de a).2.1 ≠ (TJx145de b).2.1 := by decide +kernel
theorem tyJx145de_ok : ∀ k, k < 0 → parseFieldDescriptor (TJx145de k).2.2.1 = some (tyJx145de k) := by decide +kernel
def RJ6 : String := "java/lang/Integer"
def TJ6 : u_T := fun k => match k with
  | _ => ("", "", "", false)
def tyJ6 : Nat → FieldType := fun k => match k with
  | _ => .int
abbrev wsJ60 : List Cond := u_ws RJ6 TJ6 0
theorem nmJ6 : ∀ a, a < 0 → ∀ b, b < 0 → a ≠ b → (TJ6 a).2.1 ≠ (TJ6 b).2.1 := by decide +kernel
theorem tyJ6_ok : ∀ k, k < 0 → parseFieldDescriptor (TJ6 k).2.2.1 = some (tyJ6 k) := by decide +kernel
abbrev cJ6_bitCount_0f7a4 : ByteArray := prog_13_method_49_code
def yJ6_bitCount_0f7a4 : MethodName := ⟨RJ6, "bitCount", "(I)I"⟩
def RJ9 : String := "java/lang/Math"
def TJ9 : u_T := fun k => match k with
  | _ => ("", "", "", false)
def tyJ9 : Nat → FieldType := fun k => match k with
  | _ => .int
abbrev wsJ90 : List Cond := u_ws RJ9 TJ9 0
theorem nmJ9 : ∀ a, a < 0 → ∀ b, b < 0 → a ≠ b → (TJ9 a).2.1 ≠ (TJ9 b).2.1 := by decide +kernel
theorem tyJ9_ok : ∀ k, k < 0 → parseFieldDescriptor (TJ9 k).2.2.1 = some (tyJ9 k) := by decide +kernel
abbrev cJ9_floorMod_f86c9 : ByteArray := prog_14_method_52_code
def yJ9_floorMod_f86c9 : MethodName := ⟨RJ9, "floorMod", "(JJ)J"⟩
abbrev cJ9_abs_0f7a4 : ByteArray := prog_14_method_59_code
def yJ9_abs_0f7a4 : MethodName := ⟨RJ9, "abs", "(I)I"⟩
def RJ0 : String := "java/lang/String"
def TJ0 : u_T := fun k => match k with
  | _ => ("", "", "", false)
def tyJ0 : Nat → FieldType := fun k => match k with
  | _ => .int
abbrev wsJ00 : List Cond := u_ws RJ0 TJ0 0
theorem nmJ0 : ∀ a, a < 0 → ∀ b, b < 0 → a ≠ b → (TJ0 a).2.1 ≠ (TJ0 b).2.1 := by decide +kernel
theorem tyJ0_ok : ∀ k, k < 0 → parseFieldDescriptor (TJ0 k).2.2.1 = some (tyJ0 k) := by decide +kernel
def RL : String := "GreenwheelsLaw"
abbrev cL_below : ByteArray := method_2_code
def yL_below : MethodName := ⟨RL, "below", "(II)I"⟩
abbrev cL_cell : ByteArray := method_3_code
def yL_cell : MethodName := ⟨RL, "cell", "([II)I"⟩
abbrev cL_law : ByteArray := code
def yL_law : MethodName := ⟨RL, "law", "([I)Z"⟩
abbrev cL_rate : ByteArray := method_5_code
def yL_rate : MethodName := ⟨RL, "rate", "(LGreenwheels;I)[J"⟩
abbrev cL_isPeriod : ByteArray := method_6_code
def yL_isPeriod : MethodName := ⟨RL, "isPeriod", "(LGreenwheels;I)Z"⟩
abbrev cL_hangs : ByteArray := method_7_code
def yL_hangs : MethodName := ⟨RL, "hangs", "(LGreenwheels;I)Z"⟩
abbrev cL_act : ByteArray := method_8_code
def yL_act : MethodName := ⟨RL, "act", "(LGreenwheels;II)V"⟩
def wsX0_init : List Cond := .code yX0_init cX0_init 1 none :: ([.methodLink RX0 3 objectInit, .instanceMethod objectInit, .code objectInit ⟨#[0xb1]⟩ 1 none, .arrayClass .int, .fieldLink RX0 9 "Greenwheels$Claims" "near" "[I", .fieldLink RX0 15 "Greenwheels$Claims" "nearAndFar" "[I"] ++ wsX00)
def wsX0_isSetOfThem : List Cond := .code yX0_isSetOfThem cX0_isSetOfThem 2 (some .boolean) :: ([.fieldLink RX0 18 "Greenwheels$Claims" "count" "I"] ++ wsX00)
def wsX5_isIn : List Cond := .code yX5_isIn cX5_isIn 2 (some .boolean) :: ([])
def wsX5_at : List Cond := .code yX5_at cX5_at 2 (some .int) :: ([])
def wsX5_put : List Cond := .code yX5_put cX5_put 3 none :: ([])
def wsX0_addClaim : List Cond := .code yX0_addClaim cX0_addClaim 5 (some .int) :: ([.fieldLink RX0 18 "Greenwheels$Claims" "count" "I", .fieldLink RX0 15 "Greenwheels$Claims" "nearAndFar" "[I", .fieldLink RX0 9 "Greenwheels$Claims" "near" "[I", .static yX5_isIn, .initialized RX5, .code yX5_isIn cX5_isIn 2 (some .boolean), .static yX5_at, .code yX5_at cX5_at 2 (some .int), .static yX5_put, .code yX5_put cX5_put 3 none] ++ wsX00)
def wsX0_setWithdrawn : List Cond := .code yX0_setWithdrawn cX0_setWithdrawn 3 none :: ([.fieldLink RX0 34 "Greenwheels$Claims" "withdrawn" "I"] ++ wsX00)
def wsX0_hangsOn : List Cond := .code yX0_hangsOn cX0_hangsOn 2 (some .int) :: ([.fieldLink RX0 9 "Greenwheels$Claims" "near" "[I", .static yX5_at, .initialized RX5, .code yX5_at cX5_at 2 (some .int)] ++ wsX00)
def wsX0_isWithdrawn : List Cond := .code yX0_isWithdrawn cX0_isWithdrawn 2 (some .boolean) :: ([.fieldLink RX0 34 "Greenwheels$Claims" "withdrawn" "I", .static yX5_isIn, .initialized RX5, .code yX5_isIn cX5_isIn 2 (some .boolean)] ++ wsX00)
def wsX0_standingWithout : List Cond := .code yX0_standingWithout cX0_standingWithout 4 (some .int) :: ([.fieldLink RX0 18 "Greenwheels$Claims" "count" "I", .fieldLink RX0 9 "Greenwheels$Claims" "near" "[I", .static yX5_isIn, .initialized RX5, .code yX5_isIn cX5_isIn 2 (some .boolean), .static yX5_at, .code yX5_at cX5_at 2 (some .int)] ++ wsX00)
def wsX0_isStanding : List Cond := .code yX0_isStanding cX0_isStanding 2 (some .boolean) :: ([.fieldLink RX0 34 "Greenwheels$Claims" "withdrawn" "I", .methodLink RX0 37 yX0_standingWithout, .instanceMethod yX0_standingWithout, .selects RX0 yX0_standingWithout yX0_standingWithout, .initialized RX0, .code yX0_standingWithout cX0_standingWithout 4 (some .int), .fieldLink RX0 18 "Greenwheels$Claims" "count" "I", .fieldLink RX0 9 "Greenwheels$Claims" "near" "[I", .static yX5_isIn, .initialized RX5, .code yX5_isIn cX5_isIn 2 (some .boolean), .static yX5_at, .code yX5_at cX5_at 2 (some .int)] ++ wsX00)
def wsJ6_bitCount_0f7a4 : List Cond := .code yJ6_bitCount_0f7a4 cJ6_bitCount_0f7a4 1 (some .int) :: ([.constant RJ6 265 (1431655765), .constant RJ6 266 (858993459), .constant RJ6 267 (252645135)])
def wsX0_countStanding : List Cond := .code yX0_countStanding cX0_countStanding 1 (some .int) :: ([.fieldLink RX0 34 "Greenwheels$Claims" "withdrawn" "I", .methodLink RX0 37 yX0_standingWithout, .instanceMethod yX0_standingWithout, .selects RX0 yX0_standingWithout yX0_standingWithout, .initialized RX0, .code yX0_standingWithout cX0_standingWithout 4 (some .int), .fieldLink RX0 18 "Greenwheels$Claims" "count" "I", .fieldLink RX0 9 "Greenwheels$Claims" "near" "[I", .static yX5_isIn, .initialized RX5, .code yX5_isIn cX5_isIn 2 (some .boolean), .static yX5_at, .code yX5_at cX5_at 2 (some .int), .methodLink RX0 41 yJ6_bitCount_0f7a4, .static yJ6_bitCount_0f7a4, .initialized RJ6, .code yJ6_bitCount_0f7a4 cJ6_bitCount_0f7a4 1 (some .int), .constant RJ6 265 (1431655765), .constant RJ6 266 (858993459), .constant RJ6 267 (252645135)] ++ wsX00)
def wsX0_fallingWith : List Cond := .code yX0_fallingWith cX0_fallingWith 2 (some .int) :: ([.fieldLink RX0 34 "Greenwheels$Claims" "withdrawn" "I", .methodLink RX0 46 yX0_countStanding, .instanceMethod yX0_countStanding, .selects RX0 yX0_countStanding yX0_countStanding, .initialized RX0, .code yX0_countStanding cX0_countStanding 1 (some .int), .methodLink RX0 37 yX0_standingWithout, .instanceMethod yX0_standingWithout, .selects RX0 yX0_standingWithout yX0_standingWithout, .code yX0_standingWithout cX0_standingWithout 4 (some .int), .fieldLink RX0 18 "Greenwheels$Claims" "count" "I", .fieldLink RX0 9 "Greenwheels$Claims" "near" "[I", .static yX5_isIn, .initialized RX5, .code yX5_isIn cX5_isIn 2 (some .boolean), .static yX5_at, .code yX5_at cX5_at 2 (some .int), .methodLink RX0 41 yJ6_bitCount_0f7a4, .static yJ6_bitCount_0f7a4, .initialized RJ6, .code yJ6_bitCount_0f7a4 cJ6_bitCount_0f7a4 1 (some .int), .constant RJ6 265 (1431655765), .constant RJ6 266 (858993459), .constant RJ6 267 (252645135)] ++ wsX00)
def wsX0_areConsistent : List Cond := .code yX0_areConsistent cX0_areConsistent 4 (some .boolean) :: ([.fieldLink RX0 34 "Greenwheels$Claims" "withdrawn" "I", .fieldLink RX0 18 "Greenwheels$Claims" "count" "I", .fieldLink RX0 15 "Greenwheels$Claims" "nearAndFar" "[I", .methodLink RX0 37 yX0_standingWithout, .instanceMethod yX0_standingWithout, .selects RX0 yX0_standingWithout yX0_standingWithout, .initialized RX0, .code yX0_standingWithout cX0_standingWithout 4 (some .int), .fieldLink RX0 9 "Greenwheels$Claims" "near" "[I", .static yX5_isIn, .initialized RX5, .code yX5_isIn cX5_isIn 2 (some .boolean), .static yX5_at, .code yX5_at cX5_at 2 (some .int)] ++ wsX00)
def wsX5_commonDivisor : List Cond := .code yX5_commonDivisor cX5_commonDivisor 11 (some .long) :: ([])
def wsX1_init : List Cond := .code yX1_init cX1_init 7 none :: ([.methodLink RX1 1 objectInit, .instanceMethod objectInit, .code objectInit ⟨#[0xb1]⟩ 1 none, .fieldLink RX1 13 "Greenwheels$Fraction" "upper" "J", .fieldLink RX1 19 "Greenwheels$Fraction" "lower" "J", .static yX5_commonDivisor, .initialized RX5, .code yX5_commonDivisor cX5_commonDivisor 11 (some .long)] ++ wsX10)
def wsX1_times : List Cond := .code yX1_times cX1_times 5 (some (.object "Greenwheels$Fraction")) :: ([.classLink RX1 14 RX1, .instantiable RX1 2, .initialized RX1, .fieldLink RX1 13 "Greenwheels$Fraction" "upper" "J", .fieldLink RX1 19 "Greenwheels$Fraction" "lower" "J", .methodLink RX1 22 yX1_init, .instanceMethod yX1_init, .code yX1_init cX1_init 7 none, .methodLink RX1 1 objectInit, .instanceMethod objectInit, .code objectInit ⟨#[0xb1]⟩ 1 none, .static yX5_commonDivisor, .initialized RX5, .code yX5_commonDivisor cX5_commonDivisor 11 (some .long)] ++ wsX10)
def wsJ9_floorMod_f86c9 : List Cond := .code yJ9_floorMod_f86c9 cJ9_floorMod_f86c9 6 (some .long) :: ([])
def wsX1_withoutWhole : List Cond := .code yX1_withoutWhole cX1_withoutWhole 1 (some (.object "Greenwheels$Fraction")) :: ([.fieldLink RX1 19 "Greenwheels$Fraction" "lower" "J", .classLink RX1 14 RX1, .instantiable RX1 2, .initialized RX1, .fieldLink RX1 13 "Greenwheels$Fraction" "upper" "J", .methodLink RX1 25 yJ9_floorMod_f86c9, .static yJ9_floorMod_f86c9, .initialized RJ9, .code yJ9_floorMod_f86c9 cJ9_floorMod_f86c9 6 (some .long), .methodLink RX1 22 yX1_init, .instanceMethod yX1_init, .code yX1_init cX1_init 7 none, .methodLink RX1 1 objectInit, .instanceMethod objectInit, .code objectInit ⟨#[0xb1]⟩ 1 none, .static yX5_commonDivisor, .initialized RX5, .code yX5_commonDivisor cX5_commonDivisor 11 (some .long)] ++ wsX10)
def wsX1_cellOf : List Cond := .code yX1_cellOf cX1_cellOf 2 (some .int) :: ([.fieldLink RX1 19 "Greenwheels$Fraction" "lower" "J", .fieldLink RX1 13 "Greenwheels$Fraction" "upper" "J"] ++ wsX10)
def wsX1_isSameAs : List Cond := .code yX1_isSameAs cX1_isSameAs 2 (some .boolean) :: ([.fieldLink RX1 13 "Greenwheels$Fraction" "upper" "J", .fieldLink RX1 19 "Greenwheels$Fraction" "lower" "J"] ++ wsX10)
def wsX1_isOppositeOf : List Cond := .code yX1_isOppositeOf cX1_isOppositeOf 2 (some .boolean) :: ([.fieldLink RX1 13 "Greenwheels$Fraction" "upper" "J", .fieldLink RX1 19 "Greenwheels$Fraction" "lower" "J"] ++ wsX10)
def wsX1_told : List Cond := .code yX1_told cX1_told 2 (some .long) :: ([.fieldLink RX1 13 "Greenwheels$Fraction" "upper" "J", .fieldLink RX1 19 "Greenwheels$Fraction" "lower" "J"] ++ wsX10)
def wsX2_meshedWith : List Cond := .code yX2_meshedWith cX2_meshedWith 2 (some .int) :: ([.fieldLink RX2 18 "Greenwheels$Gearing" "meshSets" "[I", .static yX5_at, .initialized RX5, .code yX5_at cX5_at 2 (some .int)] ++ wsX20)
def wsX2_axleOf : List Cond := .code yX2_axleOf cX2_axleOf 2 (some .int) :: ([.fieldLink RX2 9 "Greenwheels$Gearing" "axles" "[I", .static yX5_at, .initialized RX5, .code yX5_at cX5_at 2 (some .int)] ++ wsX20)
def wsX2_rateIn : List Cond := .code yX2_rateIn cX2_rateIn 2 (some (.object "Greenwheels$Fraction")) :: ([])
def wsX2_areMeshed : List Cond := .code yX2_areMeshed cX2_areMeshed 3 (some .boolean) :: ([.methodLink RX2 60 yX2_meshedWith, .instanceMethod yX2_meshedWith, .selects RX2 yX2_meshedWith yX2_meshedWith, .initialized RX2, .code yX2_meshedWith cX2_meshedWith 2 (some .int), .fieldLink RX2 18 "Greenwheels$Gearing" "meshSets" "[I", .static yX5_at, .initialized RX5, .code yX5_at cX5_at 2 (some .int), .static yX5_isIn, .code yX5_isIn cX5_isIn 2 (some .boolean)] ++ wsX20)
def wsX2_teethOf : List Cond := .code yX2_teethOf cX2_teethOf 2 (some .int) :: ([.fieldLink RX2 15 "Greenwheels$Gearing" "teeth" "[I", .static yX5_at, .initialized RX5, .code yX5_at cX5_at 2 (some .int)] ++ wsX20)
def wsX2_spreadFromWheel_r1 : List Cond := [Cond.fieldLink RX2 44 "Greenwheels$Gearing" "wheels" "I", Cond.methodLink RX2 56 yX2_axleOf, Cond.instanceMethod yX2_axleOf, Cond.selects RX2 yX2_axleOf yX2_axleOf, Cond.initialized RX2, Cond.code yX2_axleOf cX2_axleOf 2 (some .int), Cond.fieldLink RX2 9 "Greenwheels$Gearing" "axles" "[I", Cond.static yX5_at, Cond.initialized RX5, Cond.code yX5_at cX5_at 2 (some .int), Cond.methodLink RX2 67 yX2_rateIn, Cond.static yX2_rateIn, Cond.code yX2_rateIn cX2_rateIn 2 (some (.object "Greenwheels$Fraction")), Cond.methodLink RX2 111 yX2_areMeshed, Cond.instanceMethod yX2_areMeshed, Cond.selects RX2 yX2_areMeshed yX2_areMeshed, Cond.code yX2_areMeshed cX2_areMeshed 3 (some .boolean), Cond.methodLink RX2 60 yX2_meshedWith, Cond.instanceMethod yX2_meshedWith, Cond.selects RX2 yX2_meshedWith yX2_meshedWith, Cond.code yX2_meshedWith cX2_meshedWith 2 (some .int), Cond.fieldLink RX2 18 "Greenwheels$Gearing" "meshSets" "[I", Cond.static yX5_isIn, Cond.code yX5_isIn cX5_isIn 2 (some .boolean)]
def wsX2_spreadFromWheel_r2 : List Cond := [Cond.methodLink RX2 71 yX2_teethOf, Cond.instanceMethod yX2_teethOf, Cond.selects RX2 yX2_teethOf yX2_teethOf, Cond.code yX2_teethOf cX2_teethOf 2 (some .int), Cond.fieldLink RX2 15 "Greenwheels$Gearing" "teeth" "[I", Cond.methodLink RX2 82 yX1_times, Cond.instanceMethod yX1_times, Cond.selects RX1 yX1_times yX1_times, Cond.initialized RX1, Cond.code yX1_times cX1_times 5 (some (.object "Greenwheels$Fraction")), Cond.classLink RX1 14 RX1, Cond.instantiable RX1 2, Cond.fieldLink RX1 13 "Greenwheels$Fraction" "upper" "J", Cond.fieldLink RX1 19 "Greenwheels$Fraction" "lower" "J", Cond.methodLink RX1 22 yX1_init, Cond.instanceMethod yX1_init, Cond.code yX1_init cX1_init 7 none, Cond.methodLink RX1 1 objectInit, Cond.instanceMethod objectInit, Cond.code objectInit ⟨#[0xb1]⟩ 1 none, Cond.static yX5_commonDivisor, Cond.code yX5_commonDivisor cX5_commonDivisor 11 (some .long)]
def wsX2_spreadFromWheel : List Cond := .code yX2_spreadFromWheel cX2_spreadFromWheel 7 (some .boolean) :: ((wsX2_spreadFromWheel_r1 ++ wsX2_spreadFromWheel_r2) ++ wsX20 ++ wsX10)
def wsX2_spreadRates_r1 : List Cond := [Cond.fieldLink RX2 26 "Greenwheels$Gearing" "whole" "LGreenwheels$Fraction;", Cond.fieldLink RX2 44 "Greenwheels$Gearing" "wheels" "I", Cond.methodLink RX2 60 yX2_meshedWith, Cond.instanceMethod yX2_meshedWith, Cond.selects RX2 yX2_meshedWith yX2_meshedWith, Cond.initialized RX2, Cond.code yX2_meshedWith cX2_meshedWith 2 (some .int), Cond.fieldLink RX2 18 "Greenwheels$Gearing" "meshSets" "[I", Cond.static yX5_at, Cond.initialized RX5, Cond.code yX5_at cX5_at 2 (some .int), Cond.methodLink RX2 107 yX2_spreadFromWheel, Cond.instanceMethod yX2_spreadFromWheel, Cond.selects RX2 yX2_spreadFromWheel yX2_spreadFromWheel, Cond.code yX2_spreadFromWheel cX2_spreadFromWheel 7 (some .boolean), Cond.methodLink RX2 56 yX2_axleOf, Cond.instanceMethod yX2_axleOf, Cond.selects RX2 yX2_axleOf yX2_axleOf, Cond.code yX2_axleOf cX2_axleOf 2 (some .int), Cond.fieldLink RX2 9 "Greenwheels$Gearing" "axles" "[I", Cond.methodLink RX2 67 yX2_rateIn, Cond.static yX2_rateIn, Cond.code yX2_rateIn cX2_rateIn 2 (some (.object "Greenwheels$Fraction")), Cond.methodLink RX2 111 yX2_areMeshed]
def wsX2_spreadRates_r2 : List Cond := [Cond.instanceMethod yX2_areMeshed, Cond.selects RX2 yX2_areMeshed yX2_areMeshed, Cond.code yX2_areMeshed cX2_areMeshed 3 (some .boolean), Cond.static yX5_isIn, Cond.code yX5_isIn cX5_isIn 2 (some .boolean), Cond.methodLink RX2 71 yX2_teethOf, Cond.instanceMethod yX2_teethOf, Cond.selects RX2 yX2_teethOf yX2_teethOf, Cond.code yX2_teethOf cX2_teethOf 2 (some .int), Cond.fieldLink RX2 15 "Greenwheels$Gearing" "teeth" "[I", Cond.methodLink RX2 82 yX1_times, Cond.instanceMethod yX1_times, Cond.selects RX1 yX1_times yX1_times, Cond.initialized RX1, Cond.code yX1_times cX1_times 5 (some (.object "Greenwheels$Fraction")), Cond.classLink RX1 14 RX1, Cond.instantiable RX1 2, Cond.fieldLink RX1 13 "Greenwheels$Fraction" "upper" "J", Cond.fieldLink RX1 19 "Greenwheels$Fraction" "lower" "J", Cond.methodLink RX1 22 yX1_init, Cond.instanceMethod yX1_init, Cond.code yX1_init cX1_init 7 none, Cond.methodLink RX1 1 objectInit, Cond.instanceMethod objectInit]
def wsX2_spreadRates_r3 : List Cond := [Cond.code objectInit ⟨#[0xb1]⟩ 1 none, Cond.static yX5_commonDivisor, Cond.code yX5_commonDivisor cX5_commonDivisor 11 (some .long)]
def wsX2_spreadRates : List Cond := .code yX2_spreadRates cX2_spreadRates 6 none :: ((wsX2_spreadRates_r1 ++ (wsX2_spreadRates_r2 ++ wsX2_spreadRates_r3)) ++ wsX20 ++ wsX10)
def wsX2_init_r1 : List Cond := [Cond.methodLink RX2 3 objectInit, Cond.instanceMethod objectInit, Cond.code objectInit ⟨#[0xb1]⟩ 1 none, Cond.arrayClass .int, Cond.fieldLink RX2 9 "Greenwheels$Gearing" "axles" "[I", Cond.fieldLink RX2 15 "Greenwheels$Gearing" "teeth" "[I", Cond.fieldLink RX2 18 "Greenwheels$Gearing" "meshSets" "[I", Cond.classLink RX2 21 RX1, Cond.instantiable RX1 2, Cond.initialized RX1, Cond.fieldLink RX2 26 "Greenwheels$Gearing" "whole" "LGreenwheels$Fraction;", Cond.fieldLink RX2 30 "Greenwheels$Gearing" "still" "LGreenwheels$Fraction;", Cond.fieldLink RX2 33 "Greenwheels$Gearing" "byCrank" "[LGreenwheels$Fraction;", Cond.fieldLink RX2 37 "Greenwheels$Gearing" "byAnother" "[LGreenwheels$Fraction;", Cond.methodLink RX2 23 yX1_init, Cond.instanceMethod yX1_init, Cond.code yX1_init cX1_init 7 none, Cond.methodLink RX1 1 objectInit, Cond.fieldLink RX1 13 "Greenwheels$Fraction" "upper" "J", Cond.fieldLink RX1 19 "Greenwheels$Fraction" "lower" "J", Cond.static yX5_commonDivisor, Cond.initialized RX5, Cond.code yX5_commonDivisor cX5_commonDivisor 11 (some .long), Cond.methodLink RX2 40 yX2_spreadRates]
def wsX2_init_r2 : List Cond := [Cond.instanceMethod yX2_spreadRates, Cond.selects RX2 yX2_spreadRates yX2_spreadRates, Cond.initialized RX2, Cond.code yX2_spreadRates cX2_spreadRates 6 none, Cond.fieldLink RX2 44 "Greenwheels$Gearing" "wheels" "I", Cond.methodLink RX2 60 yX2_meshedWith, Cond.instanceMethod yX2_meshedWith, Cond.selects RX2 yX2_meshedWith yX2_meshedWith, Cond.code yX2_meshedWith cX2_meshedWith 2 (some .int), Cond.static yX5_at, Cond.code yX5_at cX5_at 2 (some .int), Cond.methodLink RX2 107 yX2_spreadFromWheel, Cond.instanceMethod yX2_spreadFromWheel, Cond.selects RX2 yX2_spreadFromWheel yX2_spreadFromWheel, Cond.code yX2_spreadFromWheel cX2_spreadFromWheel 7 (some .boolean), Cond.methodLink RX2 56 yX2_axleOf, Cond.instanceMethod yX2_axleOf, Cond.selects RX2 yX2_axleOf yX2_axleOf, Cond.code yX2_axleOf cX2_axleOf 2 (some .int), Cond.methodLink RX2 67 yX2_rateIn, Cond.static yX2_rateIn, Cond.code yX2_rateIn cX2_rateIn 2 (some (.object "Greenwheels$Fraction")), Cond.methodLink RX2 111 yX2_areMeshed, Cond.instanceMethod yX2_areMeshed]
def wsX2_init_r3 : List Cond := [Cond.selects RX2 yX2_areMeshed yX2_areMeshed, Cond.code yX2_areMeshed cX2_areMeshed 3 (some .boolean), Cond.static yX5_isIn, Cond.code yX5_isIn cX5_isIn 2 (some .boolean), Cond.methodLink RX2 71 yX2_teethOf, Cond.instanceMethod yX2_teethOf, Cond.selects RX2 yX2_teethOf yX2_teethOf, Cond.code yX2_teethOf cX2_teethOf 2 (some .int), Cond.methodLink RX2 82 yX1_times, Cond.instanceMethod yX1_times, Cond.selects RX1 yX1_times yX1_times, Cond.code yX1_times cX1_times 5 (some (.object "Greenwheels$Fraction")), Cond.classLink RX1 14 RX1, Cond.methodLink RX1 22 yX1_init]
def wsX2_init : List Cond := .code yX2_init cX2_init 1 none :: ((wsX2_init_r1 ++ (wsX2_init_r2 ++ wsX2_init_r3)) ++ wsX20 ++ wsX10)
def wsX2_addWheel : List Cond := .code yX2_addWheel cX2_addWheel 4 (some .int) :: ([.fieldLink RX2 44 "Greenwheels$Gearing" "wheels" "I", .fieldLink RX2 9 "Greenwheels$Gearing" "axles" "[I", .fieldLink RX2 15 "Greenwheels$Gearing" "teeth" "[I", .static yX5_put, .initialized RX5, .code yX5_put cX5_put 3 none] ++ wsX20)
def wsX2_areOnOneAxle : List Cond := .code yX2_areOnOneAxle cX2_areOnOneAxle 3 (some .boolean) :: ([.methodLink RX2 56 yX2_axleOf, .instanceMethod yX2_axleOf, .selects RX2 yX2_axleOf yX2_axleOf, .initialized RX2, .code yX2_axleOf cX2_axleOf 2 (some .int), .fieldLink RX2 9 "Greenwheels$Gearing" "axles" "[I", .static yX5_at, .initialized RX5, .code yX5_at cX5_at 2 (some .int)] ++ wsX20)
def wsX2_join_r1 : List Cond := [Cond.fieldLink RX2 18 "Greenwheels$Gearing" "meshSets" "[I", Cond.fieldLink RX2 33 "Greenwheels$Gearing" "byCrank" "[LGreenwheels$Fraction;", Cond.methodLink RX2 60 yX2_meshedWith, Cond.instanceMethod yX2_meshedWith, Cond.selects RX2 yX2_meshedWith yX2_meshedWith, Cond.initialized RX2, Cond.code yX2_meshedWith cX2_meshedWith 2 (some .int), Cond.static yX5_at, Cond.initialized RX5, Cond.code yX5_at cX5_at 2 (some .int), Cond.static yX5_put, Cond.code yX5_put cX5_put 3 none, Cond.methodLink RX2 40 yX2_spreadRates, Cond.instanceMethod yX2_spreadRates, Cond.selects RX2 yX2_spreadRates yX2_spreadRates, Cond.code yX2_spreadRates cX2_spreadRates 6 none, Cond.fieldLink RX2 26 "Greenwheels$Gearing" "whole" "LGreenwheels$Fraction;", Cond.fieldLink RX2 44 "Greenwheels$Gearing" "wheels" "I", Cond.methodLink RX2 107 yX2_spreadFromWheel, Cond.instanceMethod yX2_spreadFromWheel, Cond.selects RX2 yX2_spreadFromWheel yX2_spreadFromWheel, Cond.code yX2_spreadFromWheel cX2_spreadFromWheel 7 (some .boolean), Cond.methodLink RX2 56 yX2_axleOf, Cond.instanceMethod yX2_axleOf]
def wsX2_join_r2 : List Cond := [Cond.selects RX2 yX2_axleOf yX2_axleOf, Cond.code yX2_axleOf cX2_axleOf 2 (some .int), Cond.fieldLink RX2 9 "Greenwheels$Gearing" "axles" "[I", Cond.methodLink RX2 67 yX2_rateIn, Cond.static yX2_rateIn, Cond.code yX2_rateIn cX2_rateIn 2 (some (.object "Greenwheels$Fraction")), Cond.methodLink RX2 111 yX2_areMeshed, Cond.instanceMethod yX2_areMeshed, Cond.selects RX2 yX2_areMeshed yX2_areMeshed, Cond.code yX2_areMeshed cX2_areMeshed 3 (some .boolean), Cond.static yX5_isIn, Cond.code yX5_isIn cX5_isIn 2 (some .boolean), Cond.methodLink RX2 71 yX2_teethOf, Cond.instanceMethod yX2_teethOf, Cond.selects RX2 yX2_teethOf yX2_teethOf, Cond.code yX2_teethOf cX2_teethOf 2 (some .int), Cond.fieldLink RX2 15 "Greenwheels$Gearing" "teeth" "[I", Cond.methodLink RX2 82 yX1_times, Cond.instanceMethod yX1_times, Cond.selects RX1 yX1_times yX1_times, Cond.initialized RX1, Cond.code yX1_times cX1_times 5 (some (.object "Greenwheels$Fraction")), Cond.classLink RX1 14 RX1, Cond.instantiable RX1 2]
def wsX2_join_r3 : List Cond := [Cond.fieldLink RX1 13 "Greenwheels$Fraction" "upper" "J", Cond.fieldLink RX1 19 "Greenwheels$Fraction" "lower" "J", Cond.methodLink RX1 22 yX1_init, Cond.instanceMethod yX1_init, Cond.code yX1_init cX1_init 7 none, Cond.methodLink RX1 1 objectInit, Cond.instanceMethod objectInit, Cond.code objectInit ⟨#[0xb1]⟩ 1 none, Cond.static yX5_commonDivisor, Cond.code yX5_commonDivisor cX5_commonDivisor 11 (some .long)]
def wsX2_join : List Cond := .code yX2_join cX2_join 3 none :: ((wsX2_join_r1 ++ (wsX2_join_r2 ++ wsX2_join_r3)) ++ wsX20 ++ wsX10)
def wsX2_separate_r1 : List Cond := [Cond.fieldLink RX2 18 "Greenwheels$Gearing" "meshSets" "[I", Cond.fieldLink RX2 33 "Greenwheels$Gearing" "byCrank" "[LGreenwheels$Fraction;", Cond.methodLink RX2 60 yX2_meshedWith, Cond.instanceMethod yX2_meshedWith, Cond.selects RX2 yX2_meshedWith yX2_meshedWith, Cond.initialized RX2, Cond.code yX2_meshedWith cX2_meshedWith 2 (some .int), Cond.static yX5_at, Cond.initialized RX5, Cond.code yX5_at cX5_at 2 (some .int), Cond.static yX5_put, Cond.code yX5_put cX5_put 3 none, Cond.methodLink RX2 40 yX2_spreadRates, Cond.instanceMethod yX2_spreadRates, Cond.selects RX2 yX2_spreadRates yX2_spreadRates, Cond.code yX2_spreadRates cX2_spreadRates 6 none, Cond.fieldLink RX2 26 "Greenwheels$Gearing" "whole" "LGreenwheels$Fraction;", Cond.fieldLink RX2 44 "Greenwheels$Gearing" "wheels" "I", Cond.methodLink RX2 107 yX2_spreadFromWheel, Cond.instanceMethod yX2_spreadFromWheel, Cond.selects RX2 yX2_spreadFromWheel yX2_spreadFromWheel, Cond.code yX2_spreadFromWheel cX2_spreadFromWheel 7 (some .boolean), Cond.methodLink RX2 56 yX2_axleOf, Cond.instanceMethod yX2_axleOf]
def wsX2_separate_r2 : List Cond := [Cond.selects RX2 yX2_axleOf yX2_axleOf, Cond.code yX2_axleOf cX2_axleOf 2 (some .int), Cond.fieldLink RX2 9 "Greenwheels$Gearing" "axles" "[I", Cond.methodLink RX2 67 yX2_rateIn, Cond.static yX2_rateIn, Cond.code yX2_rateIn cX2_rateIn 2 (some (.object "Greenwheels$Fraction")), Cond.methodLink RX2 111 yX2_areMeshed, Cond.instanceMethod yX2_areMeshed, Cond.selects RX2 yX2_areMeshed yX2_areMeshed, Cond.code yX2_areMeshed cX2_areMeshed 3 (some .boolean), Cond.static yX5_isIn, Cond.code yX5_isIn cX5_isIn 2 (some .boolean), Cond.methodLink RX2 71 yX2_teethOf, Cond.instanceMethod yX2_teethOf, Cond.selects RX2 yX2_teethOf yX2_teethOf, Cond.code yX2_teethOf cX2_teethOf 2 (some .int), Cond.fieldLink RX2 15 "Greenwheels$Gearing" "teeth" "[I", Cond.methodLink RX2 82 yX1_times, Cond.instanceMethod yX1_times, Cond.selects RX1 yX1_times yX1_times, Cond.initialized RX1, Cond.code yX1_times cX1_times 5 (some (.object "Greenwheels$Fraction")), Cond.classLink RX1 14 RX1, Cond.instantiable RX1 2]
def wsX2_separate_r3 : List Cond := [Cond.fieldLink RX1 13 "Greenwheels$Fraction" "upper" "J", Cond.fieldLink RX1 19 "Greenwheels$Fraction" "lower" "J", Cond.methodLink RX1 22 yX1_init, Cond.instanceMethod yX1_init, Cond.code yX1_init cX1_init 7 none, Cond.methodLink RX1 1 objectInit, Cond.instanceMethod objectInit, Cond.code objectInit ⟨#[0xb1]⟩ 1 none, Cond.static yX5_commonDivisor, Cond.code yX5_commonDivisor cX5_commonDivisor 11 (some .long)]
def wsX2_separate : List Cond := .code yX2_separate cX2_separate 3 none :: ((wsX2_separate_r1 ++ (wsX2_separate_r2 ++ wsX2_separate_r3)) ++ wsX20 ++ wsX10)
def wsX2_wouldJam_r1 : List Cond := [Cond.fieldLink RX2 37 "Greenwheels$Gearing" "byAnother" "[LGreenwheels$Fraction;", Cond.classLink RX2 21 RX1, Cond.instantiable RX1 2, Cond.initialized RX1, Cond.methodLink RX2 56 yX2_axleOf, Cond.instanceMethod yX2_axleOf, Cond.selects RX2 yX2_axleOf yX2_axleOf, Cond.initialized RX2, Cond.code yX2_axleOf cX2_axleOf 2 (some .int), Cond.fieldLink RX2 9 "Greenwheels$Gearing" "axles" "[I", Cond.static yX5_at, Cond.initialized RX5, Cond.code yX5_at cX5_at 2 (some .int), Cond.methodLink RX2 40 yX2_spreadRates, Cond.instanceMethod yX2_spreadRates, Cond.selects RX2 yX2_spreadRates yX2_spreadRates, Cond.code yX2_spreadRates cX2_spreadRates 6 none, Cond.fieldLink RX2 26 "Greenwheels$Gearing" "whole" "LGreenwheels$Fraction;", Cond.fieldLink RX2 44 "Greenwheels$Gearing" "wheels" "I", Cond.methodLink RX2 60 yX2_meshedWith, Cond.instanceMethod yX2_meshedWith, Cond.selects RX2 yX2_meshedWith yX2_meshedWith, Cond.code yX2_meshedWith cX2_meshedWith 2 (some .int), Cond.fieldLink RX2 18 "Greenwheels$Gearing" "meshSets" "[I"]
def wsX2_wouldJam_r2 : List Cond := [Cond.methodLink RX2 107 yX2_spreadFromWheel, Cond.instanceMethod yX2_spreadFromWheel, Cond.selects RX2 yX2_spreadFromWheel yX2_spreadFromWheel, Cond.code yX2_spreadFromWheel cX2_spreadFromWheel 7 (some .boolean), Cond.methodLink RX2 67 yX2_rateIn, Cond.static yX2_rateIn, Cond.code yX2_rateIn cX2_rateIn 2 (some (.object "Greenwheels$Fraction")), Cond.methodLink RX2 111 yX2_areMeshed, Cond.instanceMethod yX2_areMeshed, Cond.selects RX2 yX2_areMeshed yX2_areMeshed, Cond.code yX2_areMeshed cX2_areMeshed 3 (some .boolean), Cond.static yX5_isIn, Cond.code yX5_isIn cX5_isIn 2 (some .boolean), Cond.methodLink RX2 71 yX2_teethOf, Cond.instanceMethod yX2_teethOf, Cond.selects RX2 yX2_teethOf yX2_teethOf, Cond.code yX2_teethOf cX2_teethOf 2 (some .int), Cond.fieldLink RX2 15 "Greenwheels$Gearing" "teeth" "[I", Cond.methodLink RX2 82 yX1_times, Cond.instanceMethod yX1_times, Cond.selects RX1 yX1_times yX1_times, Cond.code yX1_times cX1_times 5 (some (.object "Greenwheels$Fraction")), Cond.classLink RX1 14 RX1, Cond.fieldLink RX1 13 "Greenwheels$Fraction" "upper" "J"]
def wsX2_wouldJam_r3 : List Cond := [Cond.fieldLink RX1 19 "Greenwheels$Fraction" "lower" "J", Cond.methodLink RX1 22 yX1_init, Cond.instanceMethod yX1_init, Cond.code yX1_init cX1_init 7 none, Cond.methodLink RX1 1 objectInit, Cond.instanceMethod objectInit, Cond.code objectInit ⟨#[0xb1]⟩ 1 none, Cond.static yX5_commonDivisor, Cond.code yX5_commonDivisor cX5_commonDivisor 11 (some .long), Cond.methodLink RX2 23 yX1_init, Cond.methodLink RX2 74 yX1_isSameAs, Cond.instanceMethod yX1_isSameAs, Cond.selects RX1 yX1_isSameAs yX1_isSameAs, Cond.code yX1_isSameAs cX1_isSameAs 2 (some .boolean)]
def wsX2_wouldJam : List Cond := .code yX2_wouldJam cX2_wouldJam 4 (some .boolean) :: ((wsX2_wouldJam_r1 ++ (wsX2_wouldJam_r2 ++ wsX2_wouldJam_r3)) ++ wsX20 ++ wsX10)
def wsX2_isMoved : List Cond := .code yX2_isMoved cX2_isMoved 2 (some .boolean) :: ([.fieldLink RX2 33 "Greenwheels$Gearing" "byCrank" "[LGreenwheels$Fraction;", .methodLink RX2 67 yX2_rateIn, .static yX2_rateIn, .initialized RX2, .code yX2_rateIn cX2_rateIn 2 (some (.object "Greenwheels$Fraction"))] ++ wsX20)
def wsX2_rateOf : List Cond := .code yX2_rateOf cX2_rateOf 3 (some (.object "Greenwheels$Fraction")) :: ([.fieldLink RX2 33 "Greenwheels$Gearing" "byCrank" "[LGreenwheels$Fraction;", .fieldLink RX2 30 "Greenwheels$Gearing" "still" "LGreenwheels$Fraction;", .methodLink RX2 67 yX2_rateIn, .static yX2_rateIn, .initialized RX2, .code yX2_rateIn cX2_rateIn 2 (some (.object "Greenwheels$Fraction"))] ++ wsX20)
def wsX2_turnedAt_r1 : List Cond := [Cond.methodLink RX2 78 yX2_rateOf, Cond.instanceMethod yX2_rateOf, Cond.selects RX2 yX2_rateOf yX2_rateOf, Cond.initialized RX2, Cond.code yX2_rateOf cX2_rateOf 3 (some (.object "Greenwheels$Fraction")), Cond.fieldLink RX2 33 "Greenwheels$Gearing" "byCrank" "[LGreenwheels$Fraction;", Cond.fieldLink RX2 30 "Greenwheels$Gearing" "still" "LGreenwheels$Fraction;", Cond.methodLink RX2 67 yX2_rateIn, Cond.static yX2_rateIn, Cond.code yX2_rateIn cX2_rateIn 2 (some (.object "Greenwheels$Fraction")), Cond.methodLink RX2 82 yX1_times, Cond.instanceMethod yX1_times, Cond.selects RX1 yX1_times yX1_times, Cond.initialized RX1, Cond.code yX1_times cX1_times 5 (some (.object "Greenwheels$Fraction")), Cond.classLink RX1 14 RX1, Cond.instantiable RX1 2, Cond.fieldLink RX1 13 "Greenwheels$Fraction" "upper" "J", Cond.fieldLink RX1 19 "Greenwheels$Fraction" "lower" "J", Cond.methodLink RX1 22 yX1_init, Cond.instanceMethod yX1_init, Cond.code yX1_init cX1_init 7 none, Cond.methodLink RX1 1 objectInit, Cond.instanceMethod objectInit]
def wsX2_turnedAt_r2 : List Cond := [Cond.code objectInit ⟨#[0xb1]⟩ 1 none, Cond.static yX5_commonDivisor, Cond.initialized RX5, Cond.code yX5_commonDivisor cX5_commonDivisor 11 (some .long)]
def wsX2_turnedAt : List Cond := .code yX2_turnedAt cX2_turnedAt 3 (some (.object "Greenwheels$Fraction")) :: ((wsX2_turnedAt_r1 ++ wsX2_turnedAt_r2) ++ wsX20 ++ wsX10)
def wsX2_countMeshes : List Cond := .code yX2_countMeshes cX2_countMeshes 3 (some .int) :: ([.fieldLink RX2 44 "Greenwheels$Gearing" "wheels" "I", .methodLink RX2 60 yX2_meshedWith, .instanceMethod yX2_meshedWith, .selects RX2 yX2_meshedWith yX2_meshedWith, .initialized RX2, .code yX2_meshedWith cX2_meshedWith 2 (some .int), .fieldLink RX2 18 "Greenwheels$Gearing" "meshSets" "[I", .static yX5_at, .initialized RX5, .code yX5_at cX5_at 2 (some .int), .methodLink RX2 86 yJ6_bitCount_0f7a4, .static yJ6_bitCount_0f7a4, .initialized RJ6, .code yJ6_bitCount_0f7a4 cJ6_bitCount_0f7a4 1 (some .int), .constant RJ6 265 (1431655765), .constant RJ6 266 (858993459), .constant RJ6 267 (252645135)] ++ wsX20)
def wsX2_countMoved : List Cond := .code yX2_countMoved cX2_countMoved 3 (some .int) :: ([.methodLink RX2 91 yX2_isMoved, .instanceMethod yX2_isMoved, .selects RX2 yX2_isMoved yX2_isMoved, .initialized RX2, .code yX2_isMoved cX2_isMoved 2 (some .boolean), .fieldLink RX2 33 "Greenwheels$Gearing" "byCrank" "[LGreenwheels$Fraction;", .methodLink RX2 67 yX2_rateIn, .static yX2_rateIn, .code yX2_rateIn cX2_rateIn 2 (some (.object "Greenwheels$Fraction"))] ++ wsX20)
def wsX2_turnsToReturn : List Cond := .code yX2_turnsToReturn cX2_turnsToReturn 8 (some .long) :: ([.fieldLink RX2 95 "Greenwheels$Fraction" "lower" "J", .methodLink RX2 78 yX2_rateOf, .instanceMethod yX2_rateOf, .selects RX2 yX2_rateOf yX2_rateOf, .initialized RX2, .code yX2_rateOf cX2_rateOf 3 (some (.object "Greenwheels$Fraction")), .fieldLink RX2 33 "Greenwheels$Gearing" "byCrank" "[LGreenwheels$Fraction;", .fieldLink RX2 30 "Greenwheels$Gearing" "still" "LGreenwheels$Fraction;", .methodLink RX2 67 yX2_rateIn, .static yX2_rateIn, .code yX2_rateIn cX2_rateIn 2 (some (.object "Greenwheels$Fraction")), .static yX5_commonDivisor, .initialized RX5, .code yX5_commonDivisor cX5_commonDivisor 11 (some .long)] ++ wsX10 ++ wsX20)
def wsX2_isPeriodRight : List Cond := .code yX2_isPeriodRight cX2_isPeriodRight 6 (some .boolean) :: ([.fieldLink RX2 95 "Greenwheels$Fraction" "lower" "J", .methodLink RX2 103 yX2_turnsToReturn, .instanceMethod yX2_turnsToReturn, .selects RX2 yX2_turnsToReturn yX2_turnsToReturn, .initialized RX2, .code yX2_turnsToReturn cX2_turnsToReturn 8 (some .long), .methodLink RX2 78 yX2_rateOf, .instanceMethod yX2_rateOf, .selects RX2 yX2_rateOf yX2_rateOf, .code yX2_rateOf cX2_rateOf 3 (some (.object "Greenwheels$Fraction")), .fieldLink RX2 33 "Greenwheels$Gearing" "byCrank" "[LGreenwheels$Fraction;", .fieldLink RX2 30 "Greenwheels$Gearing" "still" "LGreenwheels$Fraction;", .methodLink RX2 67 yX2_rateIn, .static yX2_rateIn, .code yX2_rateIn cX2_rateIn 2 (some (.object "Greenwheels$Fraction")), .static yX5_commonDivisor, .initialized RX5, .code yX5_commonDivisor cX5_commonDivisor 11 (some .long)] ++ wsX10 ++ wsX20)
def wsX3_piecesOf : List Cond := .code yX3_piecesOf cX3_piecesOf 2 (some .int) :: ([.fieldLink RX3 9 "Greenwheels$Lumps" "pieces" "[I", .static yX5_at, .initialized RX5, .code yX5_at cX5_at 2 (some .int)] ++ wsX30)
def wsX3_agreesWithAll : List Cond := .code yX3_agreesWithAll cX3_agreesWithAll 7 (some .boolean) :: ([.fieldLink RX3 18 "Greenwheels$Lumps" "degrees" "[I", .fieldLink RX3 15 "Greenwheels$Lumps" "teeth" "[I", .methodLink RX3 53 Lib.Math.abs.name, .static Lib.Math.abs.name, .initialized "java/lang/Math", .code Lib.Math.abs.name Lib.Math.abs.code 1 (some .int), .fieldLink RX3 21 "Greenwheels$Lumps" "doubts" "[I", .methodLink RX3 41 yX3_piecesOf, .instanceMethod yX3_piecesOf, .selects RX3 yX3_piecesOf yX3_piecesOf, .initialized RX3, .code yX3_piecesOf cX3_piecesOf 2 (some .int), .fieldLink RX3 9 "Greenwheels$Lumps" "pieces" "[I", .static yX5_at, .initialized RX5, .code yX5_at cX5_at 2 (some .int)] ++ wsX30)
def wsX3_weigh_r1 : List Cond := [Cond.fieldLink RX3 24 "Greenwheels$Lumps" "agreeing" "[I", Cond.fieldLink RX3 27 "Greenwheels$Lumps" "least" "[I", Cond.fieldLink RX3 30 "Greenwheels$Lumps" "greatest" "[I", Cond.methodLink RX3 49 yX3_agreesWithAll, Cond.instanceMethod yX3_agreesWithAll, Cond.selects RX3 yX3_agreesWithAll yX3_agreesWithAll, Cond.initialized RX3, Cond.code yX3_agreesWithAll cX3_agreesWithAll 7 (some .boolean), Cond.fieldLink RX3 18 "Greenwheels$Lumps" "degrees" "[I", Cond.fieldLink RX3 15 "Greenwheels$Lumps" "teeth" "[I", Cond.methodLink RX3 53 Lib.Math.abs.name, Cond.static Lib.Math.abs.name, Cond.initialized "java/lang/Math", Cond.code Lib.Math.abs.name Lib.Math.abs.code 1 (some .int), Cond.fieldLink RX3 21 "Greenwheels$Lumps" "doubts" "[I", Cond.methodLink RX3 41 yX3_piecesOf, Cond.instanceMethod yX3_piecesOf, Cond.selects RX3 yX3_piecesOf yX3_piecesOf, Cond.code yX3_piecesOf cX3_piecesOf 2 (some .int), Cond.fieldLink RX3 9 "Greenwheels$Lumps" "pieces" "[I", Cond.static yX5_at, Cond.initialized RX5, Cond.code yX5_at cX5_at 2 (some .int), Cond.static yX5_put]
def wsX3_weigh_r2 : List Cond := [Cond.code yX5_put cX5_put 3 none]
def wsX3_weigh : List Cond := .code yX3_weigh cX3_weigh 6 none :: ((wsX3_weigh_r1 ++ wsX3_weigh_r2) ++ wsX30)
def wsX3_init_r1 : List Cond := [Cond.methodLink RX3 3 objectInit, Cond.instanceMethod objectInit, Cond.code objectInit ⟨#[0xb1]⟩ 1 none, Cond.arrayClass .int, Cond.fieldLink RX3 9 "Greenwheels$Lumps" "pieces" "[I", Cond.fieldLink RX3 15 "Greenwheels$Lumps" "teeth" "[I", Cond.fieldLink RX3 18 "Greenwheels$Lumps" "degrees" "[I", Cond.fieldLink RX3 21 "Greenwheels$Lumps" "doubts" "[I", Cond.fieldLink RX3 24 "Greenwheels$Lumps" "agreeing" "[I", Cond.fieldLink RX3 27 "Greenwheels$Lumps" "least" "[I", Cond.fieldLink RX3 30 "Greenwheels$Lumps" "greatest" "[I", Cond.methodLink RX3 33 yX3_weigh, Cond.instanceMethod yX3_weigh, Cond.selects RX3 yX3_weigh yX3_weigh, Cond.initialized RX3, Cond.code yX3_weigh cX3_weigh 6 none, Cond.methodLink RX3 49 yX3_agreesWithAll, Cond.instanceMethod yX3_agreesWithAll, Cond.selects RX3 yX3_agreesWithAll yX3_agreesWithAll, Cond.code yX3_agreesWithAll cX3_agreesWithAll 7 (some .boolean), Cond.methodLink RX3 53 Lib.Math.abs.name, Cond.static Lib.Math.abs.name, Cond.initialized "java/lang/Math", Cond.code Lib.Math.abs.name Lib.Math.abs.code 1 (some .int)]
def wsX3_init_r2 : List Cond := [Cond.methodLink RX3 41 yX3_piecesOf, Cond.instanceMethod yX3_piecesOf, Cond.selects RX3 yX3_piecesOf yX3_piecesOf, Cond.code yX3_piecesOf cX3_piecesOf 2 (some .int), Cond.static yX5_at, Cond.initialized RX5, Cond.code yX5_at cX5_at 2 (some .int), Cond.static yX5_put, Cond.code yX5_put cX5_put 3 none]
def wsX3_init : List Cond := .code yX3_init cX3_init 2 none :: ((wsX3_init_r1 ++ wsX3_init_r2) ++ wsX30)
def wsX3_agreeingOf : List Cond := .code yX3_agreeingOf cX3_agreeingOf 2 (some .int) :: ([.fieldLink RX3 24 "Greenwheels$Lumps" "agreeing" "[I", .static yX5_at, .initialized RX5, .code yX5_at cX5_at 2 (some .int)] ++ wsX30)
def wsX3_leastOf : List Cond := .code yX3_leastOf cX3_leastOf 2 (some .int) :: ([.fieldLink RX3 27 "Greenwheels$Lumps" "least" "[I", .static yX5_at, .initialized RX5, .code yX5_at cX5_at 2 (some .int)] ++ wsX30)
def wsX3_greatestOf : List Cond := .code yX3_greatestOf cX3_greatestOf 2 (some .int) :: ([.fieldLink RX3 30 "Greenwheels$Lumps" "greatest" "[I", .static yX5_at, .initialized RX5, .code yX5_at cX5_at 2 (some .int)] ++ wsX30)
def wsX3_countPieces : List Cond := .code yX3_countPieces cX3_countPieces 3 (some .int) :: ([.methodLink RX3 41 yX3_piecesOf, .instanceMethod yX3_piecesOf, .selects RX3 yX3_piecesOf yX3_piecesOf, .initialized RX3, .code yX3_piecesOf cX3_piecesOf 2 (some .int), .fieldLink RX3 9 "Greenwheels$Lumps" "pieces" "[I", .static yX5_at, .initialized RX5, .code yX5_at cX5_at 2 (some .int)] ++ wsX30)
def wsX4_forget : List Cond := .code yX4_forget cX4_forget 1 none :: ([.fieldLink RX4 22 "Greenwheels$TrainSearch" "pairs" "I", .fieldLink RX4 29 "Greenwheels$TrainSearch" "a" "I", .fieldLink RX4 32 "Greenwheels$TrainSearch" "b" "I", .fieldLink RX4 35 "Greenwheels$TrainSearch" "c" "I", .fieldLink RX4 38 "Greenwheels$TrainSearch" "d" "I"] ++ wsX40)
def wsX4_init : List Cond := .code yX4_init cX4_init 1 none :: ([.methodLink RX4 3 objectInit, .instanceMethod objectInit, .code objectInit ⟨#[0xb1]⟩ 1 none, .methodLink RX4 9 yX4_forget, .instanceMethod yX4_forget, .selects RX4 yX4_forget yX4_forget, .initialized RX4, .code yX4_forget cX4_forget 1 none, .fieldLink RX4 22 "Greenwheels$TrainSearch" "pairs" "I", .fieldLink RX4 29 "Greenwheels$TrainSearch" "a" "I", .fieldLink RX4 32 "Greenwheels$TrainSearch" "b" "I", .fieldLink RX4 35 "Greenwheels$TrainSearch" "c" "I", .fieldLink RX4 38 "Greenwheels$TrainSearch" "d" "I"] ++ wsX40)
def wsX5_init_r1 : List Cond := [Cond.methodLink RX5 1 objectInit, Cond.instanceMethod objectInit, Cond.code objectInit ⟨#[0xb1]⟩ 1 none, Cond.classLink RX5 7 RX2, Cond.instantiable RX2 8, Cond.initialized RX2, Cond.fieldLink RX5 10 "Greenwheels" "gearing" "LGreenwheels$Gearing;", Cond.arrayClass .int, Cond.fieldLink RX5 16 "Greenwheels" "cells" "[I", Cond.classLink RX5 20 RX3, Cond.instantiable RX3 7, Cond.initialized RX3, Cond.fieldLink RX5 23 "Greenwheels" "lumps" "LGreenwheels$Lumps;", Cond.classLink RX5 27 RX0, Cond.instantiable RX0 4, Cond.initialized RX0, Cond.fieldLink RX5 30 "Greenwheels" "claims" "LGreenwheels$Claims;", Cond.classLink RX5 34 RX4, Cond.instantiable RX4 5, Cond.initialized RX4, Cond.fieldLink RX5 37 "Greenwheels" "search" "LGreenwheels$TrainSearch;", Cond.methodLink RX5 9 yX2_init, Cond.instanceMethod yX2_init, Cond.code yX2_init cX2_init 1 none]
def wsX5_init_r2 : List Cond := [Cond.methodLink RX2 3 objectInit, Cond.fieldLink RX2 9 "Greenwheels$Gearing" "axles" "[I", Cond.fieldLink RX2 15 "Greenwheels$Gearing" "teeth" "[I", Cond.fieldLink RX2 18 "Greenwheels$Gearing" "meshSets" "[I", Cond.classLink RX2 21 RX1, Cond.instantiable RX1 2, Cond.initialized RX1, Cond.fieldLink RX2 26 "Greenwheels$Gearing" "whole" "LGreenwheels$Fraction;", Cond.fieldLink RX2 30 "Greenwheels$Gearing" "still" "LGreenwheels$Fraction;", Cond.fieldLink RX2 33 "Greenwheels$Gearing" "byCrank" "[LGreenwheels$Fraction;", Cond.fieldLink RX2 37 "Greenwheels$Gearing" "byAnother" "[LGreenwheels$Fraction;", Cond.methodLink RX2 23 yX1_init, Cond.instanceMethod yX1_init, Cond.code yX1_init cX1_init 7 none, Cond.methodLink RX1 1 objectInit, Cond.fieldLink RX1 13 "Greenwheels$Fraction" "upper" "J", Cond.fieldLink RX1 19 "Greenwheels$Fraction" "lower" "J", Cond.static yX5_commonDivisor, Cond.initialized RX5, Cond.code yX5_commonDivisor cX5_commonDivisor 11 (some .long), Cond.methodLink RX2 40 yX2_spreadRates, Cond.instanceMethod yX2_spreadRates, Cond.selects RX2 yX2_spreadRates yX2_spreadRates, Cond.code yX2_spreadRates cX2_spreadRates 6 none]
def wsX5_init_r3 : List Cond := [Cond.fieldLink RX2 44 "Greenwheels$Gearing" "wheels" "I", Cond.methodLink RX2 60 yX2_meshedWith, Cond.instanceMethod yX2_meshedWith, Cond.selects RX2 yX2_meshedWith yX2_meshedWith, Cond.code yX2_meshedWith cX2_meshedWith 2 (some .int), Cond.static yX5_at, Cond.code yX5_at cX5_at 2 (some .int), Cond.methodLink RX2 107 yX2_spreadFromWheel, Cond.instanceMethod yX2_spreadFromWheel, Cond.selects RX2 yX2_spreadFromWheel yX2_spreadFromWheel, Cond.code yX2_spreadFromWheel cX2_spreadFromWheel 7 (some .boolean), Cond.methodLink RX2 56 yX2_axleOf, Cond.instanceMethod yX2_axleOf, Cond.selects RX2 yX2_axleOf yX2_axleOf, Cond.code yX2_axleOf cX2_axleOf 2 (some .int), Cond.methodLink RX2 67 yX2_rateIn, Cond.static yX2_rateIn, Cond.code yX2_rateIn cX2_rateIn 2 (some (.object "Greenwheels$Fraction")), Cond.methodLink RX2 111 yX2_areMeshed, Cond.instanceMethod yX2_areMeshed, Cond.selects RX2 yX2_areMeshed yX2_areMeshed, Cond.code yX2_areMeshed cX2_areMeshed 3 (some .boolean), Cond.static yX5_isIn, Cond.code yX5_isIn cX5_isIn 2 (some .boolean)]
def wsX5_init_r4 : List Cond := [Cond.methodLink RX2 71 yX2_teethOf, Cond.instanceMethod yX2_teethOf, Cond.selects RX2 yX2_teethOf yX2_teethOf, Cond.code yX2_teethOf cX2_teethOf 2 (some .int), Cond.methodLink RX2 82 yX1_times, Cond.instanceMethod yX1_times, Cond.selects RX1 yX1_times yX1_times, Cond.code yX1_times cX1_times 5 (some (.object "Greenwheels$Fraction")), Cond.classLink RX1 14 RX1, Cond.methodLink RX1 22 yX1_init, Cond.methodLink RX5 22 yX3_init, Cond.instanceMethod yX3_init, Cond.code yX3_init cX3_init 2 none, Cond.methodLink RX3 3 objectInit, Cond.fieldLink RX3 9 "Greenwheels$Lumps" "pieces" "[I", Cond.fieldLink RX3 15 "Greenwheels$Lumps" "teeth" "[I", Cond.fieldLink RX3 18 "Greenwheels$Lumps" "degrees" "[I", Cond.fieldLink RX3 21 "Greenwheels$Lumps" "doubts" "[I", Cond.fieldLink RX3 24 "Greenwheels$Lumps" "agreeing" "[I", Cond.fieldLink RX3 27 "Greenwheels$Lumps" "least" "[I", Cond.fieldLink RX3 30 "Greenwheels$Lumps" "greatest" "[I", Cond.methodLink RX3 33 yX3_weigh, Cond.instanceMethod yX3_weigh, Cond.selects RX3 yX3_weigh yX3_weigh]
def wsX5_init_r5 : List Cond := [Cond.code yX3_weigh cX3_weigh 6 none, Cond.methodLink RX3 49 yX3_agreesWithAll, Cond.instanceMethod yX3_agreesWithAll, Cond.selects RX3 yX3_agreesWithAll yX3_agreesWithAll, Cond.code yX3_agreesWithAll cX3_agreesWithAll 7 (some .boolean), Cond.methodLink RX3 53 Lib.Math.abs.name, Cond.static Lib.Math.abs.name, Cond.initialized "java/lang/Math", Cond.code Lib.Math.abs.name Lib.Math.abs.code 1 (some .int), Cond.methodLink RX3 41 yX3_piecesOf, Cond.instanceMethod yX3_piecesOf, Cond.selects RX3 yX3_piecesOf yX3_piecesOf, Cond.code yX3_piecesOf cX3_piecesOf 2 (some .int), Cond.static yX5_put, Cond.code yX5_put cX5_put 3 none, Cond.methodLink RX5 29 yX0_init, Cond.instanceMethod yX0_init, Cond.code yX0_init cX0_init 1 none, Cond.methodLink RX0 3 objectInit, Cond.fieldLink RX0 9 "Greenwheels$Claims" "near" "[I", Cond.fieldLink RX0 15 "Greenwheels$Claims" "nearAndFar" "[I", Cond.methodLink RX5 36 yX4_init, Cond.instanceMethod yX4_init, Cond.code yX4_init cX4_init 1 none]
def wsX5_init_r6 : List Cond := [Cond.methodLink RX4 3 objectInit, Cond.methodLink RX4 9 yX4_forget, Cond.instanceMethod yX4_forget, Cond.selects RX4 yX4_forget yX4_forget, Cond.code yX4_forget cX4_forget 1 none, Cond.fieldLink RX4 22 "Greenwheels$TrainSearch" "pairs" "I", Cond.fieldLink RX4 29 "Greenwheels$TrainSearch" "a" "I", Cond.fieldLink RX4 32 "Greenwheels$TrainSearch" "b" "I", Cond.fieldLink RX4 35 "Greenwheels$TrainSearch" "c" "I", Cond.fieldLink RX4 38 "Greenwheels$TrainSearch" "d" "I"]
def wsX5_init : List Cond := .code yX5_init cX5_init 2 none :: ((wsX5_init_r1 ++ (wsX5_init_r2 ++ (wsX5_init_r3 ++ (wsX5_init_r4 ++ (wsX5_init_r5 ++ wsX5_init_r6))))) ++ wsX20 ++ wsX50 ++ wsX30 ++ wsX00 ++ wsX40 ++ wsX10)
def wsX5_isWithin : List Cond := .code yX5_isWithin cX5_isWithin 3 (some .boolean) :: ([])
def wsX5_demandIndex : List Cond := .code yX5_demandIndex cX5_demandIndex 1 none :: ([.classLink RX5 276 "java/lang/IndexOutOfBoundsException", .initialized "java/lang/IndexOutOfBoundsException"] ++ (vx_atS RX5 280 "java/lang/IndexOutOfBoundsException" ["java/lang/RuntimeException", "java/lang/Exception"]).filter goodWord)
def wsX5_demandAxle : List Cond := .code yX5_demandAxle cX5_demandAxle 1 none :: ([.methodLink RX5 45 yX5_isWithin, .static yX5_isWithin, .initialized RX5, .code yX5_isWithin cX5_isWithin 3 (some .boolean), .methodLink RX5 98 yX5_demandIndex, .static yX5_demandIndex, .code yX5_demandIndex cX5_demandIndex 1 none, .classLink RX5 276 "java/lang/IndexOutOfBoundsException", .initialized "java/lang/IndexOutOfBoundsException"] ++ (vx_atS RX5 280 "java/lang/IndexOutOfBoundsException" ["java/lang/RuntimeException", "java/lang/Exception"]).filter goodWord)
def wsX5_demandArgument : List Cond := .code yX5_demandArgument cX5_demandArgument 1 none :: ([.classLink RX5 283 "java/lang/IllegalArgumentException", .initialized "java/lang/IllegalArgumentException"] ++ (vx_atS RX5 287 "java/lang/IllegalArgumentException" ["java/lang/RuntimeException", "java/lang/Exception"]).filter goodWord)
def wsX5_demandState : List Cond := .code yX5_demandState cX5_demandState 1 none :: ([.classLink RX5 288 "java/lang/IllegalStateException", .initialized "java/lang/IllegalStateException"] ++ (vx_atS RX5 292 "java/lang/IllegalStateException" ["java/lang/RuntimeException", "java/lang/Exception"]).filter goodWord)
def wsX5_wheel_r1 : List Cond := [Cond.fieldLink RX5 10 "Greenwheels" "gearing" "LGreenwheels$Gearing;", Cond.fieldLink RX5 53 "Greenwheels$Gearing" "wheels" "I", Cond.methodLink RX5 41 yX5_demandAxle, Cond.static yX5_demandAxle, Cond.initialized RX5, Cond.code yX5_demandAxle cX5_demandAxle 1 none, Cond.methodLink RX5 45 yX5_isWithin, Cond.static yX5_isWithin, Cond.code yX5_isWithin cX5_isWithin 3 (some .boolean), Cond.methodLink RX5 98 yX5_demandIndex, Cond.static yX5_demandIndex, Cond.code yX5_demandIndex cX5_demandIndex 1 none, Cond.classLink RX5 276 "java/lang/IndexOutOfBoundsException", Cond.initialized "java/lang/IndexOutOfBoundsException", Cond.methodLink RX5 49 yX5_demandArgument, Cond.static yX5_demandArgument, Cond.code yX5_demandArgument cX5_demandArgument 1 none, Cond.classLink RX5 283 "java/lang/IllegalArgumentException", Cond.initialized "java/lang/IllegalArgumentException", Cond.methodLink RX5 57 yX5_demandState, Cond.static yX5_demandState, Cond.code yX5_demandState cX5_demandState 1 none, Cond.classLink RX5 288 "java/lang/IllegalStateException", Cond.initialized "java/lang/IllegalStateException"]
def wsX5_wheel_r2 : List Cond := [Cond.methodLink RX5 60 yX2_addWheel, Cond.instanceMethod yX2_addWheel, Cond.selects RX2 yX2_addWheel yX2_addWheel, Cond.initialized RX2, Cond.code yX2_addWheel cX2_addWheel 4 (some .int), Cond.fieldLink RX2 44 "Greenwheels$Gearing" "wheels" "I", Cond.fieldLink RX2 9 "Greenwheels$Gearing" "axles" "[I", Cond.fieldLink RX2 15 "Greenwheels$Gearing" "teeth" "[I", Cond.static yX5_put, Cond.code yX5_put cX5_put 3 none]
def wsX5_wheel : List Cond := .code yX5_wheel cX5_wheel 3 (some .int) :: ((wsX5_wheel_r1 ++ wsX5_wheel_r2) ++ wsX50 ++ wsX20 ++ (vx_atS RX5 280 "java/lang/IndexOutOfBoundsException" ["java/lang/RuntimeException", "java/lang/Exception"]).filter goodWord ++ (vx_atS RX5 287 "java/lang/IllegalArgumentException" ["java/lang/RuntimeException", "java/lang/Exception"]).filter goodWord ++ (vx_atS RX5 292 "java/lang/IllegalStateException" ["java/lang/RuntimeException", "java/lang/Exception"]).filter goodWord)
def wsX5_demandWheel : List Cond := .code yX5_demandWheel cX5_demandWheel 2 none :: ([.fieldLink RX5 10 "Greenwheels" "gearing" "LGreenwheels$Gearing;", .fieldLink RX5 53 "Greenwheels$Gearing" "wheels" "I", .methodLink RX5 45 yX5_isWithin, .static yX5_isWithin, .initialized RX5, .code yX5_isWithin cX5_isWithin 3 (some .boolean), .methodLink RX5 98 yX5_demandIndex, .static yX5_demandIndex, .code yX5_demandIndex cX5_demandIndex 1 none, .classLink RX5 276 "java/lang/IndexOutOfBoundsException", .initialized "java/lang/IndexOutOfBoundsException"] ++ wsX50 ++ wsX20 ++ (vx_atS RX5 280 "java/lang/IndexOutOfBoundsException" ["java/lang/RuntimeException", "java/lang/Exception"]).filter goodWord)
def wsX5_mesh_r1 : List Cond := [Cond.fieldLink RX5 10 "Greenwheels" "gearing" "LGreenwheels$Gearing;", Cond.fieldLink RX5 74 "Greenwheels" "jams" "I", Cond.methodLink RX5 64 yX5_demandWheel, Cond.instanceMethod yX5_demandWheel, Cond.selects RX5 yX5_demandWheel yX5_demandWheel, Cond.initialized RX5, Cond.code yX5_demandWheel cX5_demandWheel 2 none, Cond.fieldLink RX5 53 "Greenwheels$Gearing" "wheels" "I", Cond.methodLink RX5 45 yX5_isWithin, Cond.static yX5_isWithin, Cond.code yX5_isWithin cX5_isWithin 3 (some .boolean), Cond.methodLink RX5 98 yX5_demandIndex, Cond.static yX5_demandIndex, Cond.code yX5_demandIndex cX5_demandIndex 1 none, Cond.classLink RX5 276 "java/lang/IndexOutOfBoundsException", Cond.initialized "java/lang/IndexOutOfBoundsException", Cond.methodLink RX5 67 yX2_areOnOneAxle, Cond.instanceMethod yX2_areOnOneAxle, Cond.selects RX2 yX2_areOnOneAxle yX2_areOnOneAxle, Cond.initialized RX2, Cond.code yX2_areOnOneAxle cX2_areOnOneAxle 3 (some .boolean), Cond.methodLink RX2 56 yX2_axleOf, Cond.instanceMethod yX2_axleOf, Cond.selects RX2 yX2_axleOf yX2_axleOf]
def wsX5_mesh_r2 : List Cond := [Cond.code yX2_axleOf cX2_axleOf 2 (some .int), Cond.fieldLink RX2 9 "Greenwheels$Gearing" "axles" "[I", Cond.static yX5_at, Cond.code yX5_at cX5_at 2 (some .int), Cond.methodLink RX5 49 yX5_demandArgument, Cond.static yX5_demandArgument, Cond.code yX5_demandArgument cX5_demandArgument 1 none, Cond.classLink RX5 283 "java/lang/IllegalArgumentException", Cond.initialized "java/lang/IllegalArgumentException", Cond.methodLink RX5 71 yX2_wouldJam, Cond.instanceMethod yX2_wouldJam, Cond.selects RX2 yX2_wouldJam yX2_wouldJam, Cond.code yX2_wouldJam cX2_wouldJam 4 (some .boolean), Cond.fieldLink RX2 37 "Greenwheels$Gearing" "byAnother" "[LGreenwheels$Fraction;", Cond.classLink RX2 21 RX1, Cond.instantiable RX1 2, Cond.initialized RX1, Cond.methodLink RX2 40 yX2_spreadRates, Cond.instanceMethod yX2_spreadRates, Cond.selects RX2 yX2_spreadRates yX2_spreadRates, Cond.code yX2_spreadRates cX2_spreadRates 6 none, Cond.fieldLink RX2 26 "Greenwheels$Gearing" "whole" "LGreenwheels$Fraction;", Cond.fieldLink RX2 44 "Greenwheels$Gearing" "wheels" "I", Cond.methodLink RX2 60 yX2_meshedWith]
def wsX5_mesh_r3 : List Cond := [Cond.instanceMethod yX2_meshedWith, Cond.selects RX2 yX2_meshedWith yX2_meshedWith, Cond.code yX2_meshedWith cX2_meshedWith 2 (some .int), Cond.fieldLink RX2 18 "Greenwheels$Gearing" "meshSets" "[I", Cond.methodLink RX2 107 yX2_spreadFromWheel, Cond.instanceMethod yX2_spreadFromWheel, Cond.selects RX2 yX2_spreadFromWheel yX2_spreadFromWheel, Cond.code yX2_spreadFromWheel cX2_spreadFromWheel 7 (some .boolean), Cond.methodLink RX2 67 yX2_rateIn, Cond.static yX2_rateIn, Cond.code yX2_rateIn cX2_rateIn 2 (some (.object "Greenwheels$Fraction")), Cond.methodLink RX2 111 yX2_areMeshed, Cond.instanceMethod yX2_areMeshed, Cond.selects RX2 yX2_areMeshed yX2_areMeshed, Cond.code yX2_areMeshed cX2_areMeshed 3 (some .boolean), Cond.static yX5_isIn, Cond.code yX5_isIn cX5_isIn 2 (some .boolean), Cond.methodLink RX2 71 yX2_teethOf, Cond.instanceMethod yX2_teethOf, Cond.selects RX2 yX2_teethOf yX2_teethOf, Cond.code yX2_teethOf cX2_teethOf 2 (some .int), Cond.fieldLink RX2 15 "Greenwheels$Gearing" "teeth" "[I", Cond.methodLink RX2 82 yX1_times, Cond.instanceMethod yX1_times]
def wsX5_mesh_r4 : List Cond := [Cond.selects RX1 yX1_times yX1_times, Cond.code yX1_times cX1_times 5 (some (.object "Greenwheels$Fraction")), Cond.classLink RX1 14 RX1, Cond.fieldLink RX1 13 "Greenwheels$Fraction" "upper" "J", Cond.fieldLink RX1 19 "Greenwheels$Fraction" "lower" "J", Cond.methodLink RX1 22 yX1_init, Cond.instanceMethod yX1_init, Cond.code yX1_init cX1_init 7 none, Cond.methodLink RX1 1 objectInit, Cond.instanceMethod objectInit, Cond.code objectInit ⟨#[0xb1]⟩ 1 none, Cond.static yX5_commonDivisor, Cond.code yX5_commonDivisor cX5_commonDivisor 11 (some .long), Cond.methodLink RX2 23 yX1_init, Cond.methodLink RX2 74 yX1_isSameAs, Cond.instanceMethod yX1_isSameAs, Cond.selects RX1 yX1_isSameAs yX1_isSameAs, Cond.code yX1_isSameAs cX1_isSameAs 2 (some .boolean), Cond.methodLink RX5 77 yX2_join, Cond.instanceMethod yX2_join, Cond.selects RX2 yX2_join yX2_join, Cond.code yX2_join cX2_join 3 none, Cond.fieldLink RX2 33 "Greenwheels$Gearing" "byCrank" "[LGreenwheels$Fraction;", Cond.static yX5_put]
def wsX5_mesh_r5 : List Cond := [Cond.code yX5_put cX5_put 3 none]
def wsX5_mesh : List Cond := .code yX5_mesh cX5_mesh 3 (some .boolean) :: ((wsX5_mesh_r1 ++ (wsX5_mesh_r2 ++ (wsX5_mesh_r3 ++ (wsX5_mesh_r4 ++ wsX5_mesh_r5)))) ++ wsX50 ++ wsX20 ++ wsX10 ++ (vx_atS RX5 280 "java/lang/IndexOutOfBoundsException" ["java/lang/RuntimeException", "java/lang/Exception"]).filter goodWord ++ (vx_atS RX5 287 "java/lang/IllegalArgumentException" ["java/lang/RuntimeException", "java/lang/Exception"]).filter goodWord)
def wsX5_part_r1 : List Cond := [Cond.fieldLink RX5 10 "Greenwheels" "gearing" "LGreenwheels$Gearing;", Cond.methodLink RX5 64 yX5_demandWheel, Cond.instanceMethod yX5_demandWheel, Cond.selects RX5 yX5_demandWheel yX5_demandWheel, Cond.initialized RX5, Cond.code yX5_demandWheel cX5_demandWheel 2 none, Cond.fieldLink RX5 53 "Greenwheels$Gearing" "wheels" "I", Cond.methodLink RX5 45 yX5_isWithin, Cond.static yX5_isWithin, Cond.code yX5_isWithin cX5_isWithin 3 (some .boolean), Cond.methodLink RX5 98 yX5_demandIndex, Cond.static yX5_demandIndex, Cond.code yX5_demandIndex cX5_demandIndex 1 none, Cond.classLink RX5 276 "java/lang/IndexOutOfBoundsException", Cond.initialized "java/lang/IndexOutOfBoundsException", Cond.methodLink RX5 81 yX2_areMeshed, Cond.instanceMethod yX2_areMeshed, Cond.selects RX2 yX2_areMeshed yX2_areMeshed, Cond.initialized RX2, Cond.code yX2_areMeshed cX2_areMeshed 3 (some .boolean), Cond.methodLink RX2 60 yX2_meshedWith, Cond.instanceMethod yX2_meshedWith, Cond.selects RX2 yX2_meshedWith yX2_meshedWith, Cond.code yX2_meshedWith cX2_meshedWith 2 (some .int)]
def wsX5_part_r2 : List Cond := [Cond.fieldLink RX2 18 "Greenwheels$Gearing" "meshSets" "[I", Cond.static yX5_at, Cond.code yX5_at cX5_at 2 (some .int), Cond.static yX5_isIn, Cond.code yX5_isIn cX5_isIn 2 (some .boolean), Cond.methodLink RX5 84 yX2_separate, Cond.instanceMethod yX2_separate, Cond.selects RX2 yX2_separate yX2_separate, Cond.code yX2_separate cX2_separate 3 none, Cond.fieldLink RX2 33 "Greenwheels$Gearing" "byCrank" "[LGreenwheels$Fraction;", Cond.static yX5_put, Cond.code yX5_put cX5_put 3 none, Cond.methodLink RX2 40 yX2_spreadRates, Cond.instanceMethod yX2_spreadRates, Cond.selects RX2 yX2_spreadRates yX2_spreadRates, Cond.code yX2_spreadRates cX2_spreadRates 6 none, Cond.fieldLink RX2 26 "Greenwheels$Gearing" "whole" "LGreenwheels$Fraction;", Cond.fieldLink RX2 44 "Greenwheels$Gearing" "wheels" "I", Cond.methodLink RX2 107 yX2_spreadFromWheel, Cond.instanceMethod yX2_spreadFromWheel, Cond.selects RX2 yX2_spreadFromWheel yX2_spreadFromWheel, Cond.code yX2_spreadFromWheel cX2_spreadFromWheel 7 (some .boolean), Cond.methodLink RX2 56 yX2_axleOf, Cond.instanceMethod yX2_axleOf]
def wsX5_part_r3 : List Cond := [Cond.selects RX2 yX2_axleOf yX2_axleOf, Cond.code yX2_axleOf cX2_axleOf 2 (some .int), Cond.fieldLink RX2 9 "Greenwheels$Gearing" "axles" "[I", Cond.methodLink RX2 67 yX2_rateIn, Cond.static yX2_rateIn, Cond.code yX2_rateIn cX2_rateIn 2 (some (.object "Greenwheels$Fraction")), Cond.methodLink RX2 111 yX2_areMeshed, Cond.methodLink RX2 71 yX2_teethOf, Cond.instanceMethod yX2_teethOf, Cond.selects RX2 yX2_teethOf yX2_teethOf, Cond.code yX2_teethOf cX2_teethOf 2 (some .int), Cond.fieldLink RX2 15 "Greenwheels$Gearing" "teeth" "[I", Cond.methodLink RX2 82 yX1_times, Cond.instanceMethod yX1_times, Cond.selects RX1 yX1_times yX1_times, Cond.initialized RX1, Cond.code yX1_times cX1_times 5 (some (.object "Greenwheels$Fraction")), Cond.classLink RX1 14 RX1, Cond.instantiable RX1 2, Cond.fieldLink RX1 13 "Greenwheels$Fraction" "upper" "J", Cond.fieldLink RX1 19 "Greenwheels$Fraction" "lower" "J", Cond.methodLink RX1 22 yX1_init, Cond.instanceMethod yX1_init, Cond.code yX1_init cX1_init 7 none]
def wsX5_part_r4 : List Cond := [Cond.methodLink RX1 1 objectInit, Cond.instanceMethod objectInit, Cond.code objectInit ⟨#[0xb1]⟩ 1 none, Cond.static yX5_commonDivisor, Cond.code yX5_commonDivisor cX5_commonDivisor 11 (some .long)]
def wsX5_part : List Cond := .code yX5_part cX5_part 4 (some .boolean) :: ((wsX5_part_r1 ++ (wsX5_part_r2 ++ (wsX5_part_r3 ++ wsX5_part_r4))) ++ wsX50 ++ wsX20 ++ wsX10 ++ (vx_atS RX5 280 "java/lang/IndexOutOfBoundsException" ["java/lang/RuntimeException", "java/lang/Exception"]).filter goodWord)
def wsX5_turn : List Cond := .code yX5_turn cX5_turn 2 (some .int) :: ([.fieldLink RX5 87 "Greenwheels" "turns" "I", .methodLink RX5 45 yX5_isWithin, .static yX5_isWithin, .initialized RX5, .code yX5_isWithin cX5_isWithin 3 (some .boolean), .methodLink RX5 49 yX5_demandArgument, .static yX5_demandArgument, .code yX5_demandArgument cX5_demandArgument 1 none, .classLink RX5 283 "java/lang/IllegalArgumentException", .initialized "java/lang/IllegalArgumentException", .methodLink RX5 57 yX5_demandState, .static yX5_demandState, .code yX5_demandState cX5_demandState 1 none, .classLink RX5 288 "java/lang/IllegalStateException", .initialized "java/lang/IllegalStateException"] ++ wsX50 ++ (vx_atS RX5 287 "java/lang/IllegalArgumentException" ["java/lang/RuntimeException", "java/lang/Exception"]).filter goodWord ++ (vx_atS RX5 292 "java/lang/IllegalStateException" ["java/lang/RuntimeException", "java/lang/Exception"]).filter goodWord)
def wsX5_dial : List Cond := .code yX5_dial cX5_dial 4 (some .int) :: ([.fieldLink RX5 16 "Greenwheels" "cells" "[I", .methodLink RX5 41 yX5_demandAxle, .static yX5_demandAxle, .initialized RX5, .code yX5_demandAxle cX5_demandAxle 1 none, .methodLink RX5 45 yX5_isWithin, .static yX5_isWithin, .code yX5_isWithin cX5_isWithin 3 (some .boolean), .methodLink RX5 98 yX5_demandIndex, .static yX5_demandIndex, .code yX5_demandIndex cX5_demandIndex 1 none, .classLink RX5 276 "java/lang/IndexOutOfBoundsException", .initialized "java/lang/IndexOutOfBoundsException", .methodLink RX5 49 yX5_demandArgument, .static yX5_demandArgument, .code yX5_demandArgument cX5_demandArgument 1 none, .classLink RX5 283 "java/lang/IllegalArgumentException", .initialized "java/lang/IllegalArgumentException", .methodLink RX5 90 yX5_at, .static yX5_at, .code yX5_at cX5_at 2 (some .int), .methodLink RX5 94 yX5_put, .static yX5_put, .code yX5_put cX5_put 3 none] ++ wsX50 ++ (vx_atS RX5 280 "java/lang/IndexOutOfBoundsException" ["java/lang/RuntimeException", "java/lang/Exception"]).filter goodWord ++ (vx_atS RX5 287 "java/lang/IllegalArgumentException" ["java/lang/RuntimeException", "java/lang/Exception"]).filter goodWord)
def wsX5_claim_r1 : List Cond := [Cond.fieldLink RX5 30 "Greenwheels" "claims" "LGreenwheels$Claims;", Cond.fieldLink RX5 113 "Greenwheels$Claims" "count" "I", Cond.methodLink RX5 109 yX0_isSetOfThem, Cond.instanceMethod yX0_isSetOfThem, Cond.selects RX0 yX0_isSetOfThem yX0_isSetOfThem, Cond.initialized RX0, Cond.code yX0_isSetOfThem cX0_isSetOfThem 2 (some .boolean), Cond.fieldLink RX0 18 "Greenwheels$Claims" "count" "I", Cond.methodLink RX5 49 yX5_demandArgument, Cond.static yX5_demandArgument, Cond.initialized RX5, Cond.code yX5_demandArgument cX5_demandArgument 1 none, Cond.classLink RX5 283 "java/lang/IllegalArgumentException", Cond.initialized "java/lang/IllegalArgumentException", Cond.methodLink RX5 57 yX5_demandState, Cond.static yX5_demandState, Cond.code yX5_demandState cX5_demandState 1 none, Cond.classLink RX5 288 "java/lang/IllegalStateException", Cond.initialized "java/lang/IllegalStateException", Cond.methodLink RX5 116 yX0_addClaim, Cond.instanceMethod yX0_addClaim, Cond.selects RX0 yX0_addClaim yX0_addClaim, Cond.code yX0_addClaim cX0_addClaim 5 (some .int), Cond.fieldLink RX0 15 "Greenwheels$Claims" "nearAndFar" "[I"]
def wsX5_claim_r2 : List Cond := [Cond.fieldLink RX0 9 "Greenwheels$Claims" "near" "[I", Cond.static yX5_isIn, Cond.code yX5_isIn cX5_isIn 2 (some .boolean), Cond.static yX5_at, Cond.code yX5_at cX5_at 2 (some .int), Cond.static yX5_put, Cond.code yX5_put cX5_put 3 none]
def wsX5_claim : List Cond := .code yX5_claim cX5_claim 2 (some .int) :: ((wsX5_claim_r1 ++ wsX5_claim_r2) ++ wsX50 ++ wsX00 ++ (vx_atS RX5 287 "java/lang/IllegalArgumentException" ["java/lang/RuntimeException", "java/lang/Exception"]).filter goodWord ++ (vx_atS RX5 292 "java/lang/IllegalStateException" ["java/lang/RuntimeException", "java/lang/Exception"]).filter goodWord)
def wsX5_demandClaim : List Cond := .code yX5_demandClaim cX5_demandClaim 2 none :: ([.fieldLink RX5 30 "Greenwheels" "claims" "LGreenwheels$Claims;", .fieldLink RX5 113 "Greenwheels$Claims" "count" "I", .methodLink RX5 45 yX5_isWithin, .static yX5_isWithin, .initialized RX5, .code yX5_isWithin cX5_isWithin 3 (some .boolean), .methodLink RX5 98 yX5_demandIndex, .static yX5_demandIndex, .code yX5_demandIndex cX5_demandIndex 1 none, .classLink RX5 276 "java/lang/IndexOutOfBoundsException", .initialized "java/lang/IndexOutOfBoundsException"] ++ wsX50 ++ wsX00 ++ (vx_atS RX5 280 "java/lang/IndexOutOfBoundsException" ["java/lang/RuntimeException", "java/lang/Exception"]).filter goodWord)
def wsX5_withdraw_r1 : List Cond := [Cond.fieldLink RX5 30 "Greenwheels" "claims" "LGreenwheels$Claims;", Cond.methodLink RX5 119 yX5_demandClaim, Cond.instanceMethod yX5_demandClaim, Cond.selects RX5 yX5_demandClaim yX5_demandClaim, Cond.initialized RX5, Cond.code yX5_demandClaim cX5_demandClaim 2 none, Cond.fieldLink RX5 113 "Greenwheels$Claims" "count" "I", Cond.methodLink RX5 45 yX5_isWithin, Cond.static yX5_isWithin, Cond.code yX5_isWithin cX5_isWithin 3 (some .boolean), Cond.methodLink RX5 98 yX5_demandIndex, Cond.static yX5_demandIndex, Cond.code yX5_demandIndex cX5_demandIndex 1 none, Cond.classLink RX5 276 "java/lang/IndexOutOfBoundsException", Cond.initialized "java/lang/IndexOutOfBoundsException", Cond.methodLink RX5 122 yX0_setWithdrawn, Cond.instanceMethod yX0_setWithdrawn, Cond.selects RX0 yX0_setWithdrawn yX0_setWithdrawn, Cond.initialized RX0, Cond.code yX0_setWithdrawn cX0_setWithdrawn 3 none, Cond.fieldLink RX0 34 "Greenwheels$Claims" "withdrawn" "I", Cond.methodLink RX5 126 yX0_countStanding, Cond.instanceMethod yX0_countStanding, Cond.selects RX0 yX0_countStanding yX0_countStanding]
def wsX5_withdraw_r2 : List Cond := [Cond.code yX0_countStanding cX0_countStanding 1 (some .int), Cond.methodLink RX0 37 yX0_standingWithout, Cond.instanceMethod yX0_standingWithout, Cond.selects RX0 yX0_standingWithout yX0_standingWithout, Cond.code yX0_standingWithout cX0_standingWithout 4 (some .int), Cond.fieldLink RX0 18 "Greenwheels$Claims" "count" "I", Cond.fieldLink RX0 9 "Greenwheels$Claims" "near" "[I", Cond.static yX5_isIn, Cond.code yX5_isIn cX5_isIn 2 (some .boolean), Cond.static yX5_at, Cond.code yX5_at cX5_at 2 (some .int), Cond.methodLink RX0 41 yJ6_bitCount_0f7a4, Cond.static yJ6_bitCount_0f7a4, Cond.initialized RJ6, Cond.code yJ6_bitCount_0f7a4 cJ6_bitCount_0f7a4 1 (some .int), Cond.constant RJ6 265 (1431655765), Cond.constant RJ6 266 (858993459), Cond.constant RJ6 267 (252645135)]
def wsX5_withdraw : List Cond := .code yX5_withdraw cX5_withdraw 3 (some .int) :: ((wsX5_withdraw_r1 ++ wsX5_withdraw_r2) ++ wsX50 ++ wsX00 ++ (vx_atS RX5 280 "java/lang/IndexOutOfBoundsException" ["java/lang/RuntimeException", "java/lang/Exception"]).filter goodWord)
def wsX5_axleFraction_r1 : List Cond := [Cond.fieldLink RX5 10 "Greenwheels" "gearing" "LGreenwheels$Gearing;", Cond.fieldLink RX5 87 "Greenwheels" "turns" "I", Cond.methodLink RX5 293 yX2_rateOf, Cond.instanceMethod yX2_rateOf, Cond.selects RX2 yX2_rateOf yX2_rateOf, Cond.initialized RX2, Cond.code yX2_rateOf cX2_rateOf 3 (some (.object "Greenwheels$Fraction")), Cond.fieldLink RX2 33 "Greenwheels$Gearing" "byCrank" "[LGreenwheels$Fraction;", Cond.fieldLink RX2 30 "Greenwheels$Gearing" "still" "LGreenwheels$Fraction;", Cond.methodLink RX2 67 yX2_rateIn, Cond.static yX2_rateIn, Cond.code yX2_rateIn cX2_rateIn 2 (some (.object "Greenwheels$Fraction")), Cond.methodLink RX5 296 yX2_turnedAt, Cond.instanceMethod yX2_turnedAt, Cond.selects RX2 yX2_turnedAt yX2_turnedAt, Cond.code yX2_turnedAt cX2_turnedAt 3 (some (.object "Greenwheels$Fraction")), Cond.methodLink RX2 78 yX2_rateOf, Cond.methodLink RX2 82 yX1_times, Cond.instanceMethod yX1_times, Cond.selects RX1 yX1_times yX1_times, Cond.initialized RX1, Cond.code yX1_times cX1_times 5 (some (.object "Greenwheels$Fraction")), Cond.classLink RX1 14 RX1, Cond.instantiable RX1 2]
def wsX5_axleFraction_r2 : List Cond := [Cond.fieldLink RX1 13 "Greenwheels$Fraction" "upper" "J", Cond.fieldLink RX1 19 "Greenwheels$Fraction" "lower" "J", Cond.methodLink RX1 22 yX1_init, Cond.instanceMethod yX1_init, Cond.code yX1_init cX1_init 7 none, Cond.methodLink RX1 1 objectInit, Cond.instanceMethod objectInit, Cond.code objectInit ⟨#[0xb1]⟩ 1 none, Cond.static yX5_commonDivisor, Cond.initialized RX5, Cond.code yX5_commonDivisor cX5_commonDivisor 11 (some .long), Cond.methodLink RX5 299 yX1_withoutWhole, Cond.instanceMethod yX1_withoutWhole, Cond.selects RX1 yX1_withoutWhole yX1_withoutWhole, Cond.code yX1_withoutWhole cX1_withoutWhole 1 (some (.object "Greenwheels$Fraction")), Cond.methodLink RX1 25 yJ9_floorMod_f86c9, Cond.static yJ9_floorMod_f86c9, Cond.initialized RJ9, Cond.code yJ9_floorMod_f86c9 cJ9_floorMod_f86c9 6 (some .long)]
def wsX5_axleFraction : List Cond := .code yX5_axleFraction cX5_axleFraction 3 (some (.object "Greenwheels$Fraction")) :: ((wsX5_axleFraction_r1 ++ wsX5_axleFraction_r2) ++ wsX50 ++ wsX20 ++ wsX10)
def wsX5_ofAxle_r1 : List Cond := [Cond.methodLink RX5 41 yX5_demandAxle, Cond.static yX5_demandAxle, Cond.initialized RX5, Cond.code yX5_demandAxle cX5_demandAxle 1 none, Cond.methodLink RX5 45 yX5_isWithin, Cond.static yX5_isWithin, Cond.code yX5_isWithin cX5_isWithin 3 (some .boolean), Cond.methodLink RX5 98 yX5_demandIndex, Cond.static yX5_demandIndex, Cond.code yX5_demandIndex cX5_demandIndex 1 none, Cond.classLink RX5 276 "java/lang/IndexOutOfBoundsException", Cond.initialized "java/lang/IndexOutOfBoundsException", Cond.methodLink RX5 49 yX5_demandArgument, Cond.static yX5_demandArgument, Cond.code yX5_demandArgument cX5_demandArgument 1 none, Cond.classLink RX5 283 "java/lang/IllegalArgumentException", Cond.initialized "java/lang/IllegalArgumentException", Cond.methodLink RX5 130 yX5_axleFraction, Cond.instanceMethod yX5_axleFraction, Cond.selects RX5 yX5_axleFraction yX5_axleFraction, Cond.code yX5_axleFraction cX5_axleFraction 3 (some (.object "Greenwheels$Fraction")), Cond.fieldLink RX5 10 "Greenwheels" "gearing" "LGreenwheels$Gearing;", Cond.fieldLink RX5 87 "Greenwheels" "turns" "I", Cond.methodLink RX5 293 yX2_rateOf]
def wsX5_ofAxle_r2 : List Cond := [Cond.instanceMethod yX2_rateOf, Cond.selects RX2 yX2_rateOf yX2_rateOf, Cond.initialized RX2, Cond.code yX2_rateOf cX2_rateOf 3 (some (.object "Greenwheels$Fraction")), Cond.fieldLink RX2 33 "Greenwheels$Gearing" "byCrank" "[LGreenwheels$Fraction;", Cond.fieldLink RX2 30 "Greenwheels$Gearing" "still" "LGreenwheels$Fraction;", Cond.methodLink RX2 67 yX2_rateIn, Cond.static yX2_rateIn, Cond.code yX2_rateIn cX2_rateIn 2 (some (.object "Greenwheels$Fraction")), Cond.methodLink RX5 296 yX2_turnedAt, Cond.instanceMethod yX2_turnedAt, Cond.selects RX2 yX2_turnedAt yX2_turnedAt, Cond.code yX2_turnedAt cX2_turnedAt 3 (some (.object "Greenwheels$Fraction")), Cond.methodLink RX2 78 yX2_rateOf, Cond.methodLink RX2 82 yX1_times, Cond.instanceMethod yX1_times, Cond.selects RX1 yX1_times yX1_times, Cond.initialized RX1, Cond.code yX1_times cX1_times 5 (some (.object "Greenwheels$Fraction")), Cond.classLink RX1 14 RX1, Cond.instantiable RX1 2, Cond.fieldLink RX1 13 "Greenwheels$Fraction" "upper" "J", Cond.fieldLink RX1 19 "Greenwheels$Fraction" "lower" "J", Cond.methodLink RX1 22 yX1_init]
def wsX5_ofAxle_r3 : List Cond := [Cond.instanceMethod yX1_init, Cond.code yX1_init cX1_init 7 none, Cond.methodLink RX1 1 objectInit, Cond.instanceMethod objectInit, Cond.code objectInit ⟨#[0xb1]⟩ 1 none, Cond.static yX5_commonDivisor, Cond.code yX5_commonDivisor cX5_commonDivisor 11 (some .long), Cond.methodLink RX5 299 yX1_withoutWhole, Cond.instanceMethod yX1_withoutWhole, Cond.selects RX1 yX1_withoutWhole yX1_withoutWhole, Cond.code yX1_withoutWhole cX1_withoutWhole 1 (some (.object "Greenwheels$Fraction")), Cond.methodLink RX1 25 yJ9_floorMod_f86c9, Cond.static yJ9_floorMod_f86c9, Cond.initialized RJ9, Cond.code yJ9_floorMod_f86c9 cJ9_floorMod_f86c9 6 (some .long), Cond.methodLink RX5 134 yX1_told, Cond.instanceMethod yX1_told, Cond.selects RX1 yX1_told yX1_told, Cond.code yX1_told cX1_told 2 (some .long)]
def wsX5_ofAxle : List Cond := .code yX5_ofAxle cX5_ofAxle 4 (some .long) :: ((wsX5_ofAxle_r1 ++ (wsX5_ofAxle_r2 ++ wsX5_ofAxle_r3)) ++ wsX50 ++ wsX20 ++ wsX10 ++ (vx_atS RX5 280 "java/lang/IndexOutOfBoundsException" ["java/lang/RuntimeException", "java/lang/Exception"]).filter goodWord ++ (vx_atS RX5 287 "java/lang/IllegalArgumentException" ["java/lang/RuntimeException", "java/lang/Exception"]).filter goodWord)
def wsX5_ofWheel_r1 : List Cond := [Cond.fieldLink RX5 10 "Greenwheels" "gearing" "LGreenwheels$Gearing;", Cond.methodLink RX5 64 yX5_demandWheel, Cond.instanceMethod yX5_demandWheel, Cond.selects RX5 yX5_demandWheel yX5_demandWheel, Cond.initialized RX5, Cond.code yX5_demandWheel cX5_demandWheel 2 none, Cond.fieldLink RX5 53 "Greenwheels$Gearing" "wheels" "I", Cond.methodLink RX5 45 yX5_isWithin, Cond.static yX5_isWithin, Cond.code yX5_isWithin cX5_isWithin 3 (some .boolean), Cond.methodLink RX5 98 yX5_demandIndex, Cond.static yX5_demandIndex, Cond.code yX5_demandIndex cX5_demandIndex 1 none, Cond.classLink RX5 276 "java/lang/IndexOutOfBoundsException", Cond.initialized "java/lang/IndexOutOfBoundsException", Cond.methodLink RX5 49 yX5_demandArgument, Cond.static yX5_demandArgument, Cond.code yX5_demandArgument cX5_demandArgument 1 none, Cond.classLink RX5 283 "java/lang/IllegalArgumentException", Cond.initialized "java/lang/IllegalArgumentException", Cond.methodLink RX5 140 yX2_axleOf, Cond.instanceMethod yX2_axleOf, Cond.selects RX2 yX2_axleOf yX2_axleOf, Cond.initialized RX2]
def wsX5_ofWheel_r2 : List Cond := [Cond.code yX2_axleOf cX2_axleOf 2 (some .int), Cond.fieldLink RX2 9 "Greenwheels$Gearing" "axles" "[I", Cond.static yX5_at, Cond.code yX5_at cX5_at 2 (some .int), Cond.methodLink RX5 143 yX2_teethOf, Cond.instanceMethod yX2_teethOf, Cond.selects RX2 yX2_teethOf yX2_teethOf, Cond.code yX2_teethOf cX2_teethOf 2 (some .int), Cond.fieldLink RX2 15 "Greenwheels$Gearing" "teeth" "[I", Cond.methodLink RX5 146 yX2_meshedWith, Cond.instanceMethod yX2_meshedWith, Cond.selects RX2 yX2_meshedWith yX2_meshedWith, Cond.code yX2_meshedWith cX2_meshedWith 2 (some .int), Cond.fieldLink RX2 18 "Greenwheels$Gearing" "meshSets" "[I", Cond.methodLink RX5 149 yX2_isMoved, Cond.instanceMethod yX2_isMoved, Cond.selects RX2 yX2_isMoved yX2_isMoved, Cond.code yX2_isMoved cX2_isMoved 2 (some .boolean), Cond.fieldLink RX2 33 "Greenwheels$Gearing" "byCrank" "[LGreenwheels$Fraction;", Cond.methodLink RX2 67 yX2_rateIn, Cond.static yX2_rateIn, Cond.code yX2_rateIn cX2_rateIn 2 (some (.object "Greenwheels$Fraction"))]
def wsX5_ofWheel : List Cond := .code yX5_ofWheel cX5_ofWheel 3 (some .int) :: ((wsX5_ofWheel_r1 ++ wsX5_ofWheel_r2) ++ wsX50 ++ wsX20 ++ (vx_atS RX5 280 "java/lang/IndexOutOfBoundsException" ["java/lang/RuntimeException", "java/lang/Exception"]).filter goodWord ++ (vx_atS RX5 287 "java/lang/IllegalArgumentException" ["java/lang/RuntimeException", "java/lang/Exception"]).filter goodWord)
def wsX5_passedBy_r1 : List Cond := [Cond.fieldLink RX5 10 "Greenwheels" "gearing" "LGreenwheels$Gearing;", Cond.fieldLink RX5 87 "Greenwheels" "turns" "I", Cond.methodLink RX5 140 yX2_axleOf, Cond.instanceMethod yX2_axleOf, Cond.selects RX2 yX2_axleOf yX2_axleOf, Cond.initialized RX2, Cond.code yX2_axleOf cX2_axleOf 2 (some .int), Cond.fieldLink RX2 9 "Greenwheels$Gearing" "axles" "[I", Cond.static yX5_at, Cond.initialized RX5, Cond.code yX5_at cX5_at 2 (some .int), Cond.methodLink RX5 293 yX2_rateOf, Cond.instanceMethod yX2_rateOf, Cond.selects RX2 yX2_rateOf yX2_rateOf, Cond.code yX2_rateOf cX2_rateOf 3 (some (.object "Greenwheels$Fraction")), Cond.fieldLink RX2 33 "Greenwheels$Gearing" "byCrank" "[LGreenwheels$Fraction;", Cond.fieldLink RX2 30 "Greenwheels$Gearing" "still" "LGreenwheels$Fraction;", Cond.methodLink RX2 67 yX2_rateIn, Cond.static yX2_rateIn, Cond.code yX2_rateIn cX2_rateIn 2 (some (.object "Greenwheels$Fraction")), Cond.methodLink RX5 143 yX2_teethOf, Cond.instanceMethod yX2_teethOf, Cond.selects RX2 yX2_teethOf yX2_teethOf, Cond.code yX2_teethOf cX2_teethOf 2 (some .int)]
def wsX5_passedBy_r2 : List Cond := [Cond.fieldLink RX2 15 "Greenwheels$Gearing" "teeth" "[I", Cond.methodLink RX5 303 yX1_times, Cond.instanceMethod yX1_times, Cond.selects RX1 yX1_times yX1_times, Cond.initialized RX1, Cond.code yX1_times cX1_times 5 (some (.object "Greenwheels$Fraction")), Cond.classLink RX1 14 RX1, Cond.instantiable RX1 2, Cond.fieldLink RX1 13 "Greenwheels$Fraction" "upper" "J", Cond.fieldLink RX1 19 "Greenwheels$Fraction" "lower" "J", Cond.methodLink RX1 22 yX1_init, Cond.instanceMethod yX1_init, Cond.code yX1_init cX1_init 7 none, Cond.methodLink RX1 1 objectInit, Cond.instanceMethod objectInit, Cond.code objectInit ⟨#[0xb1]⟩ 1 none, Cond.static yX5_commonDivisor, Cond.code yX5_commonDivisor cX5_commonDivisor 11 (some .long)]
def wsX5_passedBy : List Cond := .code yX5_passedBy cX5_passedBy 2 (some (.object "Greenwheels$Fraction")) :: ((wsX5_passedBy_r1 ++ wsX5_passedBy_r2) ++ wsX50 ++ wsX20 ++ wsX10)
def wsX5_passed_r1 : List Cond := [Cond.methodLink RX5 64 yX5_demandWheel, Cond.instanceMethod yX5_demandWheel, Cond.selects RX5 yX5_demandWheel yX5_demandWheel, Cond.initialized RX5, Cond.code yX5_demandWheel cX5_demandWheel 2 none, Cond.fieldLink RX5 10 "Greenwheels" "gearing" "LGreenwheels$Gearing;", Cond.fieldLink RX5 53 "Greenwheels$Gearing" "wheels" "I", Cond.methodLink RX5 45 yX5_isWithin, Cond.static yX5_isWithin, Cond.code yX5_isWithin cX5_isWithin 3 (some .boolean), Cond.methodLink RX5 98 yX5_demandIndex, Cond.static yX5_demandIndex, Cond.code yX5_demandIndex cX5_demandIndex 1 none, Cond.classLink RX5 276 "java/lang/IndexOutOfBoundsException", Cond.initialized "java/lang/IndexOutOfBoundsException", Cond.methodLink RX5 152 yX5_passedBy, Cond.instanceMethod yX5_passedBy, Cond.selects RX5 yX5_passedBy yX5_passedBy, Cond.code yX5_passedBy cX5_passedBy 2 (some (.object "Greenwheels$Fraction")), Cond.fieldLink RX5 87 "Greenwheels" "turns" "I", Cond.methodLink RX5 140 yX2_axleOf, Cond.instanceMethod yX2_axleOf, Cond.selects RX2 yX2_axleOf yX2_axleOf, Cond.initialized RX2]
def wsX5_passed_r2 : List Cond := [Cond.code yX2_axleOf cX2_axleOf 2 (some .int), Cond.fieldLink RX2 9 "Greenwheels$Gearing" "axles" "[I", Cond.static yX5_at, Cond.code yX5_at cX5_at 2 (some .int), Cond.methodLink RX5 293 yX2_rateOf, Cond.instanceMethod yX2_rateOf, Cond.selects RX2 yX2_rateOf yX2_rateOf, Cond.code yX2_rateOf cX2_rateOf 3 (some (.object "Greenwheels$Fraction")), Cond.fieldLink RX2 33 "Greenwheels$Gearing" "byCrank" "[LGreenwheels$Fraction;", Cond.fieldLink RX2 30 "Greenwheels$Gearing" "still" "LGreenwheels$Fraction;", Cond.methodLink RX2 67 yX2_rateIn, Cond.static yX2_rateIn, Cond.code yX2_rateIn cX2_rateIn 2 (some (.object "Greenwheels$Fraction")), Cond.methodLink RX5 143 yX2_teethOf, Cond.instanceMethod yX2_teethOf, Cond.selects RX2 yX2_teethOf yX2_teethOf, Cond.code yX2_teethOf cX2_teethOf 2 (some .int), Cond.fieldLink RX2 15 "Greenwheels$Gearing" "teeth" "[I", Cond.methodLink RX5 303 yX1_times, Cond.instanceMethod yX1_times, Cond.selects RX1 yX1_times yX1_times, Cond.initialized RX1, Cond.code yX1_times cX1_times 5 (some (.object "Greenwheels$Fraction")), Cond.classLink RX1 14 RX1]
def wsX5_passed_r3 : List Cond := [Cond.instantiable RX1 2, Cond.fieldLink RX1 13 "Greenwheels$Fraction" "upper" "J", Cond.fieldLink RX1 19 "Greenwheels$Fraction" "lower" "J", Cond.methodLink RX1 22 yX1_init, Cond.instanceMethod yX1_init, Cond.code yX1_init cX1_init 7 none, Cond.methodLink RX1 1 objectInit, Cond.instanceMethod objectInit, Cond.code objectInit ⟨#[0xb1]⟩ 1 none, Cond.static yX5_commonDivisor, Cond.code yX5_commonDivisor cX5_commonDivisor 11 (some .long), Cond.methodLink RX5 134 yX1_told, Cond.instanceMethod yX1_told, Cond.selects RX1 yX1_told yX1_told, Cond.code yX1_told cX1_told 2 (some .long)]
def wsX5_passed : List Cond := .code yX5_passed cX5_passed 3 (some .long) :: ((wsX5_passed_r1 ++ (wsX5_passed_r2 ++ wsX5_passed_r3)) ++ wsX50 ++ wsX20 ++ wsX10 ++ (vx_atS RX5 280 "java/lang/IndexOutOfBoundsException" ["java/lang/RuntimeException", "java/lang/Exception"]).filter goodWord)
def wsX5_period : List Cond := .code yX5_period cX5_period 1 (some .long) :: ([.fieldLink RX5 10 "Greenwheels" "gearing" "LGreenwheels$Gearing;", .methodLink RX5 156 yX2_turnsToReturn, .instanceMethod yX2_turnsToReturn, .selects RX2 yX2_turnsToReturn yX2_turnsToReturn, .initialized RX2, .code yX2_turnsToReturn cX2_turnsToReturn 8 (some .long), .fieldLink RX2 95 "Greenwheels$Fraction" "lower" "J", .methodLink RX2 78 yX2_rateOf, .instanceMethod yX2_rateOf, .selects RX2 yX2_rateOf yX2_rateOf, .code yX2_rateOf cX2_rateOf 3 (some (.object "Greenwheels$Fraction")), .fieldLink RX2 33 "Greenwheels$Gearing" "byCrank" "[LGreenwheels$Fraction;", .fieldLink RX2 30 "Greenwheels$Gearing" "still" "LGreenwheels$Fraction;", .methodLink RX2 67 yX2_rateIn, .static yX2_rateIn, .code yX2_rateIn cX2_rateIn 2 (some (.object "Greenwheels$Fraction")), .static yX5_commonDivisor, .initialized RX5, .code yX5_commonDivisor cX5_commonDivisor 11 (some .long)] ++ wsX50 ++ wsX10 ++ wsX20)
def wsX5_ofLump_r1 : List Cond := [Cond.fieldLink RX5 23 "Greenwheels" "lumps" "LGreenwheels$Lumps;", Cond.methodLink RX5 45 yX5_isWithin, Cond.static yX5_isWithin, Cond.initialized RX5, Cond.code yX5_isWithin cX5_isWithin 3 (some .boolean), Cond.methodLink RX5 98 yX5_demandIndex, Cond.static yX5_demandIndex, Cond.code yX5_demandIndex cX5_demandIndex 1 none, Cond.classLink RX5 276 "java/lang/IndexOutOfBoundsException", Cond.initialized "java/lang/IndexOutOfBoundsException", Cond.methodLink RX5 49 yX5_demandArgument, Cond.static yX5_demandArgument, Cond.code yX5_demandArgument cX5_demandArgument 1 none, Cond.classLink RX5 283 "java/lang/IllegalArgumentException", Cond.initialized "java/lang/IllegalArgumentException", Cond.methodLink RX5 101 yX3_piecesOf, Cond.instanceMethod yX3_piecesOf, Cond.selects RX3 yX3_piecesOf yX3_piecesOf, Cond.initialized RX3, Cond.code yX3_piecesOf cX3_piecesOf 2 (some .int), Cond.fieldLink RX3 9 "Greenwheels$Lumps" "pieces" "[I", Cond.static yX5_at, Cond.code yX5_at cX5_at 2 (some .int), Cond.methodLink RX5 163 yX3_agreeingOf]
def wsX5_ofLump_r2 : List Cond := [Cond.instanceMethod yX3_agreeingOf, Cond.selects RX3 yX3_agreeingOf yX3_agreeingOf, Cond.code yX3_agreeingOf cX3_agreeingOf 2 (some .int), Cond.fieldLink RX3 24 "Greenwheels$Lumps" "agreeing" "[I", Cond.methodLink RX5 166 yX3_leastOf, Cond.instanceMethod yX3_leastOf, Cond.selects RX3 yX3_leastOf yX3_leastOf, Cond.code yX3_leastOf cX3_leastOf 2 (some .int), Cond.fieldLink RX3 27 "Greenwheels$Lumps" "least" "[I", Cond.methodLink RX5 169 yX3_greatestOf, Cond.instanceMethod yX3_greatestOf, Cond.selects RX3 yX3_greatestOf yX3_greatestOf, Cond.code yX3_greatestOf cX3_greatestOf 2 (some .int), Cond.fieldLink RX3 30 "Greenwheels$Lumps" "greatest" "[I"]
def wsX5_ofLump : List Cond := .code yX5_ofLump cX5_ofLump 3 (some .int) :: ((wsX5_ofLump_r1 ++ wsX5_ofLump_r2) ++ wsX50 ++ wsX30 ++ (vx_atS RX5 280 "java/lang/IndexOutOfBoundsException" ["java/lang/RuntimeException", "java/lang/Exception"]).filter goodWord ++ (vx_atS RX5 287 "java/lang/IllegalArgumentException" ["java/lang/RuntimeException", "java/lang/Exception"]).filter goodWord)
def wsX5_ofClaim_r1 : List Cond := [Cond.fieldLink RX5 30 "Greenwheels" "claims" "LGreenwheels$Claims;", Cond.methodLink RX5 119 yX5_demandClaim, Cond.instanceMethod yX5_demandClaim, Cond.selects RX5 yX5_demandClaim yX5_demandClaim, Cond.initialized RX5, Cond.code yX5_demandClaim cX5_demandClaim 2 none, Cond.fieldLink RX5 113 "Greenwheels$Claims" "count" "I", Cond.methodLink RX5 45 yX5_isWithin, Cond.static yX5_isWithin, Cond.code yX5_isWithin cX5_isWithin 3 (some .boolean), Cond.methodLink RX5 98 yX5_demandIndex, Cond.static yX5_demandIndex, Cond.code yX5_demandIndex cX5_demandIndex 1 none, Cond.classLink RX5 276 "java/lang/IndexOutOfBoundsException", Cond.initialized "java/lang/IndexOutOfBoundsException", Cond.methodLink RX5 49 yX5_demandArgument, Cond.static yX5_demandArgument, Cond.code yX5_demandArgument cX5_demandArgument 1 none, Cond.classLink RX5 283 "java/lang/IllegalArgumentException", Cond.initialized "java/lang/IllegalArgumentException", Cond.methodLink RX5 172 yX0_hangsOn, Cond.instanceMethod yX0_hangsOn, Cond.selects RX0 yX0_hangsOn yX0_hangsOn, Cond.initialized RX0]
def wsX5_ofClaim_r2 : List Cond := [Cond.code yX0_hangsOn cX0_hangsOn 2 (some .int), Cond.fieldLink RX0 9 "Greenwheels$Claims" "near" "[I", Cond.static yX5_at, Cond.code yX5_at cX5_at 2 (some .int), Cond.methodLink RX5 175 yX0_isWithdrawn, Cond.instanceMethod yX0_isWithdrawn, Cond.selects RX0 yX0_isWithdrawn yX0_isWithdrawn, Cond.code yX0_isWithdrawn cX0_isWithdrawn 2 (some .boolean), Cond.fieldLink RX0 34 "Greenwheels$Claims" "withdrawn" "I", Cond.static yX5_isIn, Cond.code yX5_isIn cX5_isIn 2 (some .boolean), Cond.methodLink RX5 178 yX0_isStanding, Cond.instanceMethod yX0_isStanding, Cond.selects RX0 yX0_isStanding yX0_isStanding, Cond.code yX0_isStanding cX0_isStanding 2 (some .boolean), Cond.methodLink RX0 37 yX0_standingWithout, Cond.instanceMethod yX0_standingWithout, Cond.selects RX0 yX0_standingWithout yX0_standingWithout, Cond.code yX0_standingWithout cX0_standingWithout 4 (some .int), Cond.fieldLink RX0 18 "Greenwheels$Claims" "count" "I", Cond.methodLink RX5 181 yX0_fallingWith, Cond.instanceMethod yX0_fallingWith, Cond.selects RX0 yX0_fallingWith yX0_fallingWith, Cond.code yX0_fallingWith cX0_fallingWith 2 (some .int)]
def wsX5_ofClaim_r3 : List Cond := [Cond.methodLink RX0 46 yX0_countStanding, Cond.instanceMethod yX0_countStanding, Cond.selects RX0 yX0_countStanding yX0_countStanding, Cond.code yX0_countStanding cX0_countStanding 1 (some .int), Cond.methodLink RX0 41 yJ6_bitCount_0f7a4, Cond.static yJ6_bitCount_0f7a4, Cond.initialized RJ6, Cond.code yJ6_bitCount_0f7a4 cJ6_bitCount_0f7a4 1 (some .int), Cond.constant RJ6 265 (1431655765), Cond.constant RJ6 266 (858993459), Cond.constant RJ6 267 (252645135)]
def wsX5_ofClaim : List Cond := .code yX5_ofClaim cX5_ofClaim 3 (some .int) :: ((wsX5_ofClaim_r1 ++ (wsX5_ofClaim_r2 ++ wsX5_ofClaim_r3)) ++ wsX50 ++ wsX00 ++ (vx_atS RX5 280 "java/lang/IndexOutOfBoundsException" ["java/lang/RuntimeException", "java/lang/Exception"]).filter goodWord ++ (vx_atS RX5 287 "java/lang/IllegalArgumentException" ["java/lang/RuntimeException", "java/lang/Exception"]).filter goodWord)
def wsX5_house_r1 : List Cond := [Cond.fieldLink RX5 10 "Greenwheels" "gearing" "LGreenwheels$Gearing;", Cond.fieldLink RX5 53 "Greenwheels$Gearing" "wheels" "I", Cond.fieldLink RX5 87 "Greenwheels" "turns" "I", Cond.fieldLink RX5 30 "Greenwheels" "claims" "LGreenwheels$Claims;", Cond.fieldLink RX5 113 "Greenwheels$Claims" "count" "I", Cond.fieldLink RX5 23 "Greenwheels" "lumps" "LGreenwheels$Lumps;", Cond.fieldLink RX5 74 "Greenwheels" "jams" "I", Cond.fieldLink RX5 193 "Greenwheels" "refused" "I", Cond.methodLink RX5 45 yX5_isWithin, Cond.static yX5_isWithin, Cond.initialized RX5, Cond.code yX5_isWithin cX5_isWithin 3 (some .boolean), Cond.methodLink RX5 49 yX5_demandArgument, Cond.static yX5_demandArgument, Cond.code yX5_demandArgument cX5_demandArgument 1 none, Cond.classLink RX5 283 "java/lang/IllegalArgumentException", Cond.initialized "java/lang/IllegalArgumentException", Cond.methodLink RX5 184 yX2_countMeshes, Cond.instanceMethod yX2_countMeshes, Cond.selects RX2 yX2_countMeshes yX2_countMeshes, Cond.initialized RX2, Cond.code yX2_countMeshes cX2_countMeshes 3 (some .int), Cond.fieldLink RX2 44 "Greenwheels$Gearing" "wheels" "I", Cond.methodLink RX2 60 yX2_meshedWith]
def wsX5_house_r2 : List Cond := [Cond.instanceMethod yX2_meshedWith, Cond.selects RX2 yX2_meshedWith yX2_meshedWith, Cond.code yX2_meshedWith cX2_meshedWith 2 (some .int), Cond.fieldLink RX2 18 "Greenwheels$Gearing" "meshSets" "[I", Cond.static yX5_at, Cond.code yX5_at cX5_at 2 (some .int), Cond.methodLink RX2 86 yJ6_bitCount_0f7a4, Cond.static yJ6_bitCount_0f7a4, Cond.initialized RJ6, Cond.code yJ6_bitCount_0f7a4 cJ6_bitCount_0f7a4 1 (some .int), Cond.constant RJ6 265 (1431655765), Cond.constant RJ6 266 (858993459), Cond.constant RJ6 267 (252645135), Cond.methodLink RX5 187 yX2_countMoved, Cond.instanceMethod yX2_countMoved, Cond.selects RX2 yX2_countMoved yX2_countMoved, Cond.code yX2_countMoved cX2_countMoved 3 (some .int), Cond.methodLink RX2 91 yX2_isMoved, Cond.instanceMethod yX2_isMoved, Cond.selects RX2 yX2_isMoved yX2_isMoved, Cond.code yX2_isMoved cX2_isMoved 2 (some .boolean), Cond.fieldLink RX2 33 "Greenwheels$Gearing" "byCrank" "[LGreenwheels$Fraction;", Cond.methodLink RX2 67 yX2_rateIn, Cond.static yX2_rateIn]
def wsX5_house_r3 : List Cond := [Cond.code yX2_rateIn cX2_rateIn 2 (some (.object "Greenwheels$Fraction")), Cond.methodLink RX5 126 yX0_countStanding, Cond.instanceMethod yX0_countStanding, Cond.selects RX0 yX0_countStanding yX0_countStanding, Cond.initialized RX0, Cond.code yX0_countStanding cX0_countStanding 1 (some .int), Cond.fieldLink RX0 34 "Greenwheels$Claims" "withdrawn" "I", Cond.methodLink RX0 37 yX0_standingWithout, Cond.instanceMethod yX0_standingWithout, Cond.selects RX0 yX0_standingWithout yX0_standingWithout, Cond.code yX0_standingWithout cX0_standingWithout 4 (some .int), Cond.fieldLink RX0 18 "Greenwheels$Claims" "count" "I", Cond.fieldLink RX0 9 "Greenwheels$Claims" "near" "[I", Cond.static yX5_isIn, Cond.code yX5_isIn cX5_isIn 2 (some .boolean), Cond.methodLink RX0 41 yJ6_bitCount_0f7a4, Cond.methodLink RX5 190 yX3_countPieces, Cond.instanceMethod yX3_countPieces, Cond.selects RX3 yX3_countPieces yX3_countPieces, Cond.initialized RX3, Cond.code yX3_countPieces cX3_countPieces 3 (some .int), Cond.methodLink RX3 41 yX3_piecesOf, Cond.instanceMethod yX3_piecesOf, Cond.selects RX3 yX3_piecesOf yX3_piecesOf]
def wsX5_house_r4 : List Cond := [Cond.code yX3_piecesOf cX3_piecesOf 2 (some .int), Cond.fieldLink RX3 9 "Greenwheels$Lumps" "pieces" "[I"]
def wsX5_house : List Cond := .code yX5_house cX5_house 2 (some .int) :: ((wsX5_house_r1 ++ (wsX5_house_r2 ++ (wsX5_house_r3 ++ wsX5_house_r4))) ++ wsX50 ++ wsX20 ++ wsX00 ++ wsX30 ++ (vx_atS RX5 287 "java/lang/IllegalArgumentException" ["java/lang/RuntimeException", "java/lang/Exception"]).filter goodWord)
def wsX5_doMeshesPassAlike_r1 : List Cond := [Cond.fieldLink RX5 10 "Greenwheels" "gearing" "LGreenwheels$Gearing;", Cond.fieldLink RX5 53 "Greenwheels$Gearing" "wheels" "I", Cond.methodLink RX5 152 yX5_passedBy, Cond.instanceMethod yX5_passedBy, Cond.selects RX5 yX5_passedBy yX5_passedBy, Cond.initialized RX5, Cond.code yX5_passedBy cX5_passedBy 2 (some (.object "Greenwheels$Fraction")), Cond.fieldLink RX5 87 "Greenwheels" "turns" "I", Cond.methodLink RX5 140 yX2_axleOf, Cond.instanceMethod yX2_axleOf, Cond.selects RX2 yX2_axleOf yX2_axleOf, Cond.initialized RX2, Cond.code yX2_axleOf cX2_axleOf 2 (some .int), Cond.fieldLink RX2 9 "Greenwheels$Gearing" "axles" "[I", Cond.static yX5_at, Cond.code yX5_at cX5_at 2 (some .int), Cond.methodLink RX5 293 yX2_rateOf, Cond.instanceMethod yX2_rateOf, Cond.selects RX2 yX2_rateOf yX2_rateOf, Cond.code yX2_rateOf cX2_rateOf 3 (some (.object "Greenwheels$Fraction")), Cond.fieldLink RX2 33 "Greenwheels$Gearing" "byCrank" "[LGreenwheels$Fraction;", Cond.fieldLink RX2 30 "Greenwheels$Gearing" "still" "LGreenwheels$Fraction;", Cond.methodLink RX2 67 yX2_rateIn, Cond.static yX2_rateIn]
def wsX5_doMeshesPassAlike_r2 : List Cond := [Cond.code yX2_rateIn cX2_rateIn 2 (some (.object "Greenwheels$Fraction")), Cond.methodLink RX5 143 yX2_teethOf, Cond.instanceMethod yX2_teethOf, Cond.selects RX2 yX2_teethOf yX2_teethOf, Cond.code yX2_teethOf cX2_teethOf 2 (some .int), Cond.fieldLink RX2 15 "Greenwheels$Gearing" "teeth" "[I", Cond.methodLink RX5 303 yX1_times, Cond.instanceMethod yX1_times, Cond.selects RX1 yX1_times yX1_times, Cond.initialized RX1, Cond.code yX1_times cX1_times 5 (some (.object "Greenwheels$Fraction")), Cond.classLink RX1 14 RX1, Cond.instantiable RX1 2, Cond.fieldLink RX1 13 "Greenwheels$Fraction" "upper" "J", Cond.fieldLink RX1 19 "Greenwheels$Fraction" "lower" "J", Cond.methodLink RX1 22 yX1_init, Cond.instanceMethod yX1_init, Cond.code yX1_init cX1_init 7 none, Cond.methodLink RX1 1 objectInit, Cond.instanceMethod objectInit, Cond.code objectInit ⟨#[0xb1]⟩ 1 none, Cond.static yX5_commonDivisor, Cond.code yX5_commonDivisor cX5_commonDivisor 11 (some .long), Cond.methodLink RX5 81 yX2_areMeshed]
def wsX5_doMeshesPassAlike_r3 : List Cond := [Cond.instanceMethod yX2_areMeshed, Cond.selects RX2 yX2_areMeshed yX2_areMeshed, Cond.code yX2_areMeshed cX2_areMeshed 3 (some .boolean), Cond.methodLink RX2 60 yX2_meshedWith, Cond.instanceMethod yX2_meshedWith, Cond.selects RX2 yX2_meshedWith yX2_meshedWith, Cond.code yX2_meshedWith cX2_meshedWith 2 (some .int), Cond.fieldLink RX2 18 "Greenwheels$Gearing" "meshSets" "[I", Cond.static yX5_isIn, Cond.code yX5_isIn cX5_isIn 2 (some .boolean), Cond.methodLink RX5 322 yX1_isOppositeOf, Cond.instanceMethod yX1_isOppositeOf, Cond.selects RX1 yX1_isOppositeOf yX1_isOppositeOf, Cond.code yX1_isOppositeOf cX1_isOppositeOf 2 (some .boolean)]
def wsX5_doMeshesPassAlike : List Cond := .code yX5_doMeshesPassAlike cX5_doMeshesPassAlike 4 (some .boolean) :: ((wsX5_doMeshesPassAlike_r1 ++ (wsX5_doMeshesPassAlike_r2 ++ wsX5_doMeshesPassAlike_r3)) ++ wsX50 ++ wsX20 ++ wsX10)
def wsX5_isSound_r1 : List Cond := [Cond.fieldLink RX5 10 "Greenwheels" "gearing" "LGreenwheels$Gearing;", Cond.fieldLink RX5 30 "Greenwheels" "claims" "LGreenwheels$Claims;", Cond.methodLink RX5 238 yX5_doMeshesPassAlike, Cond.instanceMethod yX5_doMeshesPassAlike, Cond.selects RX5 yX5_doMeshesPassAlike yX5_doMeshesPassAlike, Cond.initialized RX5, Cond.code yX5_doMeshesPassAlike cX5_doMeshesPassAlike 4 (some .boolean), Cond.fieldLink RX5 53 "Greenwheels$Gearing" "wheels" "I", Cond.methodLink RX5 152 yX5_passedBy, Cond.instanceMethod yX5_passedBy, Cond.selects RX5 yX5_passedBy yX5_passedBy, Cond.code yX5_passedBy cX5_passedBy 2 (some (.object "Greenwheels$Fraction")), Cond.fieldLink RX5 87 "Greenwheels" "turns" "I", Cond.methodLink RX5 140 yX2_axleOf, Cond.instanceMethod yX2_axleOf, Cond.selects RX2 yX2_axleOf yX2_axleOf, Cond.initialized RX2, Cond.code yX2_axleOf cX2_axleOf 2 (some .int), Cond.fieldLink RX2 9 "Greenwheels$Gearing" "axles" "[I", Cond.static yX5_at, Cond.code yX5_at cX5_at 2 (some .int), Cond.methodLink RX5 293 yX2_rateOf, Cond.instanceMethod yX2_rateOf, Cond.selects RX2 yX2_rateOf yX2_rateOf]
def wsX5_isSound_r2 : List Cond := [Cond.code yX2_rateOf cX2_rateOf 3 (some (.object "Greenwheels$Fraction")), Cond.fieldLink RX2 33 "Greenwheels$Gearing" "byCrank" "[LGreenwheels$Fraction;", Cond.fieldLink RX2 30 "Greenwheels$Gearing" "still" "LGreenwheels$Fraction;", Cond.methodLink RX2 67 yX2_rateIn, Cond.static yX2_rateIn, Cond.code yX2_rateIn cX2_rateIn 2 (some (.object "Greenwheels$Fraction")), Cond.methodLink RX5 143 yX2_teethOf, Cond.instanceMethod yX2_teethOf, Cond.selects RX2 yX2_teethOf yX2_teethOf, Cond.code yX2_teethOf cX2_teethOf 2 (some .int), Cond.fieldLink RX2 15 "Greenwheels$Gearing" "teeth" "[I", Cond.methodLink RX5 303 yX1_times, Cond.instanceMethod yX1_times, Cond.selects RX1 yX1_times yX1_times, Cond.initialized RX1, Cond.code yX1_times cX1_times 5 (some (.object "Greenwheels$Fraction")), Cond.classLink RX1 14 RX1, Cond.instantiable RX1 2, Cond.fieldLink RX1 13 "Greenwheels$Fraction" "upper" "J", Cond.fieldLink RX1 19 "Greenwheels$Fraction" "lower" "J", Cond.methodLink RX1 22 yX1_init, Cond.instanceMethod yX1_init, Cond.code yX1_init cX1_init 7 none, Cond.methodLink RX1 1 objectInit]
def wsX5_isSound_r3 : List Cond := [Cond.instanceMethod objectInit, Cond.code objectInit ⟨#[0xb1]⟩ 1 none, Cond.static yX5_commonDivisor, Cond.code yX5_commonDivisor cX5_commonDivisor 11 (some .long), Cond.methodLink RX5 81 yX2_areMeshed, Cond.instanceMethod yX2_areMeshed, Cond.selects RX2 yX2_areMeshed yX2_areMeshed, Cond.code yX2_areMeshed cX2_areMeshed 3 (some .boolean), Cond.methodLink RX2 60 yX2_meshedWith, Cond.instanceMethod yX2_meshedWith, Cond.selects RX2 yX2_meshedWith yX2_meshedWith, Cond.code yX2_meshedWith cX2_meshedWith 2 (some .int), Cond.fieldLink RX2 18 "Greenwheels$Gearing" "meshSets" "[I", Cond.static yX5_isIn, Cond.code yX5_isIn cX5_isIn 2 (some .boolean), Cond.methodLink RX5 322 yX1_isOppositeOf, Cond.instanceMethod yX1_isOppositeOf, Cond.selects RX1 yX1_isOppositeOf yX1_isOppositeOf, Cond.code yX1_isOppositeOf cX1_isOppositeOf 2 (some .boolean), Cond.methodLink RX5 242 yX2_isPeriodRight, Cond.instanceMethod yX2_isPeriodRight, Cond.selects RX2 yX2_isPeriodRight yX2_isPeriodRight, Cond.code yX2_isPeriodRight cX2_isPeriodRight 6 (some .boolean), Cond.fieldLink RX2 95 "Greenwheels$Fraction" "lower" "J"]
def wsX5_isSound_r4 : List Cond := [Cond.methodLink RX2 103 yX2_turnsToReturn, Cond.instanceMethod yX2_turnsToReturn, Cond.selects RX2 yX2_turnsToReturn yX2_turnsToReturn, Cond.code yX2_turnsToReturn cX2_turnsToReturn 8 (some .long), Cond.methodLink RX2 78 yX2_rateOf, Cond.methodLink RX5 245 yX0_areConsistent, Cond.instanceMethod yX0_areConsistent, Cond.selects RX0 yX0_areConsistent yX0_areConsistent, Cond.initialized RX0, Cond.code yX0_areConsistent cX0_areConsistent 4 (some .boolean), Cond.fieldLink RX0 34 "Greenwheels$Claims" "withdrawn" "I", Cond.fieldLink RX0 18 "Greenwheels$Claims" "count" "I", Cond.fieldLink RX0 15 "Greenwheels$Claims" "nearAndFar" "[I", Cond.methodLink RX0 37 yX0_standingWithout, Cond.instanceMethod yX0_standingWithout, Cond.selects RX0 yX0_standingWithout yX0_standingWithout, Cond.code yX0_standingWithout cX0_standingWithout 4 (some .int), Cond.fieldLink RX0 9 "Greenwheels$Claims" "near" "[I"]
def wsX5_isSound : List Cond := .code yX5_isSound cX5_isSound 1 (some .boolean) :: ((wsX5_isSound_r1 ++ (wsX5_isSound_r2 ++ (wsX5_isSound_r3 ++ wsX5_isSound_r4))) ++ wsX50 ++ wsX20 ++ wsX10 ++ wsX00)
def wsX5_mixed : List Cond := .code yX5_mixed cX5_mixed 4 (some .long) :: ([.constantLong RX5 340 (31)])
def wsX5_mixedFraction : List Cond := .code yX5_mixedFraction cX5_mixedFraction 3 (some .long) :: ([.fieldLink RX5 333 "Greenwheels$Fraction" "upper" "J", .fieldLink RX5 337 "Greenwheels$Fraction" "lower" "J", .methodLink RX5 253 yX5_mixed, .static yX5_mixed, .initialized RX5, .code yX5_mixed cX5_mixed 4 (some .long), .constantLong RX5 340 (31)] ++ wsX10)
def wsX5_cellAt_r1 : List Cond := [Cond.fieldLink RX5 10 "Greenwheels" "gearing" "LGreenwheels$Gearing;", Cond.fieldLink RX5 16 "Greenwheels" "cells" "[I", Cond.methodLink RX5 296 yX2_turnedAt, Cond.instanceMethod yX2_turnedAt, Cond.selects RX2 yX2_turnedAt yX2_turnedAt, Cond.initialized RX2, Cond.code yX2_turnedAt cX2_turnedAt 3 (some (.object "Greenwheels$Fraction")), Cond.methodLink RX2 78 yX2_rateOf, Cond.instanceMethod yX2_rateOf, Cond.selects RX2 yX2_rateOf yX2_rateOf, Cond.code yX2_rateOf cX2_rateOf 3 (some (.object "Greenwheels$Fraction")), Cond.fieldLink RX2 33 "Greenwheels$Gearing" "byCrank" "[LGreenwheels$Fraction;", Cond.fieldLink RX2 30 "Greenwheels$Gearing" "still" "LGreenwheels$Fraction;", Cond.methodLink RX2 67 yX2_rateIn, Cond.static yX2_rateIn, Cond.code yX2_rateIn cX2_rateIn 2 (some (.object "Greenwheels$Fraction")), Cond.methodLink RX2 82 yX1_times, Cond.instanceMethod yX1_times, Cond.selects RX1 yX1_times yX1_times, Cond.initialized RX1, Cond.code yX1_times cX1_times 5 (some (.object "Greenwheels$Fraction")), Cond.classLink RX1 14 RX1, Cond.instantiable RX1 2, Cond.fieldLink RX1 13 "Greenwheels$Fraction" "upper" "J"]
def wsX5_cellAt_r2 : List Cond := [Cond.fieldLink RX1 19 "Greenwheels$Fraction" "lower" "J", Cond.methodLink RX1 22 yX1_init, Cond.instanceMethod yX1_init, Cond.code yX1_init cX1_init 7 none, Cond.methodLink RX1 1 objectInit, Cond.instanceMethod objectInit, Cond.code objectInit ⟨#[0xb1]⟩ 1 none, Cond.static yX5_commonDivisor, Cond.initialized RX5, Cond.code yX5_commonDivisor cX5_commonDivisor 11 (some .long), Cond.methodLink RX5 299 yX1_withoutWhole, Cond.instanceMethod yX1_withoutWhole, Cond.selects RX1 yX1_withoutWhole yX1_withoutWhole, Cond.code yX1_withoutWhole cX1_withoutWhole 1 (some (.object "Greenwheels$Fraction")), Cond.methodLink RX1 25 yJ9_floorMod_f86c9, Cond.static yJ9_floorMod_f86c9, Cond.initialized RJ9, Cond.code yJ9_floorMod_f86c9 cJ9_floorMod_f86c9 6 (some .long), Cond.methodLink RX5 90 yX5_at, Cond.static yX5_at, Cond.code yX5_at cX5_at 2 (some .int), Cond.methodLink RX5 307 yX1_cellOf, Cond.instanceMethod yX1_cellOf, Cond.selects RX1 yX1_cellOf yX1_cellOf]
def wsX5_cellAt_r3 : List Cond := [Cond.code yX1_cellOf cX1_cellOf 2 (some .int)]
def wsX5_cellAt : List Cond := .code yX5_cellAt cX5_cellAt 3 (some .int) :: ((wsX5_cellAt_r1 ++ (wsX5_cellAt_r2 ++ wsX5_cellAt_r3)) ++ wsX50 ++ wsX20 ++ wsX10)
def wsX5_mixedAxles_r1 : List Cond := [Cond.fieldLink RX5 87 "Greenwheels" "turns" "I", Cond.methodLink RX5 130 yX5_axleFraction, Cond.instanceMethod yX5_axleFraction, Cond.selects RX5 yX5_axleFraction yX5_axleFraction, Cond.initialized RX5, Cond.code yX5_axleFraction cX5_axleFraction 3 (some (.object "Greenwheels$Fraction")), Cond.fieldLink RX5 10 "Greenwheels" "gearing" "LGreenwheels$Gearing;", Cond.methodLink RX5 293 yX2_rateOf, Cond.instanceMethod yX2_rateOf, Cond.selects RX2 yX2_rateOf yX2_rateOf, Cond.initialized RX2, Cond.code yX2_rateOf cX2_rateOf 3 (some (.object "Greenwheels$Fraction")), Cond.fieldLink RX2 33 "Greenwheels$Gearing" "byCrank" "[LGreenwheels$Fraction;", Cond.fieldLink RX2 30 "Greenwheels$Gearing" "still" "LGreenwheels$Fraction;", Cond.methodLink RX2 67 yX2_rateIn, Cond.static yX2_rateIn, Cond.code yX2_rateIn cX2_rateIn 2 (some (.object "Greenwheels$Fraction")), Cond.methodLink RX5 296 yX2_turnedAt, Cond.instanceMethod yX2_turnedAt, Cond.selects RX2 yX2_turnedAt yX2_turnedAt, Cond.code yX2_turnedAt cX2_turnedAt 3 (some (.object "Greenwheels$Fraction")), Cond.methodLink RX2 78 yX2_rateOf, Cond.methodLink RX2 82 yX1_times, Cond.instanceMethod yX1_times]
def wsX5_mixedAxles_r2 : List Cond := [Cond.selects RX1 yX1_times yX1_times, Cond.initialized RX1, Cond.code yX1_times cX1_times 5 (some (.object "Greenwheels$Fraction")), Cond.classLink RX1 14 RX1, Cond.instantiable RX1 2, Cond.fieldLink RX1 13 "Greenwheels$Fraction" "upper" "J", Cond.fieldLink RX1 19 "Greenwheels$Fraction" "lower" "J", Cond.methodLink RX1 22 yX1_init, Cond.instanceMethod yX1_init, Cond.code yX1_init cX1_init 7 none, Cond.methodLink RX1 1 objectInit, Cond.instanceMethod objectInit, Cond.code objectInit ⟨#[0xb1]⟩ 1 none, Cond.static yX5_commonDivisor, Cond.code yX5_commonDivisor cX5_commonDivisor 11 (some .long), Cond.methodLink RX5 299 yX1_withoutWhole, Cond.instanceMethod yX1_withoutWhole, Cond.selects RX1 yX1_withoutWhole yX1_withoutWhole, Cond.code yX1_withoutWhole cX1_withoutWhole 1 (some (.object "Greenwheels$Fraction")), Cond.methodLink RX1 25 yJ9_floorMod_f86c9, Cond.static yJ9_floorMod_f86c9, Cond.initialized RJ9, Cond.code yJ9_floorMod_f86c9 cJ9_floorMod_f86c9 6 (some .long), Cond.methodLink RX5 326 yX5_mixedFraction]
def wsX5_mixedAxles_r3 : List Cond := [Cond.static yX5_mixedFraction, Cond.code yX5_mixedFraction cX5_mixedFraction 3 (some .long), Cond.fieldLink RX5 333 "Greenwheels$Fraction" "upper" "J", Cond.fieldLink RX5 337 "Greenwheels$Fraction" "lower" "J", Cond.methodLink RX5 253 yX5_mixed, Cond.static yX5_mixed, Cond.code yX5_mixed cX5_mixed 4 (some .long), Cond.constantLong RX5 340 (31), Cond.methodLink RX5 160 yX5_cellAt, Cond.instanceMethod yX5_cellAt, Cond.selects RX5 yX5_cellAt yX5_cellAt, Cond.code yX5_cellAt cX5_cellAt 3 (some .int), Cond.fieldLink RX5 16 "Greenwheels" "cells" "[I", Cond.methodLink RX5 90 yX5_at, Cond.static yX5_at, Cond.code yX5_at cX5_at 2 (some .int), Cond.methodLink RX5 307 yX1_cellOf, Cond.instanceMethod yX1_cellOf, Cond.selects RX1 yX1_cellOf yX1_cellOf, Cond.code yX1_cellOf cX1_cellOf 2 (some .int)]
def wsX5_mixedAxles : List Cond := .code yX5_mixedAxles cX5_mixedAxles 7 (some .long) :: ((wsX5_mixedAxles_r1 ++ (wsX5_mixedAxles_r2 ++ wsX5_mixedAxles_r3)) ++ wsX50 ++ wsX20 ++ wsX10)
def wsX5_mixedWheels_r1 : List Cond := [Cond.fieldLink RX5 10 "Greenwheels" "gearing" "LGreenwheels$Gearing;", Cond.fieldLink RX5 53 "Greenwheels$Gearing" "wheels" "I", Cond.methodLink RX5 330 yX5_ofWheel, Cond.instanceMethod yX5_ofWheel, Cond.selects RX5 yX5_ofWheel yX5_ofWheel, Cond.initialized RX5, Cond.code yX5_ofWheel cX5_ofWheel 3 (some .int), Cond.methodLink RX5 64 yX5_demandWheel, Cond.instanceMethod yX5_demandWheel, Cond.selects RX5 yX5_demandWheel yX5_demandWheel, Cond.code yX5_demandWheel cX5_demandWheel 2 none, Cond.methodLink RX5 45 yX5_isWithin, Cond.static yX5_isWithin, Cond.code yX5_isWithin cX5_isWithin 3 (some .boolean), Cond.methodLink RX5 98 yX5_demandIndex, Cond.static yX5_demandIndex, Cond.code yX5_demandIndex cX5_demandIndex 1 none, Cond.classLink RX5 276 "java/lang/IndexOutOfBoundsException", Cond.initialized "java/lang/IndexOutOfBoundsException", Cond.methodLink RX5 49 yX5_demandArgument, Cond.static yX5_demandArgument, Cond.code yX5_demandArgument cX5_demandArgument 1 none, Cond.classLink RX5 283 "java/lang/IllegalArgumentException", Cond.initialized "java/lang/IllegalArgumentException"]
def wsX5_mixedWheels_r2 : List Cond := [Cond.methodLink RX5 140 yX2_axleOf, Cond.instanceMethod yX2_axleOf, Cond.selects RX2 yX2_axleOf yX2_axleOf, Cond.initialized RX2, Cond.code yX2_axleOf cX2_axleOf 2 (some .int), Cond.fieldLink RX2 9 "Greenwheels$Gearing" "axles" "[I", Cond.static yX5_at, Cond.code yX5_at cX5_at 2 (some .int), Cond.methodLink RX5 143 yX2_teethOf, Cond.instanceMethod yX2_teethOf, Cond.selects RX2 yX2_teethOf yX2_teethOf, Cond.code yX2_teethOf cX2_teethOf 2 (some .int), Cond.fieldLink RX2 15 "Greenwheels$Gearing" "teeth" "[I", Cond.methodLink RX5 146 yX2_meshedWith, Cond.instanceMethod yX2_meshedWith, Cond.selects RX2 yX2_meshedWith yX2_meshedWith, Cond.code yX2_meshedWith cX2_meshedWith 2 (some .int), Cond.fieldLink RX2 18 "Greenwheels$Gearing" "meshSets" "[I", Cond.methodLink RX5 149 yX2_isMoved, Cond.instanceMethod yX2_isMoved, Cond.selects RX2 yX2_isMoved yX2_isMoved, Cond.code yX2_isMoved cX2_isMoved 2 (some .boolean), Cond.fieldLink RX2 33 "Greenwheels$Gearing" "byCrank" "[LGreenwheels$Fraction;", Cond.methodLink RX2 67 yX2_rateIn]
def wsX5_mixedWheels_r3 : List Cond := [Cond.static yX2_rateIn, Cond.code yX2_rateIn cX2_rateIn 2 (some (.object "Greenwheels$Fraction")), Cond.methodLink RX5 253 yX5_mixed, Cond.static yX5_mixed, Cond.code yX5_mixed cX5_mixed 4 (some .long), Cond.constantLong RX5 340 (31), Cond.methodLink RX5 152 yX5_passedBy, Cond.instanceMethod yX5_passedBy, Cond.selects RX5 yX5_passedBy yX5_passedBy, Cond.code yX5_passedBy cX5_passedBy 2 (some (.object "Greenwheels$Fraction")), Cond.fieldLink RX5 87 "Greenwheels" "turns" "I", Cond.methodLink RX5 293 yX2_rateOf, Cond.instanceMethod yX2_rateOf, Cond.selects RX2 yX2_rateOf yX2_rateOf, Cond.code yX2_rateOf cX2_rateOf 3 (some (.object "Greenwheels$Fraction")), Cond.fieldLink RX2 30 "Greenwheels$Gearing" "still" "LGreenwheels$Fraction;", Cond.methodLink RX5 303 yX1_times, Cond.instanceMethod yX1_times, Cond.selects RX1 yX1_times yX1_times, Cond.initialized RX1, Cond.code yX1_times cX1_times 5 (some (.object "Greenwheels$Fraction")), Cond.classLink RX1 14 RX1, Cond.instantiable RX1 2, Cond.fieldLink RX1 13 "Greenwheels$Fraction" "upper" "J"]
def wsX5_mixedWheels_r4 : List Cond := [Cond.fieldLink RX1 19 "Greenwheels$Fraction" "lower" "J", Cond.methodLink RX1 22 yX1_init, Cond.instanceMethod yX1_init, Cond.code yX1_init cX1_init 7 none, Cond.methodLink RX1 1 objectInit, Cond.instanceMethod objectInit, Cond.code objectInit ⟨#[0xb1]⟩ 1 none, Cond.static yX5_commonDivisor, Cond.code yX5_commonDivisor cX5_commonDivisor 11 (some .long), Cond.methodLink RX5 326 yX5_mixedFraction, Cond.static yX5_mixedFraction, Cond.code yX5_mixedFraction cX5_mixedFraction 3 (some .long), Cond.fieldLink RX5 333 "Greenwheels$Fraction" "upper" "J", Cond.fieldLink RX5 337 "Greenwheels$Fraction" "lower" "J"]
def wsX5_mixedWheels : List Cond := .code yX5_mixedWheels cX5_mixedWheels 7 (some .long) :: ((wsX5_mixedWheels_r1 ++ (wsX5_mixedWheels_r2 ++ (wsX5_mixedWheels_r3 ++ wsX5_mixedWheels_r4))) ++ wsX50 ++ wsX20 ++ wsX10 ++ (vx_atS RX5 280 "java/lang/IndexOutOfBoundsException" ["java/lang/RuntimeException", "java/lang/Exception"]).filter goodWord ++ (vx_atS RX5 287 "java/lang/IllegalArgumentException" ["java/lang/RuntimeException", "java/lang/Exception"]).filter goodWord)
def wsX5_digest_r1 : List Cond := [Cond.constantLong RX5 248 (5087), Cond.fieldLink RX5 30 "Greenwheels" "claims" "LGreenwheels$Claims;", Cond.fieldLink RX5 113 "Greenwheels$Claims" "count" "I", Cond.methodLink RX5 250 yX5_house, Cond.instanceMethod yX5_house, Cond.selects RX5 yX5_house yX5_house, Cond.initialized RX5, Cond.code yX5_house cX5_house 2 (some .int), Cond.fieldLink RX5 10 "Greenwheels" "gearing" "LGreenwheels$Gearing;", Cond.fieldLink RX5 53 "Greenwheels$Gearing" "wheels" "I", Cond.fieldLink RX5 87 "Greenwheels" "turns" "I", Cond.fieldLink RX5 23 "Greenwheels" "lumps" "LGreenwheels$Lumps;", Cond.fieldLink RX5 74 "Greenwheels" "jams" "I", Cond.fieldLink RX5 193 "Greenwheels" "refused" "I", Cond.methodLink RX5 45 yX5_isWithin, Cond.static yX5_isWithin, Cond.code yX5_isWithin cX5_isWithin 3 (some .boolean), Cond.methodLink RX5 49 yX5_demandArgument, Cond.static yX5_demandArgument, Cond.code yX5_demandArgument cX5_demandArgument 1 none, Cond.classLink RX5 283 "java/lang/IllegalArgumentException", Cond.initialized "java/lang/IllegalArgumentException", Cond.methodLink RX5 184 yX2_countMeshes, Cond.instanceMethod yX2_countMeshes]
def wsX5_digest_r2 : List Cond := [Cond.selects RX2 yX2_countMeshes yX2_countMeshes, Cond.initialized RX2, Cond.code yX2_countMeshes cX2_countMeshes 3 (some .int), Cond.fieldLink RX2 44 "Greenwheels$Gearing" "wheels" "I", Cond.methodLink RX2 60 yX2_meshedWith, Cond.instanceMethod yX2_meshedWith, Cond.selects RX2 yX2_meshedWith yX2_meshedWith, Cond.code yX2_meshedWith cX2_meshedWith 2 (some .int), Cond.fieldLink RX2 18 "Greenwheels$Gearing" "meshSets" "[I", Cond.static yX5_at, Cond.code yX5_at cX5_at 2 (some .int), Cond.methodLink RX2 86 yJ6_bitCount_0f7a4, Cond.static yJ6_bitCount_0f7a4, Cond.initialized RJ6, Cond.code yJ6_bitCount_0f7a4 cJ6_bitCount_0f7a4 1 (some .int), Cond.constant RJ6 265 (1431655765), Cond.constant RJ6 266 (858993459), Cond.constant RJ6 267 (252645135), Cond.methodLink RX5 187 yX2_countMoved, Cond.instanceMethod yX2_countMoved, Cond.selects RX2 yX2_countMoved yX2_countMoved, Cond.code yX2_countMoved cX2_countMoved 3 (some .int), Cond.methodLink RX2 91 yX2_isMoved, Cond.instanceMethod yX2_isMoved]
def wsX5_digest_r3 : List Cond := [Cond.selects RX2 yX2_isMoved yX2_isMoved, Cond.code yX2_isMoved cX2_isMoved 2 (some .boolean), Cond.fieldLink RX2 33 "Greenwheels$Gearing" "byCrank" "[LGreenwheels$Fraction;", Cond.methodLink RX2 67 yX2_rateIn, Cond.static yX2_rateIn, Cond.code yX2_rateIn cX2_rateIn 2 (some (.object "Greenwheels$Fraction")), Cond.methodLink RX5 126 yX0_countStanding, Cond.instanceMethod yX0_countStanding, Cond.selects RX0 yX0_countStanding yX0_countStanding, Cond.initialized RX0, Cond.code yX0_countStanding cX0_countStanding 1 (some .int), Cond.fieldLink RX0 34 "Greenwheels$Claims" "withdrawn" "I", Cond.methodLink RX0 37 yX0_standingWithout, Cond.instanceMethod yX0_standingWithout, Cond.selects RX0 yX0_standingWithout yX0_standingWithout, Cond.code yX0_standingWithout cX0_standingWithout 4 (some .int), Cond.fieldLink RX0 18 "Greenwheels$Claims" "count" "I", Cond.fieldLink RX0 9 "Greenwheels$Claims" "near" "[I", Cond.static yX5_isIn, Cond.code yX5_isIn cX5_isIn 2 (some .boolean), Cond.methodLink RX0 41 yJ6_bitCount_0f7a4, Cond.methodLink RX5 190 yX3_countPieces, Cond.instanceMethod yX3_countPieces, Cond.selects RX3 yX3_countPieces yX3_countPieces]
def wsX5_digest_r4 : List Cond := [Cond.initialized RX3, Cond.code yX3_countPieces cX3_countPieces 3 (some .int), Cond.methodLink RX3 41 yX3_piecesOf, Cond.instanceMethod yX3_piecesOf, Cond.selects RX3 yX3_piecesOf yX3_piecesOf, Cond.code yX3_piecesOf cX3_piecesOf 2 (some .int), Cond.fieldLink RX3 9 "Greenwheels$Lumps" "pieces" "[I", Cond.methodLink RX5 253 yX5_mixed, Cond.static yX5_mixed, Cond.code yX5_mixed cX5_mixed 4 (some .long), Cond.constantLong RX5 340 (31), Cond.methodLink RX5 257 yX5_mixedAxles, Cond.instanceMethod yX5_mixedAxles, Cond.selects RX5 yX5_mixedAxles yX5_mixedAxles, Cond.code yX5_mixedAxles cX5_mixedAxles 7 (some .long), Cond.methodLink RX5 130 yX5_axleFraction, Cond.instanceMethod yX5_axleFraction, Cond.selects RX5 yX5_axleFraction yX5_axleFraction, Cond.code yX5_axleFraction cX5_axleFraction 3 (some (.object "Greenwheels$Fraction")), Cond.methodLink RX5 293 yX2_rateOf, Cond.instanceMethod yX2_rateOf, Cond.selects RX2 yX2_rateOf yX2_rateOf, Cond.code yX2_rateOf cX2_rateOf 3 (some (.object "Greenwheels$Fraction")), Cond.fieldLink RX2 30 "Greenwheels$Gearing" "still" "LGreenwheels$Fraction;"]
def wsX5_digest_r5 : List Cond := [Cond.methodLink RX5 296 yX2_turnedAt, Cond.instanceMethod yX2_turnedAt, Cond.selects RX2 yX2_turnedAt yX2_turnedAt, Cond.code yX2_turnedAt cX2_turnedAt 3 (some (.object "Greenwheels$Fraction")), Cond.methodLink RX2 78 yX2_rateOf, Cond.methodLink RX2 82 yX1_times, Cond.instanceMethod yX1_times, Cond.selects RX1 yX1_times yX1_times, Cond.initialized RX1, Cond.code yX1_times cX1_times 5 (some (.object "Greenwheels$Fraction")), Cond.classLink RX1 14 RX1, Cond.instantiable RX1 2, Cond.fieldLink RX1 13 "Greenwheels$Fraction" "upper" "J", Cond.fieldLink RX1 19 "Greenwheels$Fraction" "lower" "J", Cond.methodLink RX1 22 yX1_init, Cond.instanceMethod yX1_init, Cond.code yX1_init cX1_init 7 none, Cond.methodLink RX1 1 objectInit, Cond.instanceMethod objectInit, Cond.code objectInit ⟨#[0xb1]⟩ 1 none, Cond.static yX5_commonDivisor, Cond.code yX5_commonDivisor cX5_commonDivisor 11 (some .long), Cond.methodLink RX5 299 yX1_withoutWhole, Cond.instanceMethod yX1_withoutWhole]
def wsX5_digest_r6 : List Cond := [Cond.selects RX1 yX1_withoutWhole yX1_withoutWhole, Cond.code yX1_withoutWhole cX1_withoutWhole 1 (some (.object "Greenwheels$Fraction")), Cond.methodLink RX1 25 yJ9_floorMod_f86c9, Cond.static yJ9_floorMod_f86c9, Cond.initialized RJ9, Cond.code yJ9_floorMod_f86c9 cJ9_floorMod_f86c9 6 (some .long), Cond.methodLink RX5 326 yX5_mixedFraction, Cond.static yX5_mixedFraction, Cond.code yX5_mixedFraction cX5_mixedFraction 3 (some .long), Cond.fieldLink RX5 333 "Greenwheels$Fraction" "upper" "J", Cond.fieldLink RX5 337 "Greenwheels$Fraction" "lower" "J", Cond.methodLink RX5 160 yX5_cellAt, Cond.instanceMethod yX5_cellAt, Cond.selects RX5 yX5_cellAt yX5_cellAt, Cond.code yX5_cellAt cX5_cellAt 3 (some .int), Cond.fieldLink RX5 16 "Greenwheels" "cells" "[I", Cond.methodLink RX5 90 yX5_at, Cond.methodLink RX5 307 yX1_cellOf, Cond.instanceMethod yX1_cellOf, Cond.selects RX1 yX1_cellOf yX1_cellOf, Cond.code yX1_cellOf cX1_cellOf 2 (some .int), Cond.methodLink RX5 261 yX5_mixedWheels, Cond.instanceMethod yX5_mixedWheels, Cond.selects RX5 yX5_mixedWheels yX5_mixedWheels]
def wsX5_digest_r7 : List Cond := [Cond.code yX5_mixedWheels cX5_mixedWheels 7 (some .long), Cond.methodLink RX5 330 yX5_ofWheel, Cond.instanceMethod yX5_ofWheel, Cond.selects RX5 yX5_ofWheel yX5_ofWheel, Cond.code yX5_ofWheel cX5_ofWheel 3 (some .int), Cond.methodLink RX5 64 yX5_demandWheel, Cond.instanceMethod yX5_demandWheel, Cond.selects RX5 yX5_demandWheel yX5_demandWheel, Cond.code yX5_demandWheel cX5_demandWheel 2 none, Cond.methodLink RX5 98 yX5_demandIndex, Cond.static yX5_demandIndex, Cond.code yX5_demandIndex cX5_demandIndex 1 none, Cond.classLink RX5 276 "java/lang/IndexOutOfBoundsException", Cond.initialized "java/lang/IndexOutOfBoundsException", Cond.methodLink RX5 140 yX2_axleOf, Cond.instanceMethod yX2_axleOf, Cond.selects RX2 yX2_axleOf yX2_axleOf, Cond.code yX2_axleOf cX2_axleOf 2 (some .int), Cond.fieldLink RX2 9 "Greenwheels$Gearing" "axles" "[I", Cond.methodLink RX5 143 yX2_teethOf, Cond.instanceMethod yX2_teethOf, Cond.selects RX2 yX2_teethOf yX2_teethOf, Cond.code yX2_teethOf cX2_teethOf 2 (some .int), Cond.fieldLink RX2 15 "Greenwheels$Gearing" "teeth" "[I"]
def wsX5_digest_r8 : List Cond := [Cond.methodLink RX5 146 yX2_meshedWith, Cond.methodLink RX5 149 yX2_isMoved, Cond.methodLink RX5 152 yX5_passedBy, Cond.instanceMethod yX5_passedBy, Cond.selects RX5 yX5_passedBy yX5_passedBy, Cond.code yX5_passedBy cX5_passedBy 2 (some (.object "Greenwheels$Fraction")), Cond.methodLink RX5 303 yX1_times, Cond.methodLink RX5 264 yX5_period, Cond.instanceMethod yX5_period, Cond.selects RX5 yX5_period yX5_period, Cond.code yX5_period cX5_period 1 (some .long), Cond.methodLink RX5 156 yX2_turnsToReturn, Cond.instanceMethod yX2_turnsToReturn, Cond.selects RX2 yX2_turnsToReturn yX2_turnsToReturn, Cond.code yX2_turnsToReturn cX2_turnsToReturn 8 (some .long), Cond.fieldLink RX2 95 "Greenwheels$Fraction" "lower" "J", Cond.methodLink RX5 267 yX5_ofLump, Cond.instanceMethod yX5_ofLump, Cond.selects RX5 yX5_ofLump yX5_ofLump, Cond.code yX5_ofLump cX5_ofLump 3 (some .int), Cond.methodLink RX5 101 yX3_piecesOf, Cond.methodLink RX5 163 yX3_agreeingOf, Cond.instanceMethod yX3_agreeingOf, Cond.selects RX3 yX3_agreeingOf yX3_agreeingOf]
def wsX5_digest_r9 : List Cond := [Cond.code yX3_agreeingOf cX3_agreeingOf 2 (some .int), Cond.fieldLink RX3 24 "Greenwheels$Lumps" "agreeing" "[I", Cond.methodLink RX5 166 yX3_leastOf, Cond.instanceMethod yX3_leastOf, Cond.selects RX3 yX3_leastOf yX3_leastOf, Cond.code yX3_leastOf cX3_leastOf 2 (some .int), Cond.fieldLink RX3 27 "Greenwheels$Lumps" "least" "[I", Cond.methodLink RX5 169 yX3_greatestOf, Cond.instanceMethod yX3_greatestOf, Cond.selects RX3 yX3_greatestOf yX3_greatestOf, Cond.code yX3_greatestOf cX3_greatestOf 2 (some .int), Cond.fieldLink RX3 30 "Greenwheels$Lumps" "greatest" "[I", Cond.methodLink RX5 270 yX5_ofClaim, Cond.instanceMethod yX5_ofClaim, Cond.selects RX5 yX5_ofClaim yX5_ofClaim, Cond.code yX5_ofClaim cX5_ofClaim 3 (some .int), Cond.methodLink RX5 119 yX5_demandClaim, Cond.instanceMethod yX5_demandClaim, Cond.selects RX5 yX5_demandClaim yX5_demandClaim, Cond.code yX5_demandClaim cX5_demandClaim 2 none, Cond.methodLink RX5 172 yX0_hangsOn, Cond.instanceMethod yX0_hangsOn, Cond.selects RX0 yX0_hangsOn yX0_hangsOn, Cond.code yX0_hangsOn cX0_hangsOn 2 (some .int)]
def wsX5_digest_r10 : List Cond := [Cond.methodLink RX5 175 yX0_isWithdrawn, Cond.instanceMethod yX0_isWithdrawn, Cond.selects RX0 yX0_isWithdrawn yX0_isWithdrawn, Cond.code yX0_isWithdrawn cX0_isWithdrawn 2 (some .boolean), Cond.methodLink RX5 178 yX0_isStanding, Cond.instanceMethod yX0_isStanding, Cond.selects RX0 yX0_isStanding yX0_isStanding, Cond.code yX0_isStanding cX0_isStanding 2 (some .boolean), Cond.methodLink RX5 181 yX0_fallingWith, Cond.instanceMethod yX0_fallingWith, Cond.selects RX0 yX0_fallingWith yX0_fallingWith, Cond.code yX0_fallingWith cX0_fallingWith 2 (some .int), Cond.methodLink RX0 46 yX0_countStanding, Cond.methodLink RX5 273 yX5_isSound, Cond.instanceMethod yX5_isSound, Cond.selects RX5 yX5_isSound yX5_isSound, Cond.code yX5_isSound cX5_isSound 1 (some .boolean), Cond.methodLink RX5 238 yX5_doMeshesPassAlike, Cond.instanceMethod yX5_doMeshesPassAlike, Cond.selects RX5 yX5_doMeshesPassAlike yX5_doMeshesPassAlike, Cond.code yX5_doMeshesPassAlike cX5_doMeshesPassAlike 4 (some .boolean), Cond.methodLink RX5 81 yX2_areMeshed, Cond.instanceMethod yX2_areMeshed, Cond.selects RX2 yX2_areMeshed yX2_areMeshed]
def wsX5_digest_r11 : List Cond := [Cond.code yX2_areMeshed cX2_areMeshed 3 (some .boolean), Cond.methodLink RX5 322 yX1_isOppositeOf, Cond.instanceMethod yX1_isOppositeOf, Cond.selects RX1 yX1_isOppositeOf yX1_isOppositeOf, Cond.code yX1_isOppositeOf cX1_isOppositeOf 2 (some .boolean), Cond.methodLink RX5 242 yX2_isPeriodRight, Cond.instanceMethod yX2_isPeriodRight, Cond.selects RX2 yX2_isPeriodRight yX2_isPeriodRight, Cond.code yX2_isPeriodRight cX2_isPeriodRight 6 (some .boolean), Cond.methodLink RX2 103 yX2_turnsToReturn, Cond.methodLink RX5 245 yX0_areConsistent, Cond.instanceMethod yX0_areConsistent, Cond.selects RX0 yX0_areConsistent yX0_areConsistent, Cond.code yX0_areConsistent cX0_areConsistent 4 (some .boolean), Cond.fieldLink RX0 15 "Greenwheels$Claims" "nearAndFar" "[I"]
def wsX5_digest : List Cond := .code yX5_digest cX5_digest 5 (some .long) :: ((wsX5_digest_r1 ++ (wsX5_digest_r2 ++ (wsX5_digest_r3 ++ (wsX5_digest_r4 ++ (wsX5_digest_r5 ++ (wsX5_digest_r6 ++ (wsX5_digest_r7 ++ (wsX5_digest_r8 ++ (wsX5_digest_r9 ++ (wsX5_digest_r10 ++ wsX5_digest_r11)))))))))) ++ wsX50 ++ wsX00 ++ wsX20 ++ wsX30 ++ wsX10 ++ (vx_atS RX5 287 "java/lang/IllegalArgumentException" ["java/lang/RuntimeException", "java/lang/Exception"]).filter goodWord ++ (vx_atS RX5 280 "java/lang/IndexOutOfBoundsException" ["java/lang/RuntimeException", "java/lang/Exception"]).filter goodWord)
def wsJ9_abs_0f7a4 : List Cond := .code yJ9_abs_0f7a4 cJ9_abs_0f7a4 1 (some .int) :: ([])
def wsL_below : List Cond := .code yL_below cL_below 2 (some .int) :: ([.constant RL 7 (2147483647)])
def wsL_cell : List Cond := .code yL_cell cL_cell 2 (some .int) :: ([.constant RL 8 (790386105)])
def wsL_act_r1 : List Cond := [Cond.classLink RL 93 "java/lang/IndexOutOfBoundsException", Cond.classLink RL 95 "java/lang/IllegalArgumentException", Cond.classLink RL 97 "java/lang/IllegalStateException", Cond.methodLink RL 18 yL_below, Cond.static yL_below, Cond.initialized RL, Cond.code yL_below cL_below 2 (some .int), Cond.constant RL 7 (2147483647), Cond.methodLink RL 22 yX5_wheel, Cond.instanceMethod yX5_wheel, Cond.selects RX5 yX5_wheel yX5_wheel, Cond.initialized RX5, Cond.code yX5_wheel cX5_wheel 3 (some .int), Cond.fieldLink RX5 10 "Greenwheels" "gearing" "LGreenwheels$Gearing;", Cond.fieldLink RX5 53 "Greenwheels$Gearing" "wheels" "I", Cond.methodLink RX5 41 yX5_demandAxle, Cond.static yX5_demandAxle, Cond.code yX5_demandAxle cX5_demandAxle 1 none, Cond.methodLink RX5 45 yX5_isWithin, Cond.static yX5_isWithin, Cond.code yX5_isWithin cX5_isWithin 3 (some .boolean), Cond.methodLink RX5 98 yX5_demandIndex, Cond.static yX5_demandIndex, Cond.code yX5_demandIndex cX5_demandIndex 1 none]
def wsL_act_r2 : List Cond := [Cond.classLink RX5 276 "java/lang/IndexOutOfBoundsException", Cond.initialized "java/lang/IndexOutOfBoundsException", Cond.methodLink RX5 49 yX5_demandArgument, Cond.static yX5_demandArgument, Cond.code yX5_demandArgument cX5_demandArgument 1 none, Cond.classLink RX5 283 "java/lang/IllegalArgumentException", Cond.initialized "java/lang/IllegalArgumentException", Cond.methodLink RX5 57 yX5_demandState, Cond.static yX5_demandState, Cond.code yX5_demandState cX5_demandState 1 none, Cond.classLink RX5 288 "java/lang/IllegalStateException", Cond.initialized "java/lang/IllegalStateException", Cond.methodLink RX5 60 yX2_addWheel, Cond.instanceMethod yX2_addWheel, Cond.selects RX2 yX2_addWheel yX2_addWheel, Cond.initialized RX2, Cond.code yX2_addWheel cX2_addWheel 4 (some .int), Cond.fieldLink RX2 44 "Greenwheels$Gearing" "wheels" "I", Cond.fieldLink RX2 9 "Greenwheels$Gearing" "axles" "[I", Cond.fieldLink RX2 15 "Greenwheels$Gearing" "teeth" "[I", Cond.static yX5_put, Cond.code yX5_put cX5_put 3 none, Cond.methodLink RL 73 yX5_mesh, Cond.instanceMethod yX5_mesh]
def wsL_act_r3 : List Cond := [Cond.selects RX5 yX5_mesh yX5_mesh, Cond.code yX5_mesh cX5_mesh 3 (some .boolean), Cond.fieldLink RX5 74 "Greenwheels" "jams" "I", Cond.methodLink RX5 64 yX5_demandWheel, Cond.instanceMethod yX5_demandWheel, Cond.selects RX5 yX5_demandWheel yX5_demandWheel, Cond.code yX5_demandWheel cX5_demandWheel 2 none, Cond.methodLink RX5 67 yX2_areOnOneAxle, Cond.instanceMethod yX2_areOnOneAxle, Cond.selects RX2 yX2_areOnOneAxle yX2_areOnOneAxle, Cond.code yX2_areOnOneAxle cX2_areOnOneAxle 3 (some .boolean), Cond.methodLink RX2 56 yX2_axleOf, Cond.instanceMethod yX2_axleOf, Cond.selects RX2 yX2_axleOf yX2_axleOf, Cond.code yX2_axleOf cX2_axleOf 2 (some .int), Cond.static yX5_at, Cond.code yX5_at cX5_at 2 (some .int), Cond.methodLink RX5 71 yX2_wouldJam, Cond.instanceMethod yX2_wouldJam, Cond.selects RX2 yX2_wouldJam yX2_wouldJam, Cond.code yX2_wouldJam cX2_wouldJam 4 (some .boolean), Cond.fieldLink RX2 37 "Greenwheels$Gearing" "byAnother" "[LGreenwheels$Fraction;", Cond.classLink RX2 21 RX1, Cond.instantiable RX1 2]
def wsL_act_r4 : List Cond := [Cond.initialized RX1, Cond.methodLink RX2 40 yX2_spreadRates, Cond.instanceMethod yX2_spreadRates, Cond.selects RX2 yX2_spreadRates yX2_spreadRates, Cond.code yX2_spreadRates cX2_spreadRates 6 none, Cond.fieldLink RX2 26 "Greenwheels$Gearing" "whole" "LGreenwheels$Fraction;", Cond.methodLink RX2 60 yX2_meshedWith, Cond.instanceMethod yX2_meshedWith, Cond.selects RX2 yX2_meshedWith yX2_meshedWith, Cond.code yX2_meshedWith cX2_meshedWith 2 (some .int), Cond.fieldLink RX2 18 "Greenwheels$Gearing" "meshSets" "[I", Cond.methodLink RX2 107 yX2_spreadFromWheel, Cond.instanceMethod yX2_spreadFromWheel, Cond.selects RX2 yX2_spreadFromWheel yX2_spreadFromWheel, Cond.code yX2_spreadFromWheel cX2_spreadFromWheel 7 (some .boolean), Cond.methodLink RX2 67 yX2_rateIn, Cond.static yX2_rateIn, Cond.code yX2_rateIn cX2_rateIn 2 (some (.object "Greenwheels$Fraction")), Cond.methodLink RX2 111 yX2_areMeshed, Cond.instanceMethod yX2_areMeshed, Cond.selects RX2 yX2_areMeshed yX2_areMeshed, Cond.code yX2_areMeshed cX2_areMeshed 3 (some .boolean), Cond.static yX5_isIn, Cond.code yX5_isIn cX5_isIn 2 (some .boolean)]
def wsL_act_r5 : List Cond := [Cond.methodLink RX2 71 yX2_teethOf, Cond.instanceMethod yX2_teethOf, Cond.selects RX2 yX2_teethOf yX2_teethOf, Cond.code yX2_teethOf cX2_teethOf 2 (some .int), Cond.methodLink RX2 82 yX1_times, Cond.instanceMethod yX1_times, Cond.selects RX1 yX1_times yX1_times, Cond.code yX1_times cX1_times 5 (some (.object "Greenwheels$Fraction")), Cond.classLink RX1 14 RX1, Cond.fieldLink RX1 13 "Greenwheels$Fraction" "upper" "J", Cond.fieldLink RX1 19 "Greenwheels$Fraction" "lower" "J", Cond.methodLink RX1 22 yX1_init, Cond.instanceMethod yX1_init, Cond.code yX1_init cX1_init 7 none, Cond.methodLink RX1 1 objectInit, Cond.instanceMethod objectInit, Cond.code objectInit ⟨#[0xb1]⟩ 1 none, Cond.static yX5_commonDivisor, Cond.code yX5_commonDivisor cX5_commonDivisor 11 (some .long), Cond.methodLink RX2 23 yX1_init, Cond.methodLink RX2 74 yX1_isSameAs, Cond.instanceMethod yX1_isSameAs, Cond.selects RX1 yX1_isSameAs yX1_isSameAs, Cond.code yX1_isSameAs cX1_isSameAs 2 (some .boolean)]
def wsL_act_r6 : List Cond := [Cond.methodLink RX5 77 yX2_join, Cond.instanceMethod yX2_join, Cond.selects RX2 yX2_join yX2_join, Cond.code yX2_join cX2_join 3 none, Cond.fieldLink RX2 33 "Greenwheels$Gearing" "byCrank" "[LGreenwheels$Fraction;", Cond.methodLink RL 77 yX5_part, Cond.instanceMethod yX5_part, Cond.selects RX5 yX5_part yX5_part, Cond.code yX5_part cX5_part 4 (some .boolean), Cond.methodLink RX5 81 yX2_areMeshed, Cond.methodLink RX5 84 yX2_separate, Cond.instanceMethod yX2_separate, Cond.selects RX2 yX2_separate yX2_separate, Cond.code yX2_separate cX2_separate 3 none, Cond.methodLink RL 80 yX5_turn, Cond.instanceMethod yX5_turn, Cond.selects RX5 yX5_turn yX5_turn, Cond.code yX5_turn cX5_turn 2 (some .int), Cond.fieldLink RX5 87 "Greenwheels" "turns" "I", Cond.methodLink RL 29 yX5_house, Cond.instanceMethod yX5_house, Cond.selects RX5 yX5_house yX5_house, Cond.code yX5_house cX5_house 2 (some .int), Cond.fieldLink RX5 30 "Greenwheels" "claims" "LGreenwheels$Claims;"]
def wsL_act_r7 : List Cond := [Cond.fieldLink RX5 113 "Greenwheels$Claims" "count" "I", Cond.fieldLink RX5 23 "Greenwheels" "lumps" "LGreenwheels$Lumps;", Cond.fieldLink RX5 193 "Greenwheels" "refused" "I", Cond.methodLink RX5 184 yX2_countMeshes, Cond.instanceMethod yX2_countMeshes, Cond.selects RX2 yX2_countMeshes yX2_countMeshes, Cond.code yX2_countMeshes cX2_countMeshes 3 (some .int), Cond.methodLink RX2 86 yJ6_bitCount_0f7a4, Cond.static yJ6_bitCount_0f7a4, Cond.initialized RJ6, Cond.code yJ6_bitCount_0f7a4 cJ6_bitCount_0f7a4 1 (some .int), Cond.constant RJ6 265 (1431655765), Cond.constant RJ6 266 (858993459), Cond.constant RJ6 267 (252645135), Cond.methodLink RX5 187 yX2_countMoved, Cond.instanceMethod yX2_countMoved, Cond.selects RX2 yX2_countMoved yX2_countMoved, Cond.code yX2_countMoved cX2_countMoved 3 (some .int), Cond.methodLink RX2 91 yX2_isMoved, Cond.instanceMethod yX2_isMoved, Cond.selects RX2 yX2_isMoved yX2_isMoved, Cond.code yX2_isMoved cX2_isMoved 2 (some .boolean), Cond.methodLink RX5 126 yX0_countStanding, Cond.instanceMethod yX0_countStanding]
def wsL_act_r8 : List Cond := [Cond.selects RX0 yX0_countStanding yX0_countStanding, Cond.initialized RX0, Cond.code yX0_countStanding cX0_countStanding 1 (some .int), Cond.fieldLink RX0 34 "Greenwheels$Claims" "withdrawn" "I", Cond.methodLink RX0 37 yX0_standingWithout, Cond.instanceMethod yX0_standingWithout, Cond.selects RX0 yX0_standingWithout yX0_standingWithout, Cond.code yX0_standingWithout cX0_standingWithout 4 (some .int), Cond.fieldLink RX0 18 "Greenwheels$Claims" "count" "I", Cond.fieldLink RX0 9 "Greenwheels$Claims" "near" "[I", Cond.methodLink RX0 41 yJ6_bitCount_0f7a4, Cond.methodLink RX5 190 yX3_countPieces, Cond.instanceMethod yX3_countPieces, Cond.selects RX3 yX3_countPieces yX3_countPieces, Cond.initialized RX3, Cond.code yX3_countPieces cX3_countPieces 3 (some .int), Cond.methodLink RX3 41 yX3_piecesOf, Cond.instanceMethod yX3_piecesOf, Cond.selects RX3 yX3_piecesOf yX3_piecesOf, Cond.code yX3_piecesOf cX3_piecesOf 2 (some .int), Cond.fieldLink RX3 9 "Greenwheels$Lumps" "pieces" "[I", Cond.methodLink RL 83 yX5_claim, Cond.instanceMethod yX5_claim, Cond.selects RX5 yX5_claim yX5_claim]
def wsL_act_r9 : List Cond := [Cond.code yX5_claim cX5_claim 2 (some .int), Cond.methodLink RX5 109 yX0_isSetOfThem, Cond.instanceMethod yX0_isSetOfThem, Cond.selects RX0 yX0_isSetOfThem yX0_isSetOfThem, Cond.code yX0_isSetOfThem cX0_isSetOfThem 2 (some .boolean), Cond.methodLink RX5 116 yX0_addClaim, Cond.instanceMethod yX0_addClaim, Cond.selects RX0 yX0_addClaim yX0_addClaim, Cond.code yX0_addClaim cX0_addClaim 5 (some .int), Cond.fieldLink RX0 15 "Greenwheels$Claims" "nearAndFar" "[I", Cond.methodLink RL 86 yX5_withdraw, Cond.instanceMethod yX5_withdraw, Cond.selects RX5 yX5_withdraw yX5_withdraw, Cond.code yX5_withdraw cX5_withdraw 3 (some .int), Cond.methodLink RX5 119 yX5_demandClaim, Cond.instanceMethod yX5_demandClaim, Cond.selects RX5 yX5_demandClaim yX5_demandClaim, Cond.code yX5_demandClaim cX5_demandClaim 2 none, Cond.methodLink RX5 122 yX0_setWithdrawn, Cond.instanceMethod yX0_setWithdrawn, Cond.selects RX0 yX0_setWithdrawn yX0_setWithdrawn, Cond.code yX0_setWithdrawn cX0_setWithdrawn 3 none, Cond.methodLink RL 90 yX5_dial, Cond.instanceMethod yX5_dial]
def wsL_act_r10 : List Cond := [Cond.selects RX5 yX5_dial yX5_dial, Cond.code yX5_dial cX5_dial 4 (some .int), Cond.fieldLink RX5 16 "Greenwheels" "cells" "[I", Cond.methodLink RX5 90 yX5_at, Cond.methodLink RX5 94 yX5_put]
def wsL_act : List Cond := .codeWith yL_act cL_act 4 none [(0, 230, 233, 93), (0, 230, 235, 95), (0, 230, 237, 97)] :: ((wsL_act_r1 ++ (wsL_act_r2 ++ (wsL_act_r3 ++ (wsL_act_r4 ++ (wsL_act_r5 ++ (wsL_act_r6 ++ (wsL_act_r7 ++ (wsL_act_r8 ++ (wsL_act_r9 ++ wsL_act_r10))))))))) ++ wsX50 ++ wsX20 ++ wsX10 ++ wsX00 ++ wsX30 ++ (vx_atS RX5 280 "java/lang/IndexOutOfBoundsException" ["java/lang/RuntimeException", "java/lang/Exception"]).filter goodWord ++ (vx_atS RX5 287 "java/lang/IllegalArgumentException" ["java/lang/RuntimeException", "java/lang/Exception"]).filter goodWord ++ (vx_atS RX5 292 "java/lang/IllegalStateException" ["java/lang/RuntimeException", "java/lang/Exception"]).filter goodWord)
def wsL_rate_r1 : List Cond := [Cond.arrayClass .long, Cond.methodLink RL 67 yX5_ofAxle, Cond.instanceMethod yX5_ofAxle, Cond.selects RX5 yX5_ofAxle yX5_ofAxle, Cond.initialized RX5, Cond.code yX5_ofAxle cX5_ofAxle 4 (some .long), Cond.methodLink RX5 41 yX5_demandAxle, Cond.static yX5_demandAxle, Cond.code yX5_demandAxle cX5_demandAxle 1 none, Cond.methodLink RX5 45 yX5_isWithin, Cond.static yX5_isWithin, Cond.code yX5_isWithin cX5_isWithin 3 (some .boolean), Cond.methodLink RX5 98 yX5_demandIndex, Cond.static yX5_demandIndex, Cond.code yX5_demandIndex cX5_demandIndex 1 none, Cond.classLink RX5 276 "java/lang/IndexOutOfBoundsException", Cond.initialized "java/lang/IndexOutOfBoundsException", Cond.methodLink RX5 49 yX5_demandArgument, Cond.static yX5_demandArgument, Cond.code yX5_demandArgument cX5_demandArgument 1 none, Cond.classLink RX5 283 "java/lang/IllegalArgumentException", Cond.initialized "java/lang/IllegalArgumentException", Cond.methodLink RX5 130 yX5_axleFraction, Cond.instanceMethod yX5_axleFraction]
def wsL_rate_r2 : List Cond := [Cond.selects RX5 yX5_axleFraction yX5_axleFraction, Cond.code yX5_axleFraction cX5_axleFraction 3 (some (.object "Greenwheels$Fraction")), Cond.fieldLink RX5 10 "Greenwheels" "gearing" "LGreenwheels$Gearing;", Cond.fieldLink RX5 87 "Greenwheels" "turns" "I", Cond.methodLink RX5 293 yX2_rateOf, Cond.instanceMethod yX2_rateOf, Cond.selects RX2 yX2_rateOf yX2_rateOf, Cond.initialized RX2, Cond.code yX2_rateOf cX2_rateOf 3 (some (.object "Greenwheels$Fraction")), Cond.fieldLink RX2 33 "Greenwheels$Gearing" "byCrank" "[LGreenwheels$Fraction;", Cond.fieldLink RX2 30 "Greenwheels$Gearing" "still" "LGreenwheels$Fraction;", Cond.methodLink RX2 67 yX2_rateIn, Cond.static yX2_rateIn, Cond.code yX2_rateIn cX2_rateIn 2 (some (.object "Greenwheels$Fraction")), Cond.methodLink RX5 296 yX2_turnedAt, Cond.instanceMethod yX2_turnedAt, Cond.selects RX2 yX2_turnedAt yX2_turnedAt, Cond.code yX2_turnedAt cX2_turnedAt 3 (some (.object "Greenwheels$Fraction")), Cond.methodLink RX2 78 yX2_rateOf, Cond.methodLink RX2 82 yX1_times, Cond.instanceMethod yX1_times, Cond.selects RX1 yX1_times yX1_times, Cond.initialized RX1, Cond.code yX1_times cX1_times 5 (some (.object "Greenwheels$Fraction"))]
def wsL_rate_r3 : List Cond := [Cond.classLink RX1 14 RX1, Cond.instantiable RX1 2, Cond.fieldLink RX1 13 "Greenwheels$Fraction" "upper" "J", Cond.fieldLink RX1 19 "Greenwheels$Fraction" "lower" "J", Cond.methodLink RX1 22 yX1_init, Cond.instanceMethod yX1_init, Cond.code yX1_init cX1_init 7 none, Cond.methodLink RX1 1 objectInit, Cond.instanceMethod objectInit, Cond.code objectInit ⟨#[0xb1]⟩ 1 none, Cond.static yX5_commonDivisor, Cond.code yX5_commonDivisor cX5_commonDivisor 11 (some .long), Cond.methodLink RX5 299 yX1_withoutWhole, Cond.instanceMethod yX1_withoutWhole, Cond.selects RX1 yX1_withoutWhole yX1_withoutWhole, Cond.code yX1_withoutWhole cX1_withoutWhole 1 (some (.object "Greenwheels$Fraction")), Cond.methodLink RX1 25 yJ9_floorMod_f86c9, Cond.static yJ9_floorMod_f86c9, Cond.initialized RJ9, Cond.code yJ9_floorMod_f86c9 cJ9_floorMod_f86c9 6 (some .long), Cond.methodLink RX5 134 yX1_told, Cond.instanceMethod yX1_told, Cond.selects RX1 yX1_told yX1_told, Cond.code yX1_told cX1_told 2 (some .long)]
def wsL_rate : List Cond := .code yL_rate cL_rate 2 (some (.array .long)) :: ((wsL_rate_r1 ++ (wsL_rate_r2 ++ wsL_rate_r3)) ++ wsX50 ++ wsX20 ++ wsX10 ++ (vx_atS RX5 280 "java/lang/IndexOutOfBoundsException" ["java/lang/RuntimeException", "java/lang/Exception"]).filter goodWord ++ (vx_atS RX5 287 "java/lang/IllegalArgumentException" ["java/lang/RuntimeException", "java/lang/Exception"]).filter goodWord)
def wsL_isPeriod_r1 : List Cond := [Cond.classLink RL 71 "[J", Cond.methodLink RL 36 yL_rate, Cond.static yL_rate, Cond.initialized RL, Cond.code yL_rate cL_rate 2 (some (.array .long)), Cond.arrayClass .long, Cond.methodLink RL 67 yX5_ofAxle, Cond.instanceMethod yX5_ofAxle, Cond.selects RX5 yX5_ofAxle yX5_ofAxle, Cond.initialized RX5, Cond.code yX5_ofAxle cX5_ofAxle 4 (some .long), Cond.methodLink RX5 41 yX5_demandAxle, Cond.static yX5_demandAxle, Cond.code yX5_demandAxle cX5_demandAxle 1 none, Cond.methodLink RX5 45 yX5_isWithin, Cond.static yX5_isWithin, Cond.code yX5_isWithin cX5_isWithin 3 (some .boolean), Cond.methodLink RX5 98 yX5_demandIndex, Cond.static yX5_demandIndex, Cond.code yX5_demandIndex cX5_demandIndex 1 none, Cond.classLink RX5 276 "java/lang/IndexOutOfBoundsException", Cond.initialized "java/lang/IndexOutOfBoundsException", Cond.methodLink RX5 49 yX5_demandArgument, Cond.static yX5_demandArgument]
def wsL_isPeriod_r2 : List Cond := [Cond.code yX5_demandArgument cX5_demandArgument 1 none, Cond.classLink RX5 283 "java/lang/IllegalArgumentException", Cond.initialized "java/lang/IllegalArgumentException", Cond.methodLink RX5 130 yX5_axleFraction, Cond.instanceMethod yX5_axleFraction, Cond.selects RX5 yX5_axleFraction yX5_axleFraction, Cond.code yX5_axleFraction cX5_axleFraction 3 (some (.object "Greenwheels$Fraction")), Cond.fieldLink RX5 10 "Greenwheels" "gearing" "LGreenwheels$Gearing;", Cond.fieldLink RX5 87 "Greenwheels" "turns" "I", Cond.methodLink RX5 293 yX2_rateOf, Cond.instanceMethod yX2_rateOf, Cond.selects RX2 yX2_rateOf yX2_rateOf, Cond.initialized RX2, Cond.code yX2_rateOf cX2_rateOf 3 (some (.object "Greenwheels$Fraction")), Cond.fieldLink RX2 33 "Greenwheels$Gearing" "byCrank" "[LGreenwheels$Fraction;", Cond.fieldLink RX2 30 "Greenwheels$Gearing" "still" "LGreenwheels$Fraction;", Cond.methodLink RX2 67 yX2_rateIn, Cond.static yX2_rateIn, Cond.code yX2_rateIn cX2_rateIn 2 (some (.object "Greenwheels$Fraction")), Cond.methodLink RX5 296 yX2_turnedAt, Cond.instanceMethod yX2_turnedAt, Cond.selects RX2 yX2_turnedAt yX2_turnedAt, Cond.code yX2_turnedAt cX2_turnedAt 3 (some (.object "Greenwheels$Fraction")), Cond.methodLink RX2 78 yX2_rateOf]
def wsL_isPeriod_r3 : List Cond := [Cond.methodLink RX2 82 yX1_times, Cond.instanceMethod yX1_times, Cond.selects RX1 yX1_times yX1_times, Cond.initialized RX1, Cond.code yX1_times cX1_times 5 (some (.object "Greenwheels$Fraction")), Cond.classLink RX1 14 RX1, Cond.instantiable RX1 2, Cond.fieldLink RX1 13 "Greenwheels$Fraction" "upper" "J", Cond.fieldLink RX1 19 "Greenwheels$Fraction" "lower" "J", Cond.methodLink RX1 22 yX1_init, Cond.instanceMethod yX1_init, Cond.code yX1_init cX1_init 7 none, Cond.methodLink RX1 1 objectInit, Cond.instanceMethod objectInit, Cond.code objectInit ⟨#[0xb1]⟩ 1 none, Cond.static yX5_commonDivisor, Cond.code yX5_commonDivisor cX5_commonDivisor 11 (some .long), Cond.methodLink RX5 299 yX1_withoutWhole, Cond.instanceMethod yX1_withoutWhole, Cond.selects RX1 yX1_withoutWhole yX1_withoutWhole, Cond.code yX1_withoutWhole cX1_withoutWhole 1 (some (.object "Greenwheels$Fraction")), Cond.methodLink RX1 25 yJ9_floorMod_f86c9, Cond.static yJ9_floorMod_f86c9, Cond.initialized RJ9]
def wsL_isPeriod_r4 : List Cond := [Cond.code yJ9_floorMod_f86c9 cJ9_floorMod_f86c9 6 (some .long), Cond.methodLink RX5 134 yX1_told, Cond.instanceMethod yX1_told, Cond.selects RX1 yX1_told yX1_told, Cond.code yX1_told cX1_told 2 (some .long)]
def wsL_isPeriod : List Cond := .code yL_isPeriod cL_isPeriod 9 (some .boolean) :: ((wsL_isPeriod_r1 ++ (wsL_isPeriod_r2 ++ (wsL_isPeriod_r3 ++ wsL_isPeriod_r4))) ++ wsX50 ++ wsX20 ++ wsX10 ++ (vx_atS RX5 280 "java/lang/IndexOutOfBoundsException" ["java/lang/RuntimeException", "java/lang/Exception"]).filter goodWord ++ (vx_atS RX5 287 "java/lang/IllegalArgumentException" ["java/lang/RuntimeException", "java/lang/Exception"]).filter goodWord)
def wsL_hangs_r1 : List Cond := [Cond.methodLink RL 54 yX5_ofClaim, Cond.instanceMethod yX5_ofClaim, Cond.selects RX5 yX5_ofClaim yX5_ofClaim, Cond.initialized RX5, Cond.code yX5_ofClaim cX5_ofClaim 3 (some .int), Cond.fieldLink RX5 30 "Greenwheels" "claims" "LGreenwheels$Claims;", Cond.methodLink RX5 119 yX5_demandClaim, Cond.instanceMethod yX5_demandClaim, Cond.selects RX5 yX5_demandClaim yX5_demandClaim, Cond.code yX5_demandClaim cX5_demandClaim 2 none, Cond.fieldLink RX5 113 "Greenwheels$Claims" "count" "I", Cond.methodLink RX5 45 yX5_isWithin, Cond.static yX5_isWithin, Cond.code yX5_isWithin cX5_isWithin 3 (some .boolean), Cond.methodLink RX5 98 yX5_demandIndex, Cond.static yX5_demandIndex, Cond.code yX5_demandIndex cX5_demandIndex 1 none, Cond.classLink RX5 276 "java/lang/IndexOutOfBoundsException", Cond.initialized "java/lang/IndexOutOfBoundsException", Cond.methodLink RX5 49 yX5_demandArgument, Cond.static yX5_demandArgument, Cond.code yX5_demandArgument cX5_demandArgument 1 none, Cond.classLink RX5 283 "java/lang/IllegalArgumentException", Cond.initialized "java/lang/IllegalArgumentException"]
def wsL_hangs_r2 : List Cond := [Cond.methodLink RX5 172 yX0_hangsOn, Cond.instanceMethod yX0_hangsOn, Cond.selects RX0 yX0_hangsOn yX0_hangsOn, Cond.initialized RX0, Cond.code yX0_hangsOn cX0_hangsOn 2 (some .int), Cond.fieldLink RX0 9 "Greenwheels$Claims" "near" "[I", Cond.static yX5_at, Cond.code yX5_at cX5_at 2 (some .int), Cond.methodLink RX5 175 yX0_isWithdrawn, Cond.instanceMethod yX0_isWithdrawn, Cond.selects RX0 yX0_isWithdrawn yX0_isWithdrawn, Cond.code yX0_isWithdrawn cX0_isWithdrawn 2 (some .boolean), Cond.fieldLink RX0 34 "Greenwheels$Claims" "withdrawn" "I", Cond.static yX5_isIn, Cond.code yX5_isIn cX5_isIn 2 (some .boolean), Cond.methodLink RX5 178 yX0_isStanding, Cond.instanceMethod yX0_isStanding, Cond.selects RX0 yX0_isStanding yX0_isStanding, Cond.code yX0_isStanding cX0_isStanding 2 (some .boolean), Cond.methodLink RX0 37 yX0_standingWithout, Cond.instanceMethod yX0_standingWithout, Cond.selects RX0 yX0_standingWithout yX0_standingWithout, Cond.code yX0_standingWithout cX0_standingWithout 4 (some .int), Cond.fieldLink RX0 18 "Greenwheels$Claims" "count" "I"]
def wsL_hangs_r3 : List Cond := [Cond.methodLink RX5 181 yX0_fallingWith, Cond.instanceMethod yX0_fallingWith, Cond.selects RX0 yX0_fallingWith yX0_fallingWith, Cond.code yX0_fallingWith cX0_fallingWith 2 (some .int), Cond.methodLink RX0 46 yX0_countStanding, Cond.instanceMethod yX0_countStanding, Cond.selects RX0 yX0_countStanding yX0_countStanding, Cond.code yX0_countStanding cX0_countStanding 1 (some .int), Cond.methodLink RX0 41 yJ6_bitCount_0f7a4, Cond.static yJ6_bitCount_0f7a4, Cond.initialized RJ6, Cond.code yJ6_bitCount_0f7a4 cJ6_bitCount_0f7a4 1 (some .int), Cond.constant RJ6 265 (1431655765), Cond.constant RJ6 266 (858993459), Cond.constant RJ6 267 (252645135), Cond.methodLink RL 57 yL_hangs, Cond.static yL_hangs, Cond.initialized RL]
def wsL_hangs : List Cond := .code yL_hangs cL_hangs 3 (some .boolean) :: ((wsL_hangs_r1 ++ (wsL_hangs_r2 ++ wsL_hangs_r3)) ++ wsX50 ++ wsX00 ++ (vx_atS RX5 280 "java/lang/IndexOutOfBoundsException" ["java/lang/RuntimeException", "java/lang/Exception"]).filter goodWord ++ (vx_atS RX5 287 "java/lang/IllegalArgumentException" ["java/lang/RuntimeException", "java/lang/Exception"]).filter goodWord)
def wsL_law0_r1 : List Cond := [Cond.classLink RL 9 RX5, Cond.instantiable RX5 8, Cond.initialized RX5, Cond.constantLong RL 48 (1000), Cond.methodLink RL 11 yX5_init, Cond.instanceMethod yX5_init, Cond.code yX5_init cX5_init 2 none, Cond.methodLink RX5 1 objectInit, Cond.instanceMethod objectInit, Cond.code objectInit ⟨#[0xb1]⟩ 1 none, Cond.classLink RX5 7 RX2, Cond.instantiable RX2 8, Cond.initialized RX2, Cond.fieldLink RX5 10 "Greenwheels" "gearing" "LGreenwheels$Gearing;", Cond.arrayClass .int, Cond.fieldLink RX5 16 "Greenwheels" "cells" "[I", Cond.classLink RX5 20 RX3, Cond.instantiable RX3 7, Cond.initialized RX3, Cond.fieldLink RX5 23 "Greenwheels" "lumps" "LGreenwheels$Lumps;", Cond.classLink RX5 27 RX0, Cond.instantiable RX0 4, Cond.initialized RX0, Cond.fieldLink RX5 30 "Greenwheels" "claims" "LGreenwheels$Claims;"]
def wsL_law0_r2 : List Cond := [Cond.classLink RX5 34 RX4, Cond.instantiable RX4 5, Cond.initialized RX4, Cond.fieldLink RX5 37 "Greenwheels" "search" "LGreenwheels$TrainSearch;", Cond.methodLink RX5 9 yX2_init, Cond.instanceMethod yX2_init, Cond.code yX2_init cX2_init 1 none, Cond.methodLink RX2 3 objectInit, Cond.fieldLink RX2 9 "Greenwheels$Gearing" "axles" "[I", Cond.fieldLink RX2 15 "Greenwheels$Gearing" "teeth" "[I", Cond.fieldLink RX2 18 "Greenwheels$Gearing" "meshSets" "[I", Cond.classLink RX2 21 RX1, Cond.instantiable RX1 2, Cond.initialized RX1, Cond.fieldLink RX2 26 "Greenwheels$Gearing" "whole" "LGreenwheels$Fraction;", Cond.fieldLink RX2 30 "Greenwheels$Gearing" "still" "LGreenwheels$Fraction;", Cond.fieldLink RX2 33 "Greenwheels$Gearing" "byCrank" "[LGreenwheels$Fraction;", Cond.fieldLink RX2 37 "Greenwheels$Gearing" "byAnother" "[LGreenwheels$Fraction;", Cond.methodLink RX2 23 yX1_init, Cond.instanceMethod yX1_init, Cond.code yX1_init cX1_init 7 none, Cond.methodLink RX1 1 objectInit, Cond.fieldLink RX1 13 "Greenwheels$Fraction" "upper" "J", Cond.fieldLink RX1 19 "Greenwheels$Fraction" "lower" "J"]
def wsL_law0_r3 : List Cond := [Cond.static yX5_commonDivisor, Cond.code yX5_commonDivisor cX5_commonDivisor 11 (some .long), Cond.methodLink RX2 40 yX2_spreadRates, Cond.instanceMethod yX2_spreadRates, Cond.selects RX2 yX2_spreadRates yX2_spreadRates, Cond.code yX2_spreadRates cX2_spreadRates 6 none, Cond.fieldLink RX2 44 "Greenwheels$Gearing" "wheels" "I", Cond.methodLink RX2 60 yX2_meshedWith, Cond.instanceMethod yX2_meshedWith, Cond.selects RX2 yX2_meshedWith yX2_meshedWith, Cond.code yX2_meshedWith cX2_meshedWith 2 (some .int), Cond.static yX5_at, Cond.code yX5_at cX5_at 2 (some .int), Cond.methodLink RX2 107 yX2_spreadFromWheel, Cond.instanceMethod yX2_spreadFromWheel, Cond.selects RX2 yX2_spreadFromWheel yX2_spreadFromWheel, Cond.code yX2_spreadFromWheel cX2_spreadFromWheel 7 (some .boolean), Cond.methodLink RX2 56 yX2_axleOf, Cond.instanceMethod yX2_axleOf, Cond.selects RX2 yX2_axleOf yX2_axleOf, Cond.code yX2_axleOf cX2_axleOf 2 (some .int), Cond.methodLink RX2 67 yX2_rateIn, Cond.static yX2_rateIn, Cond.code yX2_rateIn cX2_rateIn 2 (some (.object "Greenwheels$Fraction"))]
def wsL_law0_r4 : List Cond := [Cond.methodLink RX2 111 yX2_areMeshed, Cond.instanceMethod yX2_areMeshed, Cond.selects RX2 yX2_areMeshed yX2_areMeshed, Cond.code yX2_areMeshed cX2_areMeshed 3 (some .boolean), Cond.static yX5_isIn, Cond.code yX5_isIn cX5_isIn 2 (some .boolean), Cond.methodLink RX2 71 yX2_teethOf, Cond.instanceMethod yX2_teethOf, Cond.selects RX2 yX2_teethOf yX2_teethOf, Cond.code yX2_teethOf cX2_teethOf 2 (some .int), Cond.methodLink RX2 82 yX1_times, Cond.instanceMethod yX1_times, Cond.selects RX1 yX1_times yX1_times, Cond.code yX1_times cX1_times 5 (some (.object "Greenwheels$Fraction")), Cond.classLink RX1 14 RX1, Cond.methodLink RX1 22 yX1_init, Cond.methodLink RX5 22 yX3_init, Cond.instanceMethod yX3_init, Cond.code yX3_init cX3_init 2 none, Cond.methodLink RX3 3 objectInit, Cond.fieldLink RX3 9 "Greenwheels$Lumps" "pieces" "[I", Cond.fieldLink RX3 15 "Greenwheels$Lumps" "teeth" "[I", Cond.fieldLink RX3 18 "Greenwheels$Lumps" "degrees" "[I", Cond.fieldLink RX3 21 "Greenwheels$Lumps" "doubts" "[I"]
def wsL_law0_r5 : List Cond := [Cond.fieldLink RX3 24 "Greenwheels$Lumps" "agreeing" "[I", Cond.fieldLink RX3 27 "Greenwheels$Lumps" "least" "[I", Cond.fieldLink RX3 30 "Greenwheels$Lumps" "greatest" "[I", Cond.methodLink RX3 33 yX3_weigh, Cond.instanceMethod yX3_weigh, Cond.selects RX3 yX3_weigh yX3_weigh, Cond.code yX3_weigh cX3_weigh 6 none, Cond.methodLink RX3 49 yX3_agreesWithAll, Cond.instanceMethod yX3_agreesWithAll, Cond.selects RX3 yX3_agreesWithAll yX3_agreesWithAll, Cond.code yX3_agreesWithAll cX3_agreesWithAll 7 (some .boolean), Cond.methodLink RX3 53 Lib.Math.abs.name, Cond.static Lib.Math.abs.name, Cond.initialized "java/lang/Math", Cond.code Lib.Math.abs.name Lib.Math.abs.code 1 (some .int), Cond.methodLink RX3 41 yX3_piecesOf, Cond.instanceMethod yX3_piecesOf, Cond.selects RX3 yX3_piecesOf yX3_piecesOf, Cond.code yX3_piecesOf cX3_piecesOf 2 (some .int), Cond.static yX5_put, Cond.code yX5_put cX5_put 3 none, Cond.methodLink RX5 29 yX0_init, Cond.instanceMethod yX0_init, Cond.code yX0_init cX0_init 1 none]
def wsL_law0_r6 : List Cond := [Cond.methodLink RX0 3 objectInit, Cond.fieldLink RX0 9 "Greenwheels$Claims" "near" "[I", Cond.fieldLink RX0 15 "Greenwheels$Claims" "nearAndFar" "[I", Cond.methodLink RX5 36 yX4_init, Cond.instanceMethod yX4_init, Cond.code yX4_init cX4_init 1 none, Cond.methodLink RX4 3 objectInit, Cond.methodLink RX4 9 yX4_forget, Cond.instanceMethod yX4_forget, Cond.selects RX4 yX4_forget yX4_forget, Cond.code yX4_forget cX4_forget 1 none, Cond.fieldLink RX4 22 "Greenwheels$TrainSearch" "pairs" "I", Cond.fieldLink RX4 29 "Greenwheels$TrainSearch" "a" "I", Cond.fieldLink RX4 32 "Greenwheels$TrainSearch" "b" "I", Cond.fieldLink RX4 35 "Greenwheels$TrainSearch" "c" "I", Cond.fieldLink RX4 38 "Greenwheels$TrainSearch" "d" "I", Cond.methodLink RL 12 yL_cell, Cond.static yL_cell, Cond.initialized RL, Cond.code yL_cell cL_cell 2 (some .int), Cond.constant RL 8 (790386105), Cond.methodLink RL 18 yL_below, Cond.static yL_below, Cond.code yL_below cL_below 2 (some .int)]
def wsL_law0_r7 : List Cond := [Cond.constant RL 7 (2147483647), Cond.methodLink RL 22 yX5_wheel, Cond.instanceMethod yX5_wheel, Cond.selects RX5 yX5_wheel yX5_wheel, Cond.code yX5_wheel cX5_wheel 3 (some .int), Cond.fieldLink RX5 53 "Greenwheels$Gearing" "wheels" "I", Cond.methodLink RX5 41 yX5_demandAxle, Cond.static yX5_demandAxle, Cond.code yX5_demandAxle cX5_demandAxle 1 none, Cond.methodLink RX5 45 yX5_isWithin, Cond.static yX5_isWithin, Cond.code yX5_isWithin cX5_isWithin 3 (some .boolean), Cond.methodLink RX5 98 yX5_demandIndex, Cond.static yX5_demandIndex, Cond.code yX5_demandIndex cX5_demandIndex 1 none, Cond.classLink RX5 276 "java/lang/IndexOutOfBoundsException", Cond.initialized "java/lang/IndexOutOfBoundsException", Cond.methodLink RX5 49 yX5_demandArgument, Cond.static yX5_demandArgument, Cond.code yX5_demandArgument cX5_demandArgument 1 none, Cond.classLink RX5 283 "java/lang/IllegalArgumentException", Cond.initialized "java/lang/IllegalArgumentException", Cond.methodLink RX5 57 yX5_demandState, Cond.static yX5_demandState]
def wsL_law0_r8 : List Cond := [Cond.code yX5_demandState cX5_demandState 1 none, Cond.classLink RX5 288 "java/lang/IllegalStateException", Cond.initialized "java/lang/IllegalStateException", Cond.methodLink RX5 60 yX2_addWheel, Cond.instanceMethod yX2_addWheel, Cond.selects RX2 yX2_addWheel yX2_addWheel, Cond.code yX2_addWheel cX2_addWheel 4 (some .int), Cond.methodLink RL 25 yL_act, Cond.static yL_act, Cond.codeWith yL_act cL_act 4 none [(0, 230, 233, 93), (0, 230, 235, 95), (0, 230, 237, 97)], Cond.classLink RL 93 "java/lang/IndexOutOfBoundsException", Cond.classLink RL 95 "java/lang/IllegalArgumentException", Cond.classLink RL 97 "java/lang/IllegalStateException", Cond.methodLink RL 73 yX5_mesh, Cond.instanceMethod yX5_mesh, Cond.selects RX5 yX5_mesh yX5_mesh, Cond.code yX5_mesh cX5_mesh 3 (some .boolean), Cond.fieldLink RX5 74 "Greenwheels" "jams" "I", Cond.methodLink RX5 64 yX5_demandWheel, Cond.instanceMethod yX5_demandWheel, Cond.selects RX5 yX5_demandWheel yX5_demandWheel, Cond.code yX5_demandWheel cX5_demandWheel 2 none, Cond.methodLink RX5 67 yX2_areOnOneAxle, Cond.instanceMethod yX2_areOnOneAxle]
def wsL_law0_r9 : List Cond := [Cond.selects RX2 yX2_areOnOneAxle yX2_areOnOneAxle, Cond.code yX2_areOnOneAxle cX2_areOnOneAxle 3 (some .boolean), Cond.methodLink RX5 71 yX2_wouldJam, Cond.instanceMethod yX2_wouldJam, Cond.selects RX2 yX2_wouldJam yX2_wouldJam, Cond.code yX2_wouldJam cX2_wouldJam 4 (some .boolean), Cond.methodLink RX2 74 yX1_isSameAs, Cond.instanceMethod yX1_isSameAs, Cond.selects RX1 yX1_isSameAs yX1_isSameAs, Cond.code yX1_isSameAs cX1_isSameAs 2 (some .boolean), Cond.methodLink RX5 77 yX2_join, Cond.instanceMethod yX2_join, Cond.selects RX2 yX2_join yX2_join, Cond.code yX2_join cX2_join 3 none, Cond.methodLink RL 77 yX5_part, Cond.instanceMethod yX5_part, Cond.selects RX5 yX5_part yX5_part, Cond.code yX5_part cX5_part 4 (some .boolean), Cond.methodLink RX5 81 yX2_areMeshed, Cond.methodLink RX5 84 yX2_separate, Cond.instanceMethod yX2_separate, Cond.selects RX2 yX2_separate yX2_separate, Cond.code yX2_separate cX2_separate 3 none, Cond.methodLink RL 80 yX5_turn]
def wsL_law0_r10 : List Cond := [Cond.instanceMethod yX5_turn, Cond.selects RX5 yX5_turn yX5_turn, Cond.code yX5_turn cX5_turn 2 (some .int), Cond.fieldLink RX5 87 "Greenwheels" "turns" "I", Cond.methodLink RL 29 yX5_house, Cond.instanceMethod yX5_house, Cond.selects RX5 yX5_house yX5_house, Cond.code yX5_house cX5_house 2 (some .int), Cond.fieldLink RX5 113 "Greenwheels$Claims" "count" "I", Cond.fieldLink RX5 193 "Greenwheels" "refused" "I", Cond.methodLink RX5 184 yX2_countMeshes, Cond.instanceMethod yX2_countMeshes, Cond.selects RX2 yX2_countMeshes yX2_countMeshes, Cond.code yX2_countMeshes cX2_countMeshes 3 (some .int), Cond.methodLink RX2 86 yJ6_bitCount_0f7a4, Cond.static yJ6_bitCount_0f7a4, Cond.initialized RJ6, Cond.code yJ6_bitCount_0f7a4 cJ6_bitCount_0f7a4 1 (some .int), Cond.constant RJ6 265 (1431655765), Cond.constant RJ6 266 (858993459), Cond.constant RJ6 267 (252645135), Cond.methodLink RX5 187 yX2_countMoved, Cond.instanceMethod yX2_countMoved, Cond.selects RX2 yX2_countMoved yX2_countMoved]
def wsL_law0_r11 : List Cond := [Cond.code yX2_countMoved cX2_countMoved 3 (some .int), Cond.methodLink RX2 91 yX2_isMoved, Cond.instanceMethod yX2_isMoved, Cond.selects RX2 yX2_isMoved yX2_isMoved, Cond.code yX2_isMoved cX2_isMoved 2 (some .boolean), Cond.methodLink RX5 126 yX0_countStanding, Cond.instanceMethod yX0_countStanding, Cond.selects RX0 yX0_countStanding yX0_countStanding, Cond.code yX0_countStanding cX0_countStanding 1 (some .int), Cond.fieldLink RX0 34 "Greenwheels$Claims" "withdrawn" "I", Cond.methodLink RX0 37 yX0_standingWithout, Cond.instanceMethod yX0_standingWithout, Cond.selects RX0 yX0_standingWithout yX0_standingWithout, Cond.code yX0_standingWithout cX0_standingWithout 4 (some .int), Cond.fieldLink RX0 18 "Greenwheels$Claims" "count" "I", Cond.methodLink RX0 41 yJ6_bitCount_0f7a4, Cond.methodLink RX5 190 yX3_countPieces, Cond.instanceMethod yX3_countPieces, Cond.selects RX3 yX3_countPieces yX3_countPieces, Cond.code yX3_countPieces cX3_countPieces 3 (some .int), Cond.methodLink RL 83 yX5_claim, Cond.instanceMethod yX5_claim, Cond.selects RX5 yX5_claim yX5_claim, Cond.code yX5_claim cX5_claim 2 (some .int)]
def wsL_law0_r12 : List Cond := [Cond.methodLink RX5 109 yX0_isSetOfThem, Cond.instanceMethod yX0_isSetOfThem, Cond.selects RX0 yX0_isSetOfThem yX0_isSetOfThem, Cond.code yX0_isSetOfThem cX0_isSetOfThem 2 (some .boolean), Cond.methodLink RX5 116 yX0_addClaim, Cond.instanceMethod yX0_addClaim, Cond.selects RX0 yX0_addClaim yX0_addClaim, Cond.code yX0_addClaim cX0_addClaim 5 (some .int), Cond.methodLink RL 86 yX5_withdraw, Cond.instanceMethod yX5_withdraw, Cond.selects RX5 yX5_withdraw yX5_withdraw, Cond.code yX5_withdraw cX5_withdraw 3 (some .int), Cond.methodLink RX5 119 yX5_demandClaim, Cond.instanceMethod yX5_demandClaim, Cond.selects RX5 yX5_demandClaim yX5_demandClaim, Cond.code yX5_demandClaim cX5_demandClaim 2 none, Cond.methodLink RX5 122 yX0_setWithdrawn, Cond.instanceMethod yX0_setWithdrawn, Cond.selects RX0 yX0_setWithdrawn yX0_setWithdrawn, Cond.code yX0_setWithdrawn cX0_setWithdrawn 3 none, Cond.methodLink RL 90 yX5_dial, Cond.instanceMethod yX5_dial, Cond.selects RX5 yX5_dial yX5_dial, Cond.code yX5_dial cX5_dial 4 (some .int)]
def wsL_law0_r13 : List Cond := [Cond.methodLink RX5 90 yX5_at, Cond.methodLink RX5 94 yX5_put, Cond.methodLink RL 33 yX5_ofWheel, Cond.instanceMethod yX5_ofWheel, Cond.selects RX5 yX5_ofWheel yX5_ofWheel, Cond.code yX5_ofWheel cX5_ofWheel 3 (some .int), Cond.methodLink RX5 140 yX2_axleOf, Cond.methodLink RX5 143 yX2_teethOf, Cond.methodLink RX5 146 yX2_meshedWith, Cond.methodLink RX5 149 yX2_isMoved, Cond.methodLink RL 36 yL_rate, Cond.static yL_rate, Cond.code yL_rate cL_rate 2 (some (.array .long)), Cond.arrayClass .long, Cond.methodLink RL 67 yX5_ofAxle, Cond.instanceMethod yX5_ofAxle, Cond.selects RX5 yX5_ofAxle yX5_ofAxle, Cond.code yX5_ofAxle cX5_ofAxle 4 (some .long), Cond.methodLink RX5 130 yX5_axleFraction, Cond.instanceMethod yX5_axleFraction, Cond.selects RX5 yX5_axleFraction yX5_axleFraction, Cond.code yX5_axleFraction cX5_axleFraction 3 (some (.object "Greenwheels$Fraction")), Cond.methodLink RX5 293 yX2_rateOf, Cond.instanceMethod yX2_rateOf]
def wsL_law0_r14 : List Cond := [Cond.selects RX2 yX2_rateOf yX2_rateOf, Cond.code yX2_rateOf cX2_rateOf 3 (some (.object "Greenwheels$Fraction")), Cond.methodLink RX5 296 yX2_turnedAt, Cond.instanceMethod yX2_turnedAt, Cond.selects RX2 yX2_turnedAt yX2_turnedAt, Cond.code yX2_turnedAt cX2_turnedAt 3 (some (.object "Greenwheels$Fraction")), Cond.methodLink RX2 78 yX2_rateOf, Cond.methodLink RX5 299 yX1_withoutWhole, Cond.instanceMethod yX1_withoutWhole, Cond.selects RX1 yX1_withoutWhole yX1_withoutWhole, Cond.code yX1_withoutWhole cX1_withoutWhole 1 (some (.object "Greenwheels$Fraction")), Cond.methodLink RX1 25 yJ9_floorMod_f86c9, Cond.static yJ9_floorMod_f86c9, Cond.initialized RJ9, Cond.code yJ9_floorMod_f86c9 cJ9_floorMod_f86c9 6 (some .long), Cond.methodLink RX5 134 yX1_told, Cond.instanceMethod yX1_told, Cond.selects RX1 yX1_told yX1_told, Cond.code yX1_told cX1_told 2 (some .long), Cond.methodLink RL 40 yX5_passed, Cond.instanceMethod yX5_passed, Cond.selects RX5 yX5_passed yX5_passed, Cond.code yX5_passed cX5_passed 3 (some .long), Cond.methodLink RX5 152 yX5_passedBy]
def wsL_law0_r15 : List Cond := [Cond.instanceMethod yX5_passedBy, Cond.selects RX5 yX5_passedBy yX5_passedBy, Cond.code yX5_passedBy cX5_passedBy 2 (some (.object "Greenwheels$Fraction")), Cond.methodLink RX5 303 yX1_times, Cond.methodLink RL 44 yX5_period, Cond.instanceMethod yX5_period, Cond.selects RX5 yX5_period yX5_period, Cond.code yX5_period cX5_period 1 (some .long), Cond.methodLink RX5 156 yX2_turnsToReturn, Cond.instanceMethod yX2_turnsToReturn, Cond.selects RX2 yX2_turnsToReturn yX2_turnsToReturn, Cond.code yX2_turnsToReturn cX2_turnsToReturn 8 (some .long), Cond.fieldLink RX2 95 "Greenwheels$Fraction" "lower" "J", Cond.methodLink RL 50 yL_isPeriod, Cond.static yL_isPeriod, Cond.code yL_isPeriod cL_isPeriod 9 (some .boolean), Cond.classLink RL 71 "[J", Cond.methodLink RL 54 yX5_ofClaim, Cond.instanceMethod yX5_ofClaim, Cond.selects RX5 yX5_ofClaim yX5_ofClaim, Cond.code yX5_ofClaim cX5_ofClaim 3 (some .int), Cond.methodLink RX5 172 yX0_hangsOn, Cond.instanceMethod yX0_hangsOn, Cond.selects RX0 yX0_hangsOn yX0_hangsOn]
def wsL_law0_r16 : List Cond := [Cond.code yX0_hangsOn cX0_hangsOn 2 (some .int), Cond.methodLink RX5 175 yX0_isWithdrawn, Cond.instanceMethod yX0_isWithdrawn, Cond.selects RX0 yX0_isWithdrawn yX0_isWithdrawn, Cond.code yX0_isWithdrawn cX0_isWithdrawn 2 (some .boolean), Cond.methodLink RX5 178 yX0_isStanding, Cond.instanceMethod yX0_isStanding, Cond.selects RX0 yX0_isStanding yX0_isStanding, Cond.code yX0_isStanding cX0_isStanding 2 (some .boolean), Cond.methodLink RX5 181 yX0_fallingWith, Cond.instanceMethod yX0_fallingWith, Cond.selects RX0 yX0_fallingWith yX0_fallingWith, Cond.code yX0_fallingWith cX0_fallingWith 2 (some .int), Cond.methodLink RX0 46 yX0_countStanding, Cond.methodLink RL 57 yL_hangs, Cond.static yL_hangs, Cond.code yL_hangs cL_hangs 3 (some .boolean), Cond.methodLink RL 60 yX5_digest, Cond.instanceMethod yX5_digest, Cond.selects RX5 yX5_digest yX5_digest, Cond.code yX5_digest cX5_digest 5 (some .long), Cond.constantLong RX5 248 (5087), Cond.methodLink RX5 250 yX5_house, Cond.methodLink RX5 253 yX5_mixed]
def wsL_law0_r17 : List Cond := [Cond.static yX5_mixed, Cond.code yX5_mixed cX5_mixed 4 (some .long), Cond.constantLong RX5 340 (31), Cond.methodLink RX5 257 yX5_mixedAxles, Cond.instanceMethod yX5_mixedAxles, Cond.selects RX5 yX5_mixedAxles yX5_mixedAxles, Cond.code yX5_mixedAxles cX5_mixedAxles 7 (some .long), Cond.methodLink RX5 326 yX5_mixedFraction, Cond.static yX5_mixedFraction, Cond.code yX5_mixedFraction cX5_mixedFraction 3 (some .long), Cond.fieldLink RX5 333 "Greenwheels$Fraction" "upper" "J", Cond.fieldLink RX5 337 "Greenwheels$Fraction" "lower" "J", Cond.methodLink RX5 160 yX5_cellAt, Cond.instanceMethod yX5_cellAt, Cond.selects RX5 yX5_cellAt yX5_cellAt, Cond.code yX5_cellAt cX5_cellAt 3 (some .int), Cond.methodLink RX5 307 yX1_cellOf, Cond.instanceMethod yX1_cellOf, Cond.selects RX1 yX1_cellOf yX1_cellOf, Cond.code yX1_cellOf cX1_cellOf 2 (some .int), Cond.methodLink RX5 261 yX5_mixedWheels, Cond.instanceMethod yX5_mixedWheels, Cond.selects RX5 yX5_mixedWheels yX5_mixedWheels, Cond.code yX5_mixedWheels cX5_mixedWheels 7 (some .long)]
def wsL_law0_r18 : List Cond := [Cond.methodLink RX5 330 yX5_ofWheel, Cond.methodLink RX5 264 yX5_period, Cond.methodLink RX5 267 yX5_ofLump, Cond.instanceMethod yX5_ofLump, Cond.selects RX5 yX5_ofLump yX5_ofLump, Cond.code yX5_ofLump cX5_ofLump 3 (some .int), Cond.methodLink RX5 101 yX3_piecesOf, Cond.methodLink RX5 163 yX3_agreeingOf, Cond.instanceMethod yX3_agreeingOf, Cond.selects RX3 yX3_agreeingOf yX3_agreeingOf, Cond.code yX3_agreeingOf cX3_agreeingOf 2 (some .int), Cond.methodLink RX5 166 yX3_leastOf, Cond.instanceMethod yX3_leastOf, Cond.selects RX3 yX3_leastOf yX3_leastOf, Cond.code yX3_leastOf cX3_leastOf 2 (some .int), Cond.methodLink RX5 169 yX3_greatestOf, Cond.instanceMethod yX3_greatestOf, Cond.selects RX3 yX3_greatestOf yX3_greatestOf, Cond.code yX3_greatestOf cX3_greatestOf 2 (some .int), Cond.methodLink RX5 270 yX5_ofClaim, Cond.methodLink RX5 273 yX5_isSound, Cond.instanceMethod yX5_isSound, Cond.selects RX5 yX5_isSound yX5_isSound, Cond.code yX5_isSound cX5_isSound 1 (some .boolean)]
def wsL_law0_r19 : List Cond := [Cond.methodLink RX5 238 yX5_doMeshesPassAlike, Cond.instanceMethod yX5_doMeshesPassAlike, Cond.selects RX5 yX5_doMeshesPassAlike yX5_doMeshesPassAlike, Cond.code yX5_doMeshesPassAlike cX5_doMeshesPassAlike 4 (some .boolean), Cond.methodLink RX5 322 yX1_isOppositeOf, Cond.instanceMethod yX1_isOppositeOf, Cond.selects RX1 yX1_isOppositeOf yX1_isOppositeOf, Cond.code yX1_isOppositeOf cX1_isOppositeOf 2 (some .boolean), Cond.methodLink RX5 242 yX2_isPeriodRight, Cond.instanceMethod yX2_isPeriodRight, Cond.selects RX2 yX2_isPeriodRight yX2_isPeriodRight, Cond.code yX2_isPeriodRight cX2_isPeriodRight 6 (some .boolean), Cond.methodLink RX2 103 yX2_turnsToReturn, Cond.methodLink RX5 245 yX0_areConsistent, Cond.instanceMethod yX0_areConsistent, Cond.selects RX0 yX0_areConsistent yX0_areConsistent, Cond.code yX0_areConsistent cX0_areConsistent 4 (some .boolean), Cond.methodLink RL 63 yX5_isSound]
def wsL_law0 : List Cond := (wsL_law0_r1 ++ (wsL_law0_r2 ++ (wsL_law0_r3 ++ (wsL_law0_r4 ++ (wsL_law0_r5 ++ (wsL_law0_r6 ++ (wsL_law0_r7 ++ (wsL_law0_r8 ++ (wsL_law0_r9 ++ (wsL_law0_r10 ++ (wsL_law0_r11 ++ (wsL_law0_r12 ++ (wsL_law0_r13 ++ (wsL_law0_r14 ++ (wsL_law0_r15 ++ (wsL_law0_r16 ++ (wsL_law0_r17 ++ (wsL_law0_r18 ++ wsL_law0_r19)))))))))))))))))) ++ wsX50 ++ wsX20 ++ wsX30 ++ wsX00 ++ wsX40 ++ wsX10 ++ ([] : List Cond)
def wsL_law : List Cond := wsL_law0 ++ (vx_atS RX5 280 "java/lang/IndexOutOfBoundsException" ["java/lang/RuntimeException", "java/lang/Exception"]).filter goodWord ++ (vx_atS RX5 287 "java/lang/IllegalArgumentException" ["java/lang/RuntimeException", "java/lang/Exception"]).filter goodWord ++ (vx_atS RX5 292 "java/lang/IllegalStateException" ["java/lang/RuntimeException", "java/lang/Exception"]).filter goodWord
abbrev vwCl : List vw_C := [(RX0, TX0, 4), (RX1, TX1, 2), (RX2, TX2, 8), (RX3, TX3, 7), (RX4, TX4, 5), (RX5, TX5, 8)]
end
section
set_option maxRecDepth 20000 in
theorem ggX0_addClaim_X5_isIn : GoodIn wsX0_addClaim wsX5_isIn := goodIn_r _ [6] (by decide +kernel) (by decide +kernel)
set_option maxRecDepth 20000 in
theorem gX0_addClaim_X5_isIn_n22 : GoodIn wsX0_addClaim (wsX5_isIn) := ggX0_addClaim_X5_isIn
set_option maxRecDepth 20000 in
theorem ggX0_addClaim_X5_at : GoodIn wsX0_addClaim wsX5_at := goodIn_r _ [8] (by decide +kernel) (by decide +kernel)
set_option maxRecDepth 20000 in
theorem gX0_addClaim_X5_at_n26 : GoodIn wsX0_addClaim (wsX5_at) := ggX0_addClaim_X5_at
set_option maxRecDepth 20000 in
theorem ggX0_addClaim_X5_put : GoodIn wsX0_addClaim wsX5_put := goodIn_r _ [10] (by decide +kernel) (by decide +kernel)
set_option maxRecDepth 20000 in
theorem gX0_addClaim_X5_put_n30 : GoodIn wsX0_addClaim (wsX5_put) := ggX0_addClaim_X5_put
set_option maxRecDepth 20000 in
theorem ggX0_hangsOn_X5_at : GoodIn wsX0_hangsOn wsX5_at := goodIn_r _ [4] (by decide +kernel) (by decide +kernel)
set_option maxRecDepth 20000 in
theorem gX0_hangsOn_X5_at_n26 : GoodIn wsX0_hangsOn (wsX5_at) := ggX0_hangsOn_X5_at
set_option maxRecDepth 20000 in
theorem ggX0_isWithdrawn_X5_isIn : GoodIn wsX0_isWithdrawn wsX5_isIn := goodIn_r _ [4] (by decide +kernel) (by decide +kernel)
set_option maxRecDepth 20000 in
theorem gX0_isWithdrawn_X5_isIn_n22 : GoodIn wsX0_isWithdrawn (wsX5_isIn) := ggX0_isWithdrawn_X5_isIn
set_option maxRecDepth 20000 in
theorem ggX0_isStanding_X0_standingWithout : GoodIn wsX0_isStanding wsX0_standingWithout := goodIn_r _ [6, 7, 8, 9, 10, 11, 12, 13, 14, 15, 16, 17] (by decide +kernel) (by decide +kernel)
set_option maxRecDepth 20000 in
theorem gX0_isStanding_X0_standingWithout : GoodIn wsX0_isStanding (wsV RX0 37 RX0 yX0_standingWithout wsX0_standingWithout) := goodIn_app (goodIn_of _ (by decide +kernel)) ggX0_isStanding_X0_standingWithout
set_option maxRecDepth 20000 in
theorem ggX0_isStanding_X5_isIn : GoodIn wsX0_isStanding wsX5_isIn := goodIn_r _ [11] (by decide +kernel) (by decide +kernel)
set_option maxRecDepth 20000 in
theorem gX0_isStanding_X5_isIn_n22 : GoodIn wsX0_isStanding (wsX5_isIn) := ggX0_isStanding_X5_isIn
set_option maxRecDepth 20000 in
theorem ggX0_countStanding_X0_standingWithout : GoodIn wsX0_countStanding wsX0_standingWithout := goodIn_r _ [6, 7, 8, 9, 10, 11, 12, 13, 21, 22, 23, 24] (by decide +kernel) (by decide +kernel)
set_option maxRecDepth 20000 in
theorem gX0_countStanding_X0_standingWithout : GoodIn wsX0_countStanding (wsV RX0 37 RX0 yX0_standingWithout wsX0_standingWithout) := goodIn_app (goodIn_of _ (by decide +kernel)) ggX0_countStanding_X0_standingWithout
set_option maxRecDepth 20000 in
theorem ggX0_countStanding_J6_bitCount_0f7a4 : GoodIn wsX0_countStanding wsJ6_bitCount_0f7a4 := goodIn_r _ [17, 18, 19, 20] (by decide +kernel) (by decide +kernel)
set_option maxRecDepth 20000 in
theorem gX0_countStanding_J6_bitCount_0f7a4 : GoodIn wsX0_countStanding (va_wsS RX0 41 yJ6_bitCount_0f7a4 wsJ6_bitCount_0f7a4) := goodIn_app (goodIn_of _ (by decide +kernel)) ggX0_countStanding_J6_bitCount_0f7a4
set_option maxRecDepth 20000 in
theorem ggX0_fallingWith_X0_countStanding : GoodIn wsX0_fallingWith wsX0_countStanding := goodIn_r _ [6, 1, 7, 8, 9, 5, 10, 11, 12, 13, 14, 15, 16, 17, 18, 19, 20, 21, 22, 23, 24, 25, 26, 27, 28] (by decide +kernel) (by decide +kernel)
set_option maxRecDepth 20000 in
theorem gX0_fallingWith_X0_countStanding : GoodIn wsX0_fallingWith (wsV RX0 46 RX0 yX0_countStanding wsX0_countStanding) := goodIn_app (goodIn_of _ (by decide +kernel)) ggX0_fallingWith_X0_countStanding
set_option maxRecDepth 20000 in
theorem ggX0_fallingWith_X0_standingWithout : GoodIn wsX0_fallingWith wsX0_standingWithout := goodIn_r _ [10, 11, 12, 13, 14, 15, 16, 17, 25, 26, 27, 28] (by decide +kernel) (by decide +kernel)
set_option maxRecDepth 20000 in
theorem gX0_fallingWith_X0_standingWithout : GoodIn wsX0_fallingWith (wsV RX0 37 RX0 yX0_standingWithout wsX0_standingWithout) := goodIn_app (goodIn_of _ (by decide +kernel)) ggX0_fallingWith_X0_standingWithout
set_option maxRecDepth 20000 in
theorem ggX0_fallingWith_J6_bitCount_0f7a4 : GoodIn wsX0_fallingWith wsJ6_bitCount_0f7a4 := goodIn_r _ [21, 22, 23, 24] (by decide +kernel) (by decide +kernel)
set_option maxRecDepth 20000 in
theorem gX0_fallingWith_J6_bitCount_0f7a4 : GoodIn wsX0_fallingWith (va_wsS RX0 41 yJ6_bitCount_0f7a4 wsJ6_bitCount_0f7a4) := goodIn_app (goodIn_of _ (by decide +kernel)) ggX0_fallingWith_J6_bitCount_0f7a4
set_option maxRecDepth 20000 in
theorem ggX0_areConsistent_X0_standingWithout : GoodIn wsX0_areConsistent wsX0_standingWithout := goodIn_r _ [8, 2, 9, 10, 11, 12, 13, 14, 15, 16, 17, 18] (by decide +kernel) (by decide +kernel)
set_option maxRecDepth 20000 in
theorem gX0_areConsistent_X0_standingWithout : GoodIn wsX0_areConsistent (wsV RX0 37 RX0 yX0_standingWithout wsX0_standingWithout) := goodIn_app (goodIn_of _ (by decide +kernel)) ggX0_areConsistent_X0_standingWithout
set_option maxRecDepth 20000 in
theorem ggX0_areConsistent_X5_at : GoodIn wsX0_areConsistent wsX5_at := goodIn_r _ [14] (by decide +kernel) (by decide +kernel)
set_option maxRecDepth 20000 in
theorem gX0_areConsistent_X5_at_n26 : GoodIn wsX0_areConsistent (wsX5_at) := ggX0_areConsistent_X5_at
set_option maxRecDepth 20000 in
theorem ggX0_areConsistent_X5_isIn : GoodIn wsX0_areConsistent wsX5_isIn := goodIn_r _ [12] (by decide +kernel) (by decide +kernel)
set_option maxRecDepth 20000 in
theorem gX0_areConsistent_X5_isIn_n22 : GoodIn wsX0_areConsistent (wsX5_isIn) := ggX0_areConsistent_X5_isIn
set_option maxRecDepth 20000 in
theorem ggX0_standingWithout_X5_isIn : GoodIn wsX0_standingWithout wsX5_isIn := goodIn_r _ [5] (by decide +kernel) (by decide +kernel)
set_option maxRecDepth 20000 in
theorem gX0_standingWithout_X5_isIn_n22 : GoodIn wsX0_standingWithout (wsX5_isIn) := ggX0_standingWithout_X5_isIn
set_option maxRecDepth 20000 in
theorem ggX0_standingWithout_X5_at : GoodIn wsX0_standingWithout wsX5_at := goodIn_r _ [7] (by decide +kernel) (by decide +kernel)
set_option maxRecDepth 20000 in
theorem gX0_standingWithout_X5_at_n26 : GoodIn wsX0_standingWithout (wsX5_at) := ggX0_standingWithout_X5_at
set_option maxRecDepth 20000 in
theorem ggX1_init_X5_commonDivisor : GoodIn wsX1_init wsX5_commonDivisor := goodIn_r _ [8] (by decide +kernel) (by decide +kernel)
set_option maxRecDepth 20000 in
theorem gX1_init_X5_commonDivisor_n7 : GoodIn wsX1_init (wsX5_commonDivisor) := ggX1_init_X5_commonDivisor
set_option maxRecDepth 20000 in
theorem ggX1_times_X1_init : GoodIn wsX1_times wsX1_init := goodIn_r _ [8, 9, 10, 11, 4, 5, 12, 13, 14, 15, 16] (by decide +kernel) (by decide +kernel)
set_option maxRecDepth 20000 in
theorem gX1_times_X1_init : GoodIn wsX1_times (wsX1_init) := ggX1_times_X1_init
set_option maxRecDepth 20000 in
theorem ggX1_withoutWhole_J9_floorMod_f86c9 : GoodIn wsX1_withoutWhole wsJ9_floorMod_f86c9 := goodIn_r _ [9] (by decide +kernel) (by decide +kernel)
set_option maxRecDepth 20000 in
theorem gX1_withoutWhole_J9_floorMod_f86c9 : GoodIn wsX1_withoutWhole (va_wsS RX1 25 yJ9_floorMod_f86c9 wsJ9_floorMod_f86c9) := goodIn_app (goodIn_of _ (by decide +kernel)) ggX1_withoutWhole_J9_floorMod_f86c9
set_option maxRecDepth 20000 in
theorem ggX1_withoutWhole_X1_init : GoodIn wsX1_withoutWhole wsX1_init := goodIn_r _ [12, 13, 14, 15, 5, 1, 16, 17, 18, 19, 20] (by decide +kernel) (by decide +kernel)
set_option maxRecDepth 20000 in
theorem gX1_withoutWhole_X1_init : GoodIn wsX1_withoutWhole (wsX1_init) := ggX1_withoutWhole_X1_init
set_option maxRecDepth 20000 in
theorem ggX2_init_X1_init : GoodIn wsX2_init wsX1_init := goodIn_r _ [17, 18, 2, 3, 19, 20, 21, 22, 23, 71, 72] (by decide +kernel) (by decide +kernel)
set_option maxRecDepth 20000 in
theorem gX2_init_X1_init : GoodIn wsX2_init (wsX1_init) := ggX2_init_X1_init
set_option maxRecDepth 20000 in
theorem ggX2_init_X2_spreadRates : GoodIn wsX2_init wsX2_spreadRates := goodIn_r _ [28, 11, 29, 30, 31, 32, 27, 33, 7, 34, 22, 35, 36, 37, 38, 39, 40, 41, 42, 43, 5, 44, 45, 46, 47, 48, 49, 50, 51, 52, 53, 54, 55, 56, 6, 57, 58, 59, 10, 60, 61, 9, 19, 20, 62, 16, 17, 18, 2, 3, 21, 23, 63, 64, 65, 66, 67, 68, 69, 70, 71, 72] (by decide +kernel) (by decide +kernel)
set_option maxRecDepth 20000 in
theorem gX2_init_X2_spreadRates : GoodIn wsX2_init (wsV RX2 40 RX2 yX2_spreadRates wsX2_spreadRates) := goodIn_app (goodIn_of _ (by decide +kernel)) ggX2_init_X2_spreadRates
set_option maxRecDepth 20000 in
theorem ggX2_addWheel_X5_put : GoodIn wsX2_addWheel wsX5_put := goodIn_r _ [6] (by decide +kernel) (by decide +kernel)
set_option maxRecDepth 20000 in
theorem gX2_addWheel_X5_put_n48 : GoodIn wsX2_addWheel (wsX5_put) := ggX2_addWheel_X5_put
set_option maxRecDepth 20000 in
theorem ggX2_axleOf_X5_at : GoodIn wsX2_axleOf wsX5_at := goodIn_r _ [4] (by decide +kernel) (by decide +kernel)
set_option maxRecDepth 20000 in
theorem gX2_axleOf_X5_at_n52 : GoodIn wsX2_axleOf (wsX5_at) := ggX2_axleOf_X5_at
set_option maxRecDepth 20000 in
theorem ggX2_teethOf_X5_at : GoodIn wsX2_teethOf wsX5_at := goodIn_r _ [4] (by decide +kernel) (by decide +kernel)
set_option maxRecDepth 20000 in
theorem gX2_teethOf_X5_at_n52 : GoodIn wsX2_teethOf (wsX5_at) := ggX2_teethOf_X5_at
set_option maxRecDepth 20000 in
theorem ggX2_meshedWith_X5_at : GoodIn wsX2_meshedWith wsX5_at := goodIn_r _ [4] (by decide +kernel) (by decide +kernel)
set_option maxRecDepth 20000 in
theorem gX2_meshedWith_X5_at_n52 : GoodIn wsX2_meshedWith (wsX5_at) := ggX2_meshedWith_X5_at
set_option maxRecDepth 20000 in
theorem ggX2_areOnOneAxle_X2_axleOf : GoodIn wsX2_areOnOneAxle wsX2_axleOf := goodIn_r _ [5, 6, 7, 8, 9, 10, 11, 12, 13, 14, 15, 16, 17] (by decide +kernel) (by decide +kernel)
set_option maxRecDepth 20000 in
theorem gX2_areOnOneAxle_X2_axleOf : GoodIn wsX2_areOnOneAxle (wsV RX2 56 RX2 yX2_axleOf wsX2_axleOf) := goodIn_app (goodIn_of _ (by decide +kernel)) ggX2_areOnOneAxle_X2_axleOf
set_option maxRecDepth 20000 in
theorem ggX2_areMeshed_X2_meshedWith : GoodIn wsX2_areMeshed wsX2_meshedWith := goodIn_r _ [5, 6, 7, 8, 9, 12, 13, 14, 15, 16, 17, 18, 19] (by decide +kernel) (by decide +kernel)
set_option maxRecDepth 20000 in
theorem gX2_areMeshed_X2_meshedWith : GoodIn wsX2_areMeshed (wsV RX2 60 RX2 yX2_meshedWith wsX2_meshedWith) := goodIn_app (goodIn_of _ (by decide +kernel)) ggX2_areMeshed_X2_meshedWith
set_option maxRecDepth 20000 in
theorem ggX2_areMeshed_X5_isIn : GoodIn wsX2_areMeshed wsX5_isIn := goodIn_r _ [11] (by decide +kernel) (by decide +kernel)
set_option maxRecDepth 20000 in
theorem gX2_areMeshed_X5_isIn_n63 : GoodIn wsX2_areMeshed (wsX5_isIn) := ggX2_areMeshed_X5_isIn
set_option maxRecDepth 20000 in
theorem ggX2_join_X2_meshedWith : GoodIn wsX2_join wsX2_meshedWith := goodIn_r _ [7, 1, 8, 9, 10, 59, 60, 61, 62, 63, 64, 65, 66] (by decide +kernel) (by decide +kernel)
set_option maxRecDepth 20000 in
theorem gX2_join_X2_meshedWith : GoodIn wsX2_join (wsV RX2 60 RX2 yX2_meshedWith wsX2_meshedWith) := goodIn_app (goodIn_of _ (by decide +kernel)) ggX2_join_X2_meshedWith
set_option maxRecDepth 20000 in
theorem ggX2_join_X5_put : GoodIn wsX2_join wsX5_put := goodIn_r _ [12] (by decide +kernel) (by decide +kernel)
set_option maxRecDepth 20000 in
theorem gX2_join_X5_put_n48 : GoodIn wsX2_join (wsX5_put) := ggX2_join_X5_put
set_option maxRecDepth 20000 in
theorem ggX2_join_X2_spreadRates : GoodIn wsX2_join wsX2_spreadRates := goodIn_r _ [16, 17, 18, 3, 4, 5, 6, 7, 1, 8, 9, 10, 19, 20, 21, 22, 23, 24, 25, 26, 27, 28, 29, 30, 31, 32, 33, 34, 35, 36, 37, 38, 39, 40, 41, 42, 43, 44, 45, 46, 47, 48, 49, 50, 51, 52, 53, 54, 55, 56, 57, 58, 59, 60, 61, 62, 63, 64, 65, 66, 67, 68] (by decide +kernel) (by decide +kernel)
set_option maxRecDepth 20000 in
theorem gX2_join_X2_spreadRates : GoodIn wsX2_join (wsV RX2 40 RX2 yX2_spreadRates wsX2_spreadRates) := goodIn_app (goodIn_of _ (by decide +kernel)) ggX2_join_X2_spreadRates
set_option maxRecDepth 20000 in
theorem ggX2_separate_X2_meshedWith : GoodIn wsX2_separate wsX2_meshedWith := goodIn_r _ [7, 1, 8, 9, 10, 59, 60, 61, 62, 63, 64, 65, 66] (by decide +kernel) (by decide +kernel)
set_option maxRecDepth 20000 in
theorem gX2_separate_X2_meshedWith : GoodIn wsX2_separate (wsV RX2 60 RX2 yX2_meshedWith wsX2_meshedWith) := goodIn_app (goodIn_of _ (by decide +kernel)) ggX2_separate_X2_meshedWith
set_option maxRecDepth 20000 in
theorem ggX2_separate_X5_put : GoodIn wsX2_separate wsX5_put := goodIn_r _ [12] (by decide +kernel) (by decide +kernel)
set_option maxRecDepth 20000 in
theorem gX2_separate_X5_put_n48 : GoodIn wsX2_separate (wsX5_put) := ggX2_separate_X5_put
set_option maxRecDepth 20000 in
theorem ggX2_separate_X2_spreadRates : GoodIn wsX2_separate wsX2_spreadRates := goodIn_r _ [16, 17, 18, 3, 4, 5, 6, 7, 1, 8, 9, 10, 19, 20, 21, 22, 23, 24, 25, 26, 27, 28, 29, 30, 31, 32, 33, 34, 35, 36, 37, 38, 39, 40, 41, 42, 43, 44, 45, 46, 47, 48, 49, 50, 51, 52, 53, 54, 55, 56, 57, 58, 59, 60, 61, 62, 63, 64, 65, 66, 67, 68] (by decide +kernel) (by decide +kernel)
set_option maxRecDepth 20000 in
theorem gX2_separate_X2_spreadRates : GoodIn wsX2_separate (wsV RX2 40 RX2 yX2_spreadRates wsX2_spreadRates) := goodIn_app (goodIn_of _ (by decide +kernel)) ggX2_separate_X2_spreadRates
set_option maxRecDepth 20000 in
theorem ggX2_wouldJam_X2_axleOf : GoodIn wsX2_wouldJam wsX2_axleOf := goodIn_r _ [9, 10, 11, 12, 13, 63, 64, 65, 66, 67, 68, 69, 70] (by decide +kernel) (by decide +kernel)
set_option maxRecDepth 20000 in
theorem gX2_wouldJam_X2_axleOf : GoodIn wsX2_wouldJam (wsV RX2 56 RX2 yX2_axleOf wsX2_axleOf) := goodIn_app (goodIn_of _ (by decide +kernel)) ggX2_wouldJam_X2_axleOf
set_option maxRecDepth 20000 in
theorem ggX2_wouldJam_X2_spreadRates : GoodIn wsX2_wouldJam wsX2_spreadRates := goodIn_r _ [17, 18, 19, 20, 21, 22, 8, 23, 24, 11, 12, 13, 25, 26, 27, 28, 5, 6, 7, 9, 10, 29, 30, 31, 32, 33, 34, 35, 36, 37, 38, 39, 40, 41, 42, 43, 44, 45, 4, 46, 47, 3, 48, 49, 50, 51, 52, 53, 54, 55, 56, 57, 63, 64, 65, 66, 67, 68, 69, 70, 71, 72] (by decide +kernel) (by decide +kernel)
set_option maxRecDepth 20000 in
theorem gX2_wouldJam_X2_spreadRates : GoodIn wsX2_wouldJam (wsV RX2 40 RX2 yX2_spreadRates wsX2_spreadRates) := goodIn_app (goodIn_of _ (by decide +kernel)) ggX2_wouldJam_X2_spreadRates
set_option maxRecDepth 20000 in
theorem ggX2_wouldJam_X2_rateIn : GoodIn wsX2_wouldJam wsX2_rateIn := goodIn_r _ [31] (by decide +kernel) (by decide +kernel)
set_option maxRecDepth 20000 in
theorem gX2_wouldJam_X2_rateIn : GoodIn wsX2_wouldJam (va_wsS RX2 67 yX2_rateIn wsX2_rateIn) := goodIn_app (goodIn_of _ (by decide +kernel)) ggX2_wouldJam_X2_rateIn
set_option maxRecDepth 20000 in
theorem ggX2_wouldJam_X2_teethOf : GoodIn wsX2_wouldJam wsX2_teethOf := goodIn_r _ [41, 42, 11, 12, 13, 63, 64, 65, 66, 67, 68, 69, 70] (by decide +kernel) (by decide +kernel)
set_option maxRecDepth 20000 in
theorem gX2_wouldJam_X2_teethOf : GoodIn wsX2_wouldJam (wsV RX2 71 RX2 yX2_teethOf wsX2_teethOf) := goodIn_app (goodIn_of _ (by decide +kernel)) ggX2_wouldJam_X2_teethOf
set_option maxRecDepth 20000 in
theorem ggX2_wouldJam_X1_init : GoodIn wsX2_wouldJam wsX1_init := goodIn_r _ [52, 53, 54, 55, 48, 49, 56, 12, 57, 71, 72] (by decide +kernel) (by decide +kernel)
set_option maxRecDepth 20000 in
theorem gX2_wouldJam_X1_init : GoodIn wsX2_wouldJam (wsX1_init) := ggX2_wouldJam_X1_init
set_option maxRecDepth 20000 in
theorem ggX2_wouldJam_X1_isSameAs : GoodIn wsX2_wouldJam wsX1_isSameAs := goodIn_r _ [62, 48, 49, 71, 72] (by decide +kernel) (by decide +kernel)
set_option maxRecDepth 20000 in
theorem gX2_wouldJam_X1_isSameAs : GoodIn wsX2_wouldJam (wsV RX2 74 RX1 yX1_isSameAs wsX1_isSameAs) := goodIn_app (goodIn_of _ (by decide +kernel)) ggX2_wouldJam_X1_isSameAs
set_option maxRecDepth 20000 in
theorem ggX2_isMoved_X2_rateIn : GoodIn wsX2_isMoved wsX2_rateIn := goodIn_r _ [5] (by decide +kernel) (by decide +kernel)
set_option maxRecDepth 20000 in
theorem gX2_isMoved_X2_rateIn : GoodIn wsX2_isMoved (va_wsS RX2 67 yX2_rateIn wsX2_rateIn) := goodIn_app (goodIn_of _ (by decide +kernel)) ggX2_isMoved_X2_rateIn
set_option maxRecDepth 20000 in
theorem ggX2_rateOf_X2_rateIn : GoodIn wsX2_rateOf wsX2_rateIn := goodIn_r _ [6] (by decide +kernel) (by decide +kernel)
set_option maxRecDepth 20000 in
theorem gX2_rateOf_X2_rateIn : GoodIn wsX2_rateOf (va_wsS RX2 67 yX2_rateIn wsX2_rateIn) := goodIn_app (goodIn_of _ (by decide +kernel)) ggX2_rateOf_X2_rateIn
set_option maxRecDepth 20000 in
theorem ggX2_turnedAt_X2_rateOf : GoodIn wsX2_turnedAt wsX2_rateOf := goodIn_r _ [5, 6, 7, 8, 9, 4, 10, 29, 30, 31, 32, 33, 34, 35, 36] (by decide +kernel) (by decide +kernel)
set_option maxRecDepth 20000 in
theorem gX2_turnedAt_X2_rateOf : GoodIn wsX2_turnedAt (wsV RX2 78 RX2 yX2_rateOf wsX2_rateOf) := goodIn_app (goodIn_of _ (by decide +kernel)) ggX2_turnedAt_X2_rateOf
set_option maxRecDepth 20000 in
theorem ggX2_turnedAt_X1_times : GoodIn wsX2_turnedAt wsX1_times := goodIn_r _ [15, 16, 17, 14, 18, 19, 20, 21, 22, 23, 24, 25, 26, 27, 28, 37, 38] (by decide +kernel) (by decide +kernel)
set_option maxRecDepth 20000 in
theorem gX2_turnedAt_X1_times : GoodIn wsX2_turnedAt (wsV RX2 82 RX1 yX1_times wsX1_times) := goodIn_app (goodIn_of _ (by decide +kernel)) ggX2_turnedAt_X1_times
set_option maxRecDepth 20000 in
theorem ggX2_countMeshes_X2_meshedWith : GoodIn wsX2_countMeshes wsX2_meshedWith := goodIn_r _ [6, 7, 8, 9, 10, 18, 19, 20, 21, 22, 23, 24, 25] (by decide +kernel) (by decide +kernel)
set_option maxRecDepth 20000 in
theorem gX2_countMeshes_X2_meshedWith : GoodIn wsX2_countMeshes (wsV RX2 60 RX2 yX2_meshedWith wsX2_meshedWith) := goodIn_app (goodIn_of _ (by decide +kernel)) ggX2_countMeshes_X2_meshedWith
set_option maxRecDepth 20000 in
theorem ggX2_countMeshes_J6_bitCount_0f7a4 : GoodIn wsX2_countMeshes wsJ6_bitCount_0f7a4 := goodIn_r _ [14, 15, 16, 17] (by decide +kernel) (by decide +kernel)
set_option maxRecDepth 20000 in
theorem gX2_countMeshes_J6_bitCount_0f7a4 : GoodIn wsX2_countMeshes (va_wsS RX2 86 yJ6_bitCount_0f7a4 wsJ6_bitCount_0f7a4) := goodIn_app (goodIn_of _ (by decide +kernel)) ggX2_countMeshes_J6_bitCount_0f7a4
set_option maxRecDepth 20000 in
theorem ggX2_countMoved_X2_isMoved : GoodIn wsX2_countMoved wsX2_isMoved := goodIn_r _ [5, 6, 7, 8, 4, 9, 10, 11, 12, 13, 14, 15, 16, 17] (by decide +kernel) (by decide +kernel)
set_option maxRecDepth 20000 in
theorem gX2_countMoved_X2_isMoved : GoodIn wsX2_countMoved (wsV RX2 91 RX2 yX2_isMoved wsX2_isMoved) := goodIn_app (goodIn_of _ (by decide +kernel)) ggX2_countMoved_X2_isMoved
set_option maxRecDepth 20000 in
theorem ggX2_turnsToReturn_X2_rateOf : GoodIn wsX2_turnsToReturn wsX2_rateOf := goodIn_r _ [6, 7, 8, 9, 10, 5, 11, 17, 18, 19, 20, 21, 22, 23, 24] (by decide +kernel) (by decide +kernel)
set_option maxRecDepth 20000 in
theorem gX2_turnsToReturn_X2_rateOf : GoodIn wsX2_turnsToReturn (wsV RX2 78 RX2 yX2_rateOf wsX2_rateOf) := goodIn_app (goodIn_of _ (by decide +kernel)) ggX2_turnsToReturn_X2_rateOf
set_option maxRecDepth 20000 in
theorem ggX2_turnsToReturn_X5_commonDivisor : GoodIn wsX2_turnsToReturn wsX5_commonDivisor := goodIn_r _ [14] (by decide +kernel) (by decide +kernel)
set_option maxRecDepth 20000 in
theorem gX2_turnsToReturn_X5_commonDivisor_n99 : GoodIn wsX2_turnsToReturn (wsX5_commonDivisor) := ggX2_turnsToReturn_X5_commonDivisor
set_option maxRecDepth 20000 in
theorem ggX2_isPeriodRight_X2_turnsToReturn : GoodIn wsX2_isPeriodRight wsX2_turnsToReturn := goodIn_r _ [6, 1, 7, 8, 9, 5, 10, 11, 12, 13, 14, 15, 16, 17, 18, 19, 20, 21, 22, 23, 24, 25, 26, 27, 28] (by decide +kernel) (by decide +kernel)
set_option maxRecDepth 20000 in
theorem gX2_isPeriodRight_X2_turnsToReturn : GoodIn wsX2_isPeriodRight (wsV RX2 103 RX2 yX2_turnsToReturn wsX2_turnsToReturn) := goodIn_app (goodIn_of _ (by decide +kernel)) ggX2_isPeriodRight_X2_turnsToReturn
set_option maxRecDepth 20000 in
theorem ggX2_isPeriodRight_X2_rateOf : GoodIn wsX2_isPeriodRight wsX2_rateOf := goodIn_r _ [10, 11, 12, 13, 14, 5, 15, 21, 22, 23, 24, 25, 26, 27, 28] (by decide +kernel) (by decide +kernel)
set_option maxRecDepth 20000 in
theorem gX2_isPeriodRight_X2_rateOf : GoodIn wsX2_isPeriodRight (wsV RX2 78 RX2 yX2_rateOf wsX2_rateOf) := goodIn_app (goodIn_of _ (by decide +kernel)) ggX2_isPeriodRight_X2_rateOf
set_option maxRecDepth 20000 in
theorem ggX2_spreadRates_X2_meshedWith : GoodIn wsX2_spreadRates wsX2_meshedWith := goodIn_r _ [7, 8, 9, 10, 11, 52, 53, 54, 55, 56, 57, 58, 59] (by decide +kernel) (by decide +kernel)
set_option maxRecDepth 20000 in
theorem gX2_spreadRates_X2_meshedWith : GoodIn wsX2_spreadRates (wsV RX2 60 RX2 yX2_meshedWith wsX2_meshedWith) := goodIn_app (goodIn_of _ (by decide +kernel)) ggX2_spreadRates_X2_meshedWith
set_option maxRecDepth 20000 in
theorem ggX2_spreadRates_X2_spreadFromWheel : GoodIn wsX2_spreadRates wsX2_spreadFromWheel := goodIn_r _ [15, 2, 16, 17, 18, 6, 19, 20, 9, 10, 11, 21, 22, 23, 24, 25, 26, 27, 3, 4, 5, 7, 8, 28, 29, 30, 31, 32, 33, 34, 35, 36, 37, 38, 39, 40, 41, 42, 43, 44, 45, 46, 47, 48, 49, 50, 51, 52, 53, 54, 55, 56, 57, 58, 59, 60, 61] (by decide +kernel) (by decide +kernel)
set_option maxRecDepth 20000 in
theorem gX2_spreadRates_X2_spreadFromWheel : GoodIn wsX2_spreadRates (wsV RX2 107 RX2 yX2_spreadFromWheel wsX2_spreadFromWheel) := goodIn_app (goodIn_of _ (by decide +kernel)) ggX2_spreadRates_X2_spreadFromWheel
set_option maxRecDepth 20000 in
theorem ggX2_spreadFromWheel_X2_axleOf : GoodIn wsX2_spreadFromWheel wsX2_axleOf := goodIn_r _ [6, 7, 8, 9, 10, 47, 48, 49, 50, 51, 52, 53, 54] (by decide +kernel) (by decide +kernel)
set_option maxRecDepth 20000 in
theorem gX2_spreadFromWheel_X2_axleOf : GoodIn wsX2_spreadFromWheel (wsV RX2 56 RX2 yX2_axleOf wsX2_axleOf) := goodIn_app (goodIn_of _ (by decide +kernel)) ggX2_spreadFromWheel_X2_axleOf
set_option maxRecDepth 20000 in
theorem ggX2_spreadFromWheel_X2_rateIn : GoodIn wsX2_spreadFromWheel wsX2_rateIn := goodIn_r _ [13] (by decide +kernel) (by decide +kernel)
set_option maxRecDepth 20000 in
theorem gX2_spreadFromWheel_X2_rateIn : GoodIn wsX2_spreadFromWheel (va_wsS RX2 67 yX2_rateIn wsX2_rateIn) := goodIn_app (goodIn_of _ (by decide +kernel)) ggX2_spreadFromWheel_X2_rateIn
set_option maxRecDepth 20000 in
theorem ggX2_spreadFromWheel_X2_areMeshed : GoodIn wsX2_spreadFromWheel wsX2_areMeshed := goodIn_r _ [17, 18, 19, 20, 5, 21, 22, 8, 9, 10, 23, 24, 47, 48, 49, 50, 51, 52, 53, 54] (by decide +kernel) (by decide +kernel)
set_option maxRecDepth 20000 in
theorem gX2_spreadFromWheel_X2_areMeshed : GoodIn wsX2_spreadFromWheel (wsV RX2 111 RX2 yX2_areMeshed wsX2_areMeshed) := goodIn_app (goodIn_of _ (by decide +kernel)) ggX2_spreadFromWheel_X2_areMeshed
set_option maxRecDepth 20000 in
theorem ggX2_spreadFromWheel_X2_teethOf : GoodIn wsX2_spreadFromWheel wsX2_teethOf := goodIn_r _ [28, 29, 8, 9, 10, 47, 48, 49, 50, 51, 52, 53, 54] (by decide +kernel) (by decide +kernel)
set_option maxRecDepth 20000 in
theorem gX2_spreadFromWheel_X2_teethOf : GoodIn wsX2_spreadFromWheel (wsV RX2 71 RX2 yX2_teethOf wsX2_teethOf) := goodIn_app (goodIn_of _ (by decide +kernel)) ggX2_spreadFromWheel_X2_teethOf
set_option maxRecDepth 20000 in
theorem ggX2_spreadFromWheel_X1_times : GoodIn wsX2_spreadFromWheel wsX1_times := goodIn_r _ [34, 35, 36, 33, 37, 38, 39, 40, 41, 42, 43, 44, 45, 9, 46, 55, 56] (by decide +kernel) (by decide +kernel)
set_option maxRecDepth 20000 in
theorem gX2_spreadFromWheel_X1_times : GoodIn wsX2_spreadFromWheel (wsV RX2 82 RX1 yX1_times wsX1_times) := goodIn_app (goodIn_of _ (by decide +kernel)) ggX2_spreadFromWheel_X1_times
set_option maxRecDepth 20000 in
theorem ggX3_init_X3_weigh : GoodIn wsX3_init wsX3_weigh := goodIn_r _ [16, 9, 10, 11, 17, 18, 19, 15, 20, 7, 6, 21, 22, 23, 24, 8, 25, 26, 27, 28, 5, 29, 30, 31, 32, 33, 34, 35, 36, 37, 38, 39, 40] (by decide +kernel) (by decide +kernel)
set_option maxRecDepth 20000 in
theorem gX3_init_X3_weigh : GoodIn wsX3_init (wsV RX3 33 RX3 yX3_weigh wsX3_weigh) := goodIn_app (goodIn_of _ (by decide +kernel)) ggX3_init_X3_weigh
set_option maxRecDepth 20000 in
theorem ggX3_piecesOf_X5_at : GoodIn wsX3_piecesOf wsX5_at := goodIn_r _ [4] (by decide +kernel) (by decide +kernel)
set_option maxRecDepth 20000 in
theorem gX3_piecesOf_X5_at_n37 : GoodIn wsX3_piecesOf (wsX5_at) := ggX3_piecesOf_X5_at
set_option maxRecDepth 20000 in
theorem ggX3_agreeingOf_X5_at : GoodIn wsX3_agreeingOf wsX5_at := goodIn_r _ [4] (by decide +kernel) (by decide +kernel)
set_option maxRecDepth 20000 in
theorem gX3_agreeingOf_X5_at_n37 : GoodIn wsX3_agreeingOf (wsX5_at) := ggX3_agreeingOf_X5_at
set_option maxRecDepth 20000 in
theorem ggX3_leastOf_X5_at : GoodIn wsX3_leastOf wsX5_at := goodIn_r _ [4] (by decide +kernel) (by decide +kernel)
set_option maxRecDepth 20000 in
theorem gX3_leastOf_X5_at_n37 : GoodIn wsX3_leastOf (wsX5_at) := ggX3_leastOf_X5_at
set_option maxRecDepth 20000 in
theorem ggX3_greatestOf_X5_at : GoodIn wsX3_greatestOf wsX5_at := goodIn_r _ [4] (by decide +kernel) (by decide +kernel)
set_option maxRecDepth 20000 in
theorem gX3_greatestOf_X5_at_n37 : GoodIn wsX3_greatestOf (wsX5_at) := ggX3_greatestOf_X5_at
set_option maxRecDepth 20000 in
theorem ggX3_countPieces_X3_piecesOf : GoodIn wsX3_countPieces wsX3_piecesOf := goodIn_r _ [5, 6, 7, 8, 9, 10, 11, 12, 13, 14, 15, 16] (by decide +kernel) (by decide +kernel)
set_option maxRecDepth 20000 in
theorem gX3_countPieces_X3_piecesOf : GoodIn wsX3_countPieces (wsV RX3 41 RX3 yX3_piecesOf wsX3_piecesOf) := goodIn_app (goodIn_of _ (by decide +kernel)) ggX3_countPieces_X3_piecesOf
set_option maxRecDepth 20000 in
theorem ggX3_weigh_X3_agreesWithAll : GoodIn wsX3_weigh wsX3_agreesWithAll := goodIn_r _ [8, 9, 10, 11, 12, 13, 14, 15, 16, 17, 18, 7, 19, 20, 21, 22, 23, 26, 27, 28, 29, 30, 31, 32] (by decide +kernel) (by decide +kernel)
set_option maxRecDepth 20000 in
theorem gX3_weigh_X3_agreesWithAll : GoodIn wsX3_weigh (wsV RX3 49 RX3 yX3_agreesWithAll wsX3_agreesWithAll) := goodIn_app (goodIn_of _ (by decide +kernel)) ggX3_weigh_X3_agreesWithAll
set_option maxRecDepth 20000 in
theorem ggX3_weigh_X5_put : GoodIn wsX3_weigh wsX5_put := goodIn_r _ [25] (by decide +kernel) (by decide +kernel)
set_option maxRecDepth 20000 in
theorem gX3_weigh_X5_put_n45 : GoodIn wsX3_weigh (wsX5_put) := ggX3_weigh_X5_put
set_option maxRecDepth 20000 in
theorem ggX3_agreesWithAll_X3_piecesOf : GoodIn wsX3_agreesWithAll wsX3_piecesOf := goodIn_r _ [12, 13, 14, 15, 16, 17, 18, 19, 20, 21, 22, 23] (by decide +kernel) (by decide +kernel)
set_option maxRecDepth 20000 in
theorem gX3_agreesWithAll_X3_piecesOf : GoodIn wsX3_agreesWithAll (wsV RX3 41 RX3 yX3_piecesOf wsX3_piecesOf) := goodIn_app (goodIn_of _ (by decide +kernel)) ggX3_agreesWithAll_X3_piecesOf
set_option maxRecDepth 20000 in
theorem ggX3_agreesWithAll_X5_at : GoodIn wsX3_agreesWithAll wsX5_at := goodIn_r _ [16] (by decide +kernel) (by decide +kernel)
set_option maxRecDepth 20000 in
theorem gX3_agreesWithAll_X5_at_n37 : GoodIn wsX3_agreesWithAll (wsX5_at) := ggX3_agreesWithAll_X5_at
set_option maxRecDepth 20000 in
theorem ggX4_init_X4_forget : GoodIn wsX4_init wsX4_forget := goodIn_r _ [8, 9, 10, 11, 12, 13, 14, 15, 16, 17, 18] (by decide +kernel) (by decide +kernel)
set_option maxRecDepth 20000 in
theorem gX4_init_X4_forget : GoodIn wsX4_init (wsV RX4 9 RX4 yX4_forget wsX4_forget) := goodIn_app (goodIn_of _ (by decide +kernel)) ggX4_init_X4_forget
set_option maxRecDepth 20000 in
theorem ggX5_init_X2_init : GoodIn wsX5_init wsX2_init := goodIn_r _ [24, 25, 2, 3, 8, 26, 27, 28, 29, 30, 31, 32, 33, 34, 35, 36, 37, 38, 39, 40, 41, 42, 43, 44, 45, 46, 47, 6, 48, 49, 50, 51, 52, 53, 54, 55, 56, 57, 58, 59, 60, 61, 62, 63, 64, 65, 66, 67, 68, 69, 70, 71, 72, 73, 74, 75, 76, 77, 78, 79, 80, 81, 82, 131, 132, 133, 134, 135, 136, 137, 138, 163, 164] (by decide +kernel) (by decide +kernel)
set_option maxRecDepth 20000 in
theorem gX5_init_X2_init : GoodIn wsX5_init (wsX2_init) := ggX5_init_X2_init
set_option maxRecDepth 20000 in
theorem ggX5_init_X3_init : GoodIn wsX5_init wsX3_init := goodIn_r _ [85, 86, 2, 3, 8, 87, 88, 89, 90, 91, 92, 93, 94, 95, 96, 12, 97, 98, 99, 100, 101, 102, 103, 104, 105, 106, 107, 108, 109, 54, 43, 55, 110, 111, 147, 148, 149, 150, 151, 152, 153] (by decide +kernel) (by decide +kernel)
set_option maxRecDepth 20000 in
theorem gX5_init_X3_init : GoodIn wsX5_init (wsX3_init) := ggX5_init_X3_init
set_option maxRecDepth 20000 in
theorem ggX5_init_X0_init : GoodIn wsX5_init wsX0_init := goodIn_r _ [114, 115, 2, 3, 8, 116, 117, 154, 155, 156, 157] (by decide +kernel) (by decide +kernel)
set_option maxRecDepth 20000 in
theorem gX5_init_X0_init : GoodIn wsX5_init (wsX0_init) := ggX5_init_X0_init
set_option maxRecDepth 20000 in
theorem ggX5_init_X4_init : GoodIn wsX5_init wsX4_init := goodIn_r _ [120, 121, 2, 3, 122, 123, 124, 20, 125, 126, 127, 128, 129, 130, 158, 159, 160, 161, 162] (by decide +kernel) (by decide +kernel)
set_option maxRecDepth 20000 in
theorem gX5_init_X4_init : GoodIn wsX5_init (wsX4_init) := ggX5_init_X4_init
set_option maxRecDepth 20000 in
theorem ggX5_wheel_X5_demandAxle : GoodIn wsX5_wheel wsX5_demandAxle := goodIn_ca (goodIn_r _ [6, 7, 8, 5, 9, 10, 11, 12, 13, 14] (by decide +kernel) (by decide +kernel)) (goodIn_sub (fun _ h => List.mem_cons_of_mem _ (List.mem_append_left _ (List.mem_append_left _ (List.mem_append_right _ h)))) (by decide +kernel))
set_option maxRecDepth 20000 in
theorem gX5_wheel_X5_demandAxle : GoodIn wsX5_wheel (va_wsS RX5 41 yX5_demandAxle wsX5_demandAxle) := goodIn_app (goodIn_of _ (by decide +kernel)) ggX5_wheel_X5_demandAxle
set_option maxRecDepth 20000 in
theorem ggX5_wheel_X5_isWithin : GoodIn wsX5_wheel wsX5_isWithin := goodIn_r _ [9] (by decide +kernel) (by decide +kernel)
set_option maxRecDepth 20000 in
theorem gX5_wheel_X5_isWithin : GoodIn wsX5_wheel (va_wsS RX5 45 yX5_isWithin wsX5_isWithin) := goodIn_app (goodIn_of _ (by decide +kernel)) ggX5_wheel_X5_isWithin
set_option maxRecDepth 20000 in
theorem ggX5_wheel_X5_demandArgument : GoodIn wsX5_wheel wsX5_demandArgument := goodIn_ca (goodIn_r _ [17, 18, 19] (by decide +kernel) (by decide +kernel)) (goodIn_sub (fun _ h => List.mem_cons_of_mem _ (List.mem_append_left _ (List.mem_append_right _ h))) (by decide +kernel))
set_option maxRecDepth 20000 in
theorem gX5_wheel_X5_demandArgument : GoodIn wsX5_wheel (va_wsS RX5 49 yX5_demandArgument wsX5_demandArgument) := goodIn_app (goodIn_of _ (by decide +kernel)) ggX5_wheel_X5_demandArgument
set_option maxRecDepth 20000 in
theorem ggX5_wheel_X5_demandState : GoodIn wsX5_wheel wsX5_demandState := goodIn_ca (goodIn_r _ [22, 23, 24] (by decide +kernel) (by decide +kernel)) (goodIn_sub (fun _ h => List.mem_cons_of_mem _ (List.mem_append_right _ h)) (by decide +kernel))
set_option maxRecDepth 20000 in
theorem gX5_wheel_X5_demandState : GoodIn wsX5_wheel (va_wsS RX5 57 yX5_demandState wsX5_demandState) := goodIn_app (goodIn_of _ (by decide +kernel)) ggX5_wheel_X5_demandState
set_option maxRecDepth 20000 in
theorem ggX5_wheel_X2_addWheel : GoodIn wsX5_wheel wsX2_addWheel := goodIn_r _ [29, 30, 31, 32, 33, 5, 34, 43, 44, 45, 46, 47, 48, 49, 50] (by decide +kernel) (by decide +kernel)
set_option maxRecDepth 20000 in
theorem gX5_wheel_X2_addWheel : GoodIn wsX5_wheel (wsV RX5 60 RX2 yX2_addWheel wsX2_addWheel) := goodIn_app (goodIn_of _ (by decide +kernel)) ggX5_wheel_X2_addWheel
set_option maxRecDepth 20000 in
theorem ggX5_mesh_X5_demandWheel : GoodIn wsX5_mesh wsX5_demandWheel := goodIn_ca (goodIn_r _ [7, 1, 8, 9, 10, 6, 11, 12, 13, 14, 15, 16, 98, 99, 100, 101, 102, 103, 104, 105, 106, 107, 108, 109, 110, 111, 112, 113] (by decide +kernel) (by decide +kernel)) (goodIn_sub (fun _ h => List.mem_cons_of_mem _ (List.mem_append_left _ (List.mem_append_right _ h))) (by decide +kernel))
set_option maxRecDepth 20000 in
theorem gX5_mesh_X5_demandWheel : GoodIn wsX5_mesh (wsV RX5 64 RX5 yX5_demandWheel wsX5_demandWheel) := goodIn_app (goodIn_of _ (by decide +kernel)) ggX5_mesh_X5_demandWheel
set_option maxRecDepth 20000 in
theorem ggX5_mesh_X2_areOnOneAxle : GoodIn wsX5_mesh wsX2_areOnOneAxle := goodIn_r _ [21, 22, 23, 24, 20, 25, 26, 27, 6, 28, 106, 107, 108, 109, 110, 111, 112, 113] (by decide +kernel) (by decide +kernel)
set_option maxRecDepth 20000 in
theorem gX5_mesh_X2_areOnOneAxle : GoodIn wsX5_mesh (wsV RX5 67 RX2 yX2_areOnOneAxle wsX2_areOnOneAxle) := goodIn_app (goodIn_of _ (by decide +kernel)) ggX5_mesh_X2_areOnOneAxle
set_option maxRecDepth 20000 in
theorem ggX5_mesh_X5_demandArgument : GoodIn wsX5_mesh wsX5_demandArgument := goodIn_ca (goodIn_r _ [31, 32, 33] (by decide +kernel) (by decide +kernel)) (goodIn_sub (fun _ h => List.mem_cons_of_mem _ (List.mem_append_right _ h)) (by decide +kernel))
set_option maxRecDepth 20000 in
theorem gX5_mesh_X5_demandArgument : GoodIn wsX5_mesh (va_wsS RX5 49 yX5_demandArgument wsX5_demandArgument) := goodIn_app (goodIn_of _ (by decide +kernel)) ggX5_mesh_X5_demandArgument
set_option maxRecDepth 20000 in
theorem ggX5_mesh_X2_wouldJam : GoodIn wsX5_mesh wsX2_wouldJam := goodIn_r _ [37, 38, 39, 40, 41, 22, 23, 24, 20, 25, 26, 27, 6, 28, 42, 43, 44, 45, 46, 47, 48, 49, 50, 51, 52, 53, 54, 55, 56, 57, 58, 59, 60, 61, 62, 63, 64, 65, 66, 67, 68, 69, 70, 71, 72, 73, 74, 75, 76, 77, 78, 79, 80, 81, 82, 83, 84, 85, 86, 87, 88, 89, 90, 106, 107, 108, 109, 110, 111, 112, 113, 114, 115] (by decide +kernel) (by decide +kernel)
set_option maxRecDepth 20000 in
theorem gX5_mesh_X2_wouldJam : GoodIn wsX5_mesh (wsV RX5 71 RX2 yX2_wouldJam wsX2_wouldJam) := goodIn_app (goodIn_of _ (by decide +kernel)) ggX5_mesh_X2_wouldJam
set_option maxRecDepth 20000 in
theorem ggX5_mesh_X2_join : GoodIn wsX5_mesh wsX2_join := goodIn_r _ [94, 52, 95, 48, 49, 50, 20, 51, 27, 6, 28, 96, 97, 42, 43, 44, 45, 46, 47, 53, 54, 55, 56, 22, 23, 24, 25, 26, 57, 58, 59, 60, 61, 62, 63, 64, 65, 66, 67, 68, 69, 70, 71, 72, 73, 41, 74, 75, 40, 76, 77, 78, 79, 80, 81, 82, 83, 84, 85, 106, 107, 108, 109, 110, 111, 112, 113, 114, 115] (by decide +kernel) (by decide +kernel)
set_option maxRecDepth 20000 in
theorem gX5_mesh_X2_join : GoodIn wsX5_mesh (wsV RX5 77 RX2 yX2_join wsX2_join) := goodIn_app (goodIn_of _ (by decide +kernel)) ggX5_mesh_X2_join
set_option maxRecDepth 20000 in
theorem ggX5_part_X5_demandWheel : GoodIn wsX5_part wsX5_demandWheel := goodIn_ca (goodIn_r _ [6, 1, 7, 8, 9, 5, 10, 11, 12, 13, 14, 15, 78, 79, 80, 81, 82, 83, 84, 85, 86, 87, 88, 89, 90, 91, 92, 93] (by decide +kernel) (by decide +kernel)) (goodIn_sub (fun _ h => List.mem_cons_of_mem _ (List.mem_append_right _ h)) (by decide +kernel))
set_option maxRecDepth 20000 in
theorem gX5_part_X5_demandWheel : GoodIn wsX5_part (wsV RX5 64 RX5 yX5_demandWheel wsX5_demandWheel) := goodIn_app (goodIn_of _ (by decide +kernel)) ggX5_part_X5_demandWheel
set_option maxRecDepth 20000 in
theorem ggX5_part_X2_areMeshed : GoodIn wsX5_part wsX2_areMeshed := goodIn_r _ [20, 21, 22, 23, 19, 24, 25, 26, 5, 27, 28, 29, 86, 87, 88, 89, 90, 91, 92, 93] (by decide +kernel) (by decide +kernel)
set_option maxRecDepth 20000 in
theorem gX5_part_X2_areMeshed : GoodIn wsX5_part (wsV RX5 81 RX2 yX2_areMeshed wsX2_areMeshed) := goodIn_app (goodIn_of _ (by decide +kernel)) ggX5_part_X2_areMeshed
set_option maxRecDepth 20000 in
theorem ggX5_part_X2_separate : GoodIn wsX5_part wsX2_separate := goodIn_r _ [33, 25, 34, 21, 22, 23, 19, 24, 26, 5, 27, 35, 36, 37, 38, 39, 40, 41, 42, 43, 44, 45, 46, 47, 48, 49, 50, 51, 52, 53, 54, 55, 17, 18, 20, 28, 29, 56, 57, 58, 59, 60, 61, 62, 63, 64, 65, 66, 67, 68, 69, 70, 71, 72, 73, 74, 75, 76, 77, 86, 87, 88, 89, 90, 91, 92, 93, 94, 95] (by decide +kernel) (by decide +kernel)
set_option maxRecDepth 20000 in
theorem gX5_part_X2_separate : GoodIn wsX5_part (wsV RX5 84 RX2 yX2_separate wsX2_separate) := goodIn_app (goodIn_of _ (by decide +kernel)) ggX5_part_X2_separate
set_option maxRecDepth 20000 in
theorem ggX5_turn_X5_isWithin : GoodIn wsX5_turn wsX5_isWithin := goodIn_r _ [5] (by decide +kernel) (by decide +kernel)
set_option maxRecDepth 20000 in
theorem gX5_turn_X5_isWithin : GoodIn wsX5_turn (va_wsS RX5 45 yX5_isWithin wsX5_isWithin) := goodIn_app (goodIn_of _ (by decide +kernel)) ggX5_turn_X5_isWithin
set_option maxRecDepth 20000 in
theorem ggX5_turn_X5_demandArgument : GoodIn wsX5_turn wsX5_demandArgument := goodIn_ca (goodIn_r _ [8, 9, 10] (by decide +kernel) (by decide +kernel)) (goodIn_sub (fun _ h => List.mem_cons_of_mem _ (List.mem_append_left _ (List.mem_append_right _ h))) (by decide +kernel))
set_option maxRecDepth 20000 in
theorem gX5_turn_X5_demandArgument : GoodIn wsX5_turn (va_wsS RX5 49 yX5_demandArgument wsX5_demandArgument) := goodIn_app (goodIn_of _ (by decide +kernel)) ggX5_turn_X5_demandArgument
set_option maxRecDepth 20000 in
theorem ggX5_turn_X5_demandState : GoodIn wsX5_turn wsX5_demandState := goodIn_ca (goodIn_r _ [13, 14, 15] (by decide +kernel) (by decide +kernel)) (goodIn_sub (fun _ h => List.mem_cons_of_mem _ (List.mem_append_right _ h)) (by decide +kernel))
set_option maxRecDepth 20000 in
theorem gX5_turn_X5_demandState : GoodIn wsX5_turn (va_wsS RX5 57 yX5_demandState wsX5_demandState) := goodIn_app (goodIn_of _ (by decide +kernel)) ggX5_turn_X5_demandState
set_option maxRecDepth 20000 in
theorem ggX5_dial_X5_demandAxle : GoodIn wsX5_dial wsX5_demandAxle := goodIn_ca (goodIn_r _ [5, 6, 7, 4, 8, 9, 10, 11, 12, 13] (by decide +kernel) (by decide +kernel)) (goodIn_sub (fun _ h => List.mem_cons_of_mem _ (List.mem_append_left _ (List.mem_append_right _ h))) (by decide +kernel))
set_option maxRecDepth 20000 in
theorem gX5_dial_X5_demandAxle : GoodIn wsX5_dial (va_wsS RX5 41 yX5_demandAxle wsX5_demandAxle) := goodIn_app (goodIn_of _ (by decide +kernel)) ggX5_dial_X5_demandAxle
set_option maxRecDepth 20000 in
theorem ggX5_dial_X5_isWithin : GoodIn wsX5_dial wsX5_isWithin := goodIn_r _ [8] (by decide +kernel) (by decide +kernel)
set_option maxRecDepth 20000 in
theorem gX5_dial_X5_isWithin : GoodIn wsX5_dial (va_wsS RX5 45 yX5_isWithin wsX5_isWithin) := goodIn_app (goodIn_of _ (by decide +kernel)) ggX5_dial_X5_isWithin
set_option maxRecDepth 20000 in
theorem ggX5_dial_X5_demandArgument : GoodIn wsX5_dial wsX5_demandArgument := goodIn_ca (goodIn_r _ [16, 17, 18] (by decide +kernel) (by decide +kernel)) (goodIn_sub (fun _ h => List.mem_cons_of_mem _ (List.mem_append_right _ h)) (by decide +kernel))
set_option maxRecDepth 20000 in
theorem gX5_dial_X5_demandArgument : GoodIn wsX5_dial (va_wsS RX5 49 yX5_demandArgument wsX5_demandArgument) := goodIn_app (goodIn_of _ (by decide +kernel)) ggX5_dial_X5_demandArgument
set_option maxRecDepth 20000 in
theorem ggX5_dial_X5_at : GoodIn wsX5_dial wsX5_at := goodIn_r _ [21] (by decide +kernel) (by decide +kernel)
set_option maxRecDepth 20000 in
theorem gX5_dial_X5_at : GoodIn wsX5_dial (va_wsS RX5 90 yX5_at wsX5_at) := goodIn_app (goodIn_of _ (by decide +kernel)) ggX5_dial_X5_at
set_option maxRecDepth 20000 in
theorem ggX5_dial_X5_put : GoodIn wsX5_dial wsX5_put := goodIn_r _ [24] (by decide +kernel) (by decide +kernel)
set_option maxRecDepth 20000 in
theorem gX5_dial_X5_put : GoodIn wsX5_dial (va_wsS RX5 94 yX5_put wsX5_put) := goodIn_app (goodIn_of _ (by decide +kernel)) ggX5_dial_X5_put
set_option maxRecDepth 20000 in
theorem ggX5_claim_X0_isSetOfThem : GoodIn wsX5_claim wsX0_isSetOfThem := goodIn_r _ [7, 8, 40, 41, 42, 43] (by decide +kernel) (by decide +kernel)
set_option maxRecDepth 20000 in
theorem gX5_claim_X0_isSetOfThem : GoodIn wsX5_claim (wsV RX5 109 RX0 yX0_isSetOfThem wsX0_isSetOfThem) := goodIn_app (goodIn_of _ (by decide +kernel)) ggX5_claim_X0_isSetOfThem
set_option maxRecDepth 20000 in
theorem ggX5_claim_X5_demandArgument : GoodIn wsX5_claim wsX5_demandArgument := goodIn_ca (goodIn_r _ [12, 13, 14] (by decide +kernel) (by decide +kernel)) (goodIn_sub (fun _ h => List.mem_cons_of_mem _ (List.mem_append_left _ (List.mem_append_right _ h))) (by decide +kernel))
set_option maxRecDepth 20000 in
theorem gX5_claim_X5_demandArgument : GoodIn wsX5_claim (va_wsS RX5 49 yX5_demandArgument wsX5_demandArgument) := goodIn_app (goodIn_of _ (by decide +kernel)) ggX5_claim_X5_demandArgument
set_option maxRecDepth 20000 in
theorem ggX5_claim_X5_demandState : GoodIn wsX5_claim wsX5_demandState := goodIn_ca (goodIn_r _ [17, 18, 19] (by decide +kernel) (by decide +kernel)) (goodIn_sub (fun _ h => List.mem_cons_of_mem _ (List.mem_append_right _ h)) (by decide +kernel))
set_option maxRecDepth 20000 in
theorem gX5_claim_X5_demandState : GoodIn wsX5_claim (va_wsS RX5 57 yX5_demandState wsX5_demandState) := goodIn_app (goodIn_of _ (by decide +kernel)) ggX5_claim_X5_demandState
set_option maxRecDepth 20000 in
theorem ggX5_claim_X0_addClaim : GoodIn wsX5_claim wsX0_addClaim := goodIn_r _ [23, 8, 24, 25, 26, 11, 27, 28, 29, 30, 31, 40, 41, 42, 43] (by decide +kernel) (by decide +kernel)
set_option maxRecDepth 20000 in
theorem gX5_claim_X0_addClaim : GoodIn wsX5_claim (wsV RX5 116 RX0 yX0_addClaim wsX0_addClaim) := goodIn_app (goodIn_of _ (by decide +kernel)) ggX5_claim_X0_addClaim
set_option maxRecDepth 20000 in
theorem ggX5_withdraw_X5_demandClaim : GoodIn wsX5_withdraw wsX5_demandClaim := goodIn_ca (goodIn_r _ [6, 1, 7, 8, 9, 5, 10, 11, 12, 13, 14, 15, 43, 44, 45, 46, 47, 48, 49, 50, 51, 52, 53, 54] (by decide +kernel) (by decide +kernel)) (goodIn_sub (fun _ h => List.mem_cons_of_mem _ (List.mem_append_right _ h)) (by decide +kernel))
set_option maxRecDepth 20000 in
theorem gX5_withdraw_X5_demandClaim : GoodIn wsX5_withdraw (wsV RX5 119 RX5 yX5_demandClaim wsX5_demandClaim) := goodIn_app (goodIn_of _ (by decide +kernel)) ggX5_withdraw_X5_demandClaim
set_option maxRecDepth 20000 in
theorem ggX5_withdraw_X0_setWithdrawn : GoodIn wsX5_withdraw wsX0_setWithdrawn := goodIn_r _ [20, 21, 51, 52, 53, 54] (by decide +kernel) (by decide +kernel)
set_option maxRecDepth 20000 in
theorem gX5_withdraw_X0_setWithdrawn : GoodIn wsX5_withdraw (wsV RX5 122 RX0 yX0_setWithdrawn wsX0_setWithdrawn) := goodIn_app (goodIn_of _ (by decide +kernel)) ggX5_withdraw_X0_setWithdrawn
set_option maxRecDepth 20000 in
theorem ggX5_withdraw_X0_countStanding : GoodIn wsX5_withdraw wsX0_countStanding := goodIn_r _ [25, 21, 26, 27, 28, 19, 29, 30, 31, 32, 5, 33, 34, 35, 36, 37, 38, 39, 40, 41, 42, 51, 52, 53, 54] (by decide +kernel) (by decide +kernel)
set_option maxRecDepth 20000 in
theorem gX5_withdraw_X0_countStanding : GoodIn wsX5_withdraw (wsV RX5 126 RX0 yX0_countStanding wsX0_countStanding) := goodIn_app (goodIn_of _ (by decide +kernel)) ggX5_withdraw_X0_countStanding
set_option maxRecDepth 20000 in
theorem ggX5_ofAxle_X5_demandAxle : GoodIn wsX5_ofAxle wsX5_demandAxle := goodIn_ca (goodIn_r _ [4, 5, 6, 3, 7, 8, 9, 10, 11, 12] (by decide +kernel) (by decide +kernel)) (goodIn_sub (fun _ h => List.mem_cons_of_mem _ (List.mem_append_left _ (List.mem_append_right _ h))) (by decide +kernel))
set_option maxRecDepth 20000 in
theorem gX5_ofAxle_X5_demandAxle : GoodIn wsX5_ofAxle (va_wsS RX5 41 yX5_demandAxle wsX5_demandAxle) := goodIn_app (goodIn_of _ (by decide +kernel)) ggX5_ofAxle_X5_demandAxle
set_option maxRecDepth 20000 in
theorem ggX5_ofAxle_X5_isWithin : GoodIn wsX5_ofAxle wsX5_isWithin := goodIn_r _ [7] (by decide +kernel) (by decide +kernel)
set_option maxRecDepth 20000 in
theorem gX5_ofAxle_X5_isWithin : GoodIn wsX5_ofAxle (va_wsS RX5 45 yX5_isWithin wsX5_isWithin) := goodIn_app (goodIn_of _ (by decide +kernel)) ggX5_ofAxle_X5_isWithin
set_option maxRecDepth 20000 in
theorem ggX5_ofAxle_X5_demandArgument : GoodIn wsX5_ofAxle wsX5_demandArgument := goodIn_ca (goodIn_r _ [15, 16, 17] (by decide +kernel) (by decide +kernel)) (goodIn_sub (fun _ h => List.mem_cons_of_mem _ (List.mem_append_right _ h)) (by decide +kernel))
set_option maxRecDepth 20000 in
theorem gX5_ofAxle_X5_demandArgument : GoodIn wsX5_ofAxle (va_wsS RX5 49 yX5_demandArgument wsX5_demandArgument) := goodIn_app (goodIn_of _ (by decide +kernel)) ggX5_ofAxle_X5_demandArgument
set_option maxRecDepth 20000 in
theorem ggX5_ofAxle_X5_axleFraction : GoodIn wsX5_ofAxle wsX5_axleFraction := goodIn_r _ [21, 22, 23, 24, 25, 26, 27, 28, 29, 30, 31, 32, 33, 34, 35, 36, 37, 38, 39, 40, 41, 42, 43, 44, 45, 46, 47, 48, 49, 50, 51, 52, 53, 54, 3, 55, 56, 57, 58, 59, 60, 61, 62, 63, 68, 69, 70, 71, 72, 73, 74, 75, 76, 77, 78, 79, 80, 81, 82, 83, 84, 85] (by decide +kernel) (by decide +kernel)
set_option maxRecDepth 20000 in
theorem gX5_ofAxle_X5_axleFraction : GoodIn wsX5_ofAxle (wsV RX5 130 RX5 yX5_axleFraction wsX5_axleFraction) := goodIn_app (goodIn_of _ (by decide +kernel)) ggX5_ofAxle_X5_axleFraction
set_option maxRecDepth 20000 in
theorem ggX5_ofAxle_X1_told : GoodIn wsX5_ofAxle wsX1_told := goodIn_r _ [67, 46, 47, 84, 85] (by decide +kernel) (by decide +kernel)
set_option maxRecDepth 20000 in
theorem gX5_ofAxle_X1_told : GoodIn wsX5_ofAxle (wsV RX5 134 RX1 yX1_told wsX1_told) := goodIn_app (goodIn_of _ (by decide +kernel)) ggX5_ofAxle_X1_told
set_option maxRecDepth 20000 in
theorem ggX5_ofWheel_X5_demandWheel : GoodIn wsX5_ofWheel wsX5_demandWheel := goodIn_ca (goodIn_r _ [6, 1, 7, 8, 9, 5, 10, 11, 12, 13, 14, 15, 47, 48, 49, 50, 51, 52, 53, 54, 55, 56, 57, 58, 59, 60, 61, 62] (by decide +kernel) (by decide +kernel)) (goodIn_sub (fun _ h => List.mem_cons_of_mem _ (List.mem_append_left _ (List.mem_append_right _ h))) (by decide +kernel))
set_option maxRecDepth 20000 in
theorem gX5_ofWheel_X5_demandWheel : GoodIn wsX5_ofWheel (wsV RX5 64 RX5 yX5_demandWheel wsX5_demandWheel) := goodIn_app (goodIn_of _ (by decide +kernel)) ggX5_ofWheel_X5_demandWheel
set_option maxRecDepth 20000 in
theorem ggX5_ofWheel_X5_isWithin : GoodIn wsX5_ofWheel wsX5_isWithin := goodIn_r _ [10] (by decide +kernel) (by decide +kernel)
set_option maxRecDepth 20000 in
theorem gX5_ofWheel_X5_isWithin : GoodIn wsX5_ofWheel (va_wsS RX5 45 yX5_isWithin wsX5_isWithin) := goodIn_app (goodIn_of _ (by decide +kernel)) ggX5_ofWheel_X5_isWithin
set_option maxRecDepth 20000 in
theorem ggX5_ofWheel_X5_demandArgument : GoodIn wsX5_ofWheel wsX5_demandArgument := goodIn_ca (goodIn_r _ [18, 19, 20] (by decide +kernel) (by decide +kernel)) (goodIn_sub (fun _ h => List.mem_cons_of_mem _ (List.mem_append_right _ h)) (by decide +kernel))
set_option maxRecDepth 20000 in
theorem gX5_ofWheel_X5_demandArgument : GoodIn wsX5_ofWheel (va_wsS RX5 49 yX5_demandArgument wsX5_demandArgument) := goodIn_app (goodIn_of _ (by decide +kernel)) ggX5_ofWheel_X5_demandArgument
set_option maxRecDepth 20000 in
theorem ggX5_ofWheel_X2_axleOf : GoodIn wsX5_ofWheel wsX2_axleOf := goodIn_r _ [25, 26, 27, 5, 28, 55, 56, 57, 58, 59, 60, 61, 62] (by decide +kernel) (by decide +kernel)
set_option maxRecDepth 20000 in
theorem gX5_ofWheel_X2_axleOf : GoodIn wsX5_ofWheel (wsV RX5 140 RX2 yX2_axleOf wsX2_axleOf) := goodIn_app (goodIn_of _ (by decide +kernel)) ggX5_ofWheel_X2_axleOf
set_option maxRecDepth 20000 in
theorem ggX5_ofWheel_X2_teethOf : GoodIn wsX5_ofWheel wsX2_teethOf := goodIn_r _ [32, 33, 27, 5, 28, 55, 56, 57, 58, 59, 60, 61, 62] (by decide +kernel) (by decide +kernel)
set_option maxRecDepth 20000 in
theorem gX5_ofWheel_X2_teethOf : GoodIn wsX5_ofWheel (wsV RX5 143 RX2 yX2_teethOf wsX2_teethOf) := goodIn_app (goodIn_of _ (by decide +kernel)) ggX5_ofWheel_X2_teethOf
set_option maxRecDepth 20000 in
theorem ggX5_ofWheel_X2_meshedWith : GoodIn wsX5_ofWheel wsX2_meshedWith := goodIn_r _ [37, 38, 27, 5, 28, 55, 56, 57, 58, 59, 60, 61, 62] (by decide +kernel) (by decide +kernel)
set_option maxRecDepth 20000 in
theorem gX5_ofWheel_X2_meshedWith : GoodIn wsX5_ofWheel (wsV RX5 146 RX2 yX2_meshedWith wsX2_meshedWith) := goodIn_app (goodIn_of _ (by decide +kernel)) ggX5_ofWheel_X2_meshedWith
set_option maxRecDepth 20000 in
theorem ggX5_ofWheel_X2_isMoved : GoodIn wsX5_ofWheel wsX2_isMoved := goodIn_r _ [42, 43, 44, 45, 24, 46, 55, 56, 57, 58, 59, 60, 61, 62] (by decide +kernel) (by decide +kernel)
set_option maxRecDepth 20000 in
theorem gX5_ofWheel_X2_isMoved : GoodIn wsX5_ofWheel (wsV RX5 149 RX2 yX2_isMoved wsX2_isMoved) := goodIn_app (goodIn_of _ (by decide +kernel)) ggX5_ofWheel_X2_isMoved
set_option maxRecDepth 20000 in
theorem ggX5_passed_X5_demandWheel : GoodIn wsX5_passed wsX5_demandWheel := goodIn_ca (goodIn_r _ [5, 6, 7, 8, 9, 4, 10, 11, 12, 13, 14, 15, 64, 65, 66, 67, 68, 69, 70, 71, 72, 73, 74, 75, 76, 77, 78, 79] (by decide +kernel) (by decide +kernel)) (goodIn_sub (fun _ h => List.mem_cons_of_mem _ (List.mem_append_right _ h)) (by decide +kernel))
set_option maxRecDepth 20000 in
theorem gX5_passed_X5_demandWheel : GoodIn wsX5_passed (wsV RX5 64 RX5 yX5_demandWheel wsX5_demandWheel) := goodIn_app (goodIn_of _ (by decide +kernel)) ggX5_passed_X5_demandWheel
set_option maxRecDepth 20000 in
theorem ggX5_passed_X5_passedBy : GoodIn wsX5_passed wsX5_passedBy := goodIn_r _ [19, 6, 20, 21, 22, 23, 24, 25, 26, 27, 4, 28, 29, 30, 31, 32, 33, 34, 35, 36, 37, 38, 39, 40, 41, 42, 43, 44, 45, 46, 47, 48, 49, 50, 51, 52, 53, 54, 55, 56, 57, 58, 59, 64, 65, 66, 67, 68, 69, 70, 71, 72, 73, 74, 75, 76, 77, 78, 79, 80, 81] (by decide +kernel) (by decide +kernel)
set_option maxRecDepth 20000 in
theorem gX5_passed_X5_passedBy : GoodIn wsX5_passed (wsV RX5 152 RX5 yX5_passedBy wsX5_passedBy) := goodIn_app (goodIn_of _ (by decide +kernel)) ggX5_passed_X5_passedBy
set_option maxRecDepth 20000 in
theorem ggX5_passed_X1_told : GoodIn wsX5_passed wsX1_told := goodIn_r _ [63, 50, 51, 80, 81] (by decide +kernel) (by decide +kernel)
set_option maxRecDepth 20000 in
theorem gX5_passed_X1_told : GoodIn wsX5_passed (wsV RX5 134 RX1 yX1_told wsX1_told) := goodIn_app (goodIn_of _ (by decide +kernel)) ggX5_passed_X1_told
set_option maxRecDepth 20000 in
theorem ggX5_period_X2_turnsToReturn : GoodIn wsX5_period wsX2_turnsToReturn := goodIn_r _ [6, 7, 8, 9, 10, 5, 11, 12, 13, 14, 15, 16, 17, 18, 19, 28, 29, 30, 31, 32, 33, 34, 35, 36, 37] (by decide +kernel) (by decide +kernel)
set_option maxRecDepth 20000 in
theorem gX5_period_X2_turnsToReturn : GoodIn wsX5_period (wsV RX5 156 RX2 yX2_turnsToReturn wsX2_turnsToReturn) := goodIn_app (goodIn_of _ (by decide +kernel)) ggX5_period_X2_turnsToReturn
set_option maxRecDepth 20000 in
theorem ggX5_ofLump_X5_isWithin : GoodIn wsX5_ofLump wsX5_isWithin := goodIn_r _ [5] (by decide +kernel) (by decide +kernel)
set_option maxRecDepth 20000 in
theorem gX5_ofLump_X5_isWithin : GoodIn wsX5_ofLump (va_wsS RX5 45 yX5_isWithin wsX5_isWithin) := goodIn_app (goodIn_of _ (by decide +kernel)) ggX5_ofLump_X5_isWithin
set_option maxRecDepth 20000 in
theorem ggX5_ofLump_X5_demandIndex : GoodIn wsX5_ofLump wsX5_demandIndex := goodIn_ca (goodIn_r _ [8, 9, 10] (by decide +kernel) (by decide +kernel)) (goodIn_sub (fun _ h => List.mem_cons_of_mem _ (List.mem_append_left _ (List.mem_append_right _ h))) (by decide +kernel))
set_option maxRecDepth 20000 in
theorem gX5_ofLump_X5_demandIndex : GoodIn wsX5_ofLump (va_wsS RX5 98 yX5_demandIndex wsX5_demandIndex) := goodIn_app (goodIn_of _ (by decide +kernel)) ggX5_ofLump_X5_demandIndex
set_option maxRecDepth 20000 in
theorem ggX5_ofLump_X5_demandArgument : GoodIn wsX5_ofLump wsX5_demandArgument := goodIn_ca (goodIn_r _ [13, 14, 15] (by decide +kernel) (by decide +kernel)) (goodIn_sub (fun _ h => List.mem_cons_of_mem _ (List.mem_append_right _ h)) (by decide +kernel))
set_option maxRecDepth 20000 in
theorem gX5_ofLump_X5_demandArgument : GoodIn wsX5_ofLump (va_wsS RX5 49 yX5_demandArgument wsX5_demandArgument) := goodIn_app (goodIn_of _ (by decide +kernel)) ggX5_ofLump_X5_demandArgument
set_option maxRecDepth 20000 in
theorem ggX5_ofLump_X3_piecesOf : GoodIn wsX5_ofLump wsX3_piecesOf := goodIn_r _ [20, 21, 22, 4, 23, 47, 48, 49, 50, 51, 52, 53] (by decide +kernel) (by decide +kernel)
set_option maxRecDepth 20000 in
theorem gX5_ofLump_X3_piecesOf : GoodIn wsX5_ofLump (wsV RX5 101 RX3 yX3_piecesOf wsX3_piecesOf) := goodIn_app (goodIn_of _ (by decide +kernel)) ggX5_ofLump_X3_piecesOf
set_option maxRecDepth 20000 in
theorem ggX5_ofLump_X3_agreeingOf : GoodIn wsX5_ofLump wsX3_agreeingOf := goodIn_r _ [27, 28, 22, 4, 23, 47, 48, 49, 50, 51, 52, 53] (by decide +kernel) (by decide +kernel)
set_option maxRecDepth 20000 in
theorem gX5_ofLump_X3_agreeingOf : GoodIn wsX5_ofLump (wsV RX5 163 RX3 yX3_agreeingOf wsX3_agreeingOf) := goodIn_app (goodIn_of _ (by decide +kernel)) ggX5_ofLump_X3_agreeingOf
set_option maxRecDepth 20000 in
theorem ggX5_ofLump_X3_leastOf : GoodIn wsX5_ofLump wsX3_leastOf := goodIn_r _ [32, 33, 22, 4, 23, 47, 48, 49, 50, 51, 52, 53] (by decide +kernel) (by decide +kernel)
set_option maxRecDepth 20000 in
theorem gX5_ofLump_X3_leastOf : GoodIn wsX5_ofLump (wsV RX5 166 RX3 yX3_leastOf wsX3_leastOf) := goodIn_app (goodIn_of _ (by decide +kernel)) ggX5_ofLump_X3_leastOf
set_option maxRecDepth 20000 in
theorem ggX5_ofLump_X3_greatestOf : GoodIn wsX5_ofLump wsX3_greatestOf := goodIn_r _ [37, 38, 22, 4, 23, 47, 48, 49, 50, 51, 52, 53] (by decide +kernel) (by decide +kernel)
set_option maxRecDepth 20000 in
theorem gX5_ofLump_X3_greatestOf : GoodIn wsX5_ofLump (wsV RX5 169 RX3 yX3_greatestOf wsX3_greatestOf) := goodIn_app (goodIn_of _ (by decide +kernel)) ggX5_ofLump_X3_greatestOf
set_option maxRecDepth 20000 in
theorem ggX5_ofClaim_X5_demandClaim : GoodIn wsX5_ofClaim wsX5_demandClaim := goodIn_ca (goodIn_r _ [6, 1, 7, 8, 9, 5, 10, 11, 12, 13, 14, 15, 60, 61, 62, 63, 64, 65, 66, 67, 68, 69, 70, 71] (by decide +kernel) (by decide +kernel)) (goodIn_sub (fun _ h => List.mem_cons_of_mem _ (List.mem_append_left _ (List.mem_append_right _ h))) (by decide +kernel))
set_option maxRecDepth 20000 in
theorem gX5_ofClaim_X5_demandClaim : GoodIn wsX5_ofClaim (wsV RX5 119 RX5 yX5_demandClaim wsX5_demandClaim) := goodIn_app (goodIn_of _ (by decide +kernel)) ggX5_ofClaim_X5_demandClaim
set_option maxRecDepth 20000 in
theorem ggX5_ofClaim_X5_isWithin : GoodIn wsX5_ofClaim wsX5_isWithin := goodIn_r _ [10] (by decide +kernel) (by decide +kernel)
set_option maxRecDepth 20000 in
theorem gX5_ofClaim_X5_isWithin : GoodIn wsX5_ofClaim (va_wsS RX5 45 yX5_isWithin wsX5_isWithin) := goodIn_app (goodIn_of _ (by decide +kernel)) ggX5_ofClaim_X5_isWithin
set_option maxRecDepth 20000 in
theorem ggX5_ofClaim_X5_demandArgument : GoodIn wsX5_ofClaim wsX5_demandArgument := goodIn_ca (goodIn_r _ [18, 19, 20] (by decide +kernel) (by decide +kernel)) (goodIn_sub (fun _ h => List.mem_cons_of_mem _ (List.mem_append_right _ h)) (by decide +kernel))
set_option maxRecDepth 20000 in
theorem gX5_ofClaim_X5_demandArgument : GoodIn wsX5_ofClaim (va_wsS RX5 49 yX5_demandArgument wsX5_demandArgument) := goodIn_app (goodIn_of _ (by decide +kernel)) ggX5_ofClaim_X5_demandArgument
set_option maxRecDepth 20000 in
theorem ggX5_ofClaim_X0_hangsOn : GoodIn wsX5_ofClaim wsX0_hangsOn := goodIn_r _ [25, 26, 27, 5, 28, 68, 69, 70, 71] (by decide +kernel) (by decide +kernel)
set_option maxRecDepth 20000 in
theorem gX5_ofClaim_X0_hangsOn : GoodIn wsX5_ofClaim (wsV RX5 172 RX0 yX0_hangsOn wsX0_hangsOn) := goodIn_app (goodIn_of _ (by decide +kernel)) ggX5_ofClaim_X0_hangsOn
set_option maxRecDepth 20000 in
theorem ggX5_ofClaim_X0_isWithdrawn : GoodIn wsX5_ofClaim wsX0_isWithdrawn := goodIn_r _ [32, 33, 34, 5, 35, 68, 69, 70, 71] (by decide +kernel) (by decide +kernel)
set_option maxRecDepth 20000 in
theorem gX5_ofClaim_X0_isWithdrawn : GoodIn wsX5_ofClaim (wsV RX5 175 RX0 yX0_isWithdrawn wsX0_isWithdrawn) := goodIn_app (goodIn_of _ (by decide +kernel)) ggX5_ofClaim_X0_isWithdrawn
set_option maxRecDepth 20000 in
theorem ggX5_ofClaim_X0_isStanding : GoodIn wsX5_ofClaim wsX0_isStanding := goodIn_r _ [39, 33, 40, 41, 42, 24, 43, 44, 26, 34, 5, 35, 27, 28, 68, 69, 70, 71] (by decide +kernel) (by decide +kernel)
set_option maxRecDepth 20000 in
theorem gX5_ofClaim_X0_isStanding : GoodIn wsX5_ofClaim (wsV RX5 178 RX0 yX0_isStanding wsX0_isStanding) := goodIn_app (goodIn_of _ (by decide +kernel)) ggX5_ofClaim_X0_isStanding
set_option maxRecDepth 20000 in
theorem ggX5_ofClaim_X0_fallingWith : GoodIn wsX5_ofClaim wsX0_fallingWith := goodIn_r _ [48, 33, 49, 50, 51, 24, 52, 40, 41, 42, 43, 44, 26, 34, 5, 35, 27, 28, 53, 54, 55, 56, 57, 58, 59, 68, 69, 70, 71] (by decide +kernel) (by decide +kernel)
set_option maxRecDepth 20000 in
theorem gX5_ofClaim_X0_fallingWith : GoodIn wsX5_ofClaim (wsV RX5 181 RX0 yX0_fallingWith wsX0_fallingWith) := goodIn_app (goodIn_of _ (by decide +kernel)) ggX5_ofClaim_X0_fallingWith
set_option maxRecDepth 20000 in
theorem ggX5_house_X5_isWithin : GoodIn wsX5_house wsX5_isWithin := goodIn_r _ [12] (by decide +kernel) (by decide +kernel)
set_option maxRecDepth 20000 in
theorem gX5_house_X5_isWithin : GoodIn wsX5_house (va_wsS RX5 45 yX5_isWithin wsX5_isWithin) := goodIn_app (goodIn_of _ (by decide +kernel)) ggX5_house_X5_isWithin
set_option maxRecDepth 20000 in
theorem ggX5_house_X5_demandArgument : GoodIn wsX5_house wsX5_demandArgument := goodIn_ca (goodIn_r _ [15, 16, 17] (by decide +kernel) (by decide +kernel)) (goodIn_sub (fun _ h => List.mem_cons_of_mem _ (List.mem_append_right _ h)) (by decide +kernel))
set_option maxRecDepth 20000 in
theorem gX5_house_X5_demandArgument : GoodIn wsX5_house (va_wsS RX5 49 yX5_demandArgument wsX5_demandArgument) := goodIn_app (goodIn_of _ (by decide +kernel)) ggX5_house_X5_demandArgument
set_option maxRecDepth 20000 in
theorem ggX5_house_X2_countMeshes : GoodIn wsX5_house wsX2_countMeshes := goodIn_r _ [22, 23, 24, 25, 26, 21, 27, 28, 29, 11, 30, 31, 32, 33, 34, 35, 36, 37, 83, 84, 85, 86, 87, 88, 89, 90] (by decide +kernel) (by decide +kernel)
set_option maxRecDepth 20000 in
theorem gX5_house_X2_countMeshes : GoodIn wsX5_house (wsV RX5 184 RX2 yX2_countMeshes wsX2_countMeshes) := goodIn_app (goodIn_of _ (by decide +kernel)) ggX5_house_X2_countMeshes
set_option maxRecDepth 20000 in
theorem ggX5_house_X2_countMoved : GoodIn wsX5_house wsX2_countMoved := goodIn_r _ [41, 42, 43, 44, 21, 45, 46, 47, 48, 49, 83, 84, 85, 86, 87, 88, 89, 90] (by decide +kernel) (by decide +kernel)
set_option maxRecDepth 20000 in
theorem gX5_house_X2_countMoved : GoodIn wsX5_house (wsV RX5 187 RX2 yX2_countMoved wsX2_countMoved) := goodIn_app (goodIn_of _ (by decide +kernel)) ggX5_house_X2_countMoved
set_option maxRecDepth 20000 in
theorem ggX5_house_X0_countStanding : GoodIn wsX5_house wsX0_countStanding := goodIn_r _ [54, 55, 56, 57, 58, 53, 59, 60, 61, 62, 11, 63, 29, 30, 64, 32, 33, 34, 35, 36, 37, 91, 92, 93, 94] (by decide +kernel) (by decide +kernel)
set_option maxRecDepth 20000 in
theorem gX5_house_X0_countStanding : GoodIn wsX5_house (wsV RX5 126 RX0 yX0_countStanding wsX0_countStanding) := goodIn_app (goodIn_of _ (by decide +kernel)) ggX5_house_X0_countStanding
set_option maxRecDepth 20000 in
theorem ggX5_house_X3_countPieces : GoodIn wsX5_house wsX3_countPieces := goodIn_r _ [69, 70, 71, 72, 68, 73, 74, 29, 11, 30, 95, 96, 97, 98, 99, 100, 101] (by decide +kernel) (by decide +kernel)
set_option maxRecDepth 20000 in
theorem gX5_house_X3_countPieces : GoodIn wsX5_house (wsV RX5 190 RX3 yX3_countPieces wsX3_countPieces) := goodIn_app (goodIn_of _ (by decide +kernel)) ggX5_house_X3_countPieces
set_option maxRecDepth 20000 in
theorem ggX5_isSound_X5_doMeshesPassAlike : GoodIn wsX5_isSound wsX5_doMeshesPassAlike := goodIn_r _ [7, 1, 8, 9, 10, 11, 6, 12, 13, 14, 15, 16, 17, 18, 19, 20, 21, 22, 23, 24, 25, 26, 27, 28, 29, 30, 31, 32, 33, 34, 35, 36, 37, 38, 39, 40, 41, 42, 43, 44, 45, 46, 47, 48, 49, 50, 51, 52, 53, 54, 55, 56, 57, 58, 59, 60, 61, 62, 63, 64, 65, 66, 67, 91, 92, 93, 94, 95, 96, 97, 98, 99, 100, 101, 102, 103, 104, 105, 106, 107, 108] (by decide +kernel) (by decide +kernel)
set_option maxRecDepth 20000 in
theorem gX5_isSound_X5_doMeshesPassAlike : GoodIn wsX5_isSound (wsV RX5 238 RX5 yX5_doMeshesPassAlike wsX5_doMeshesPassAlike) := goodIn_app (goodIn_of _ (by decide +kernel)) ggX5_isSound_X5_doMeshesPassAlike
set_option maxRecDepth 20000 in
theorem ggX5_isSound_X2_isPeriodRight : GoodIn wsX5_isSound wsX2_isPeriodRight := goodIn_r _ [71, 72, 73, 74, 75, 17, 76, 77, 23, 24, 25, 26, 27, 28, 29, 30, 51, 6, 52, 107, 108, 99, 100, 101, 102, 103, 104, 105, 106] (by decide +kernel) (by decide +kernel)
set_option maxRecDepth 20000 in
theorem gX5_isSound_X2_isPeriodRight : GoodIn wsX5_isSound (wsV RX5 242 RX2 yX2_isPeriodRight wsX2_isPeriodRight) := goodIn_app (goodIn_of _ (by decide +kernel)) ggX5_isSound_X2_isPeriodRight
set_option maxRecDepth 20000 in
theorem ggX5_isSound_X0_areConsistent : GoodIn wsX5_isSound wsX0_areConsistent := goodIn_r _ [82, 83, 84, 85, 86, 87, 88, 81, 89, 90, 62, 6, 63, 20, 21, 109, 110, 111, 112] (by decide +kernel) (by decide +kernel)
set_option maxRecDepth 20000 in
theorem gX5_isSound_X0_areConsistent : GoodIn wsX5_isSound (wsV RX5 245 RX0 yX0_areConsistent wsX0_areConsistent) := goodIn_app (goodIn_of _ (by decide +kernel)) ggX5_isSound_X0_areConsistent
set_option maxRecDepth 20000 in
theorem ggX5_digest_X5_house : GoodIn wsX5_digest wsX5_house := goodIn_ca (goodIn_r _ [8, 9, 10, 11, 2, 3, 12, 13, 14, 15, 16, 7, 17, 18, 19, 20, 21, 22, 23, 24, 25, 26, 27, 28, 29, 30, 31, 32, 33, 34, 35, 36, 37, 38, 39, 40, 41, 42, 43, 44, 45, 46, 47, 48, 49, 50, 51, 52, 53, 54, 55, 56, 57, 58, 59, 60, 61, 62, 63, 64, 65, 66, 67, 68, 69, 70, 71, 72, 73, 74, 75, 76, 77, 78, 79, 256, 257, 258, 259, 260, 261, 262, 263, 268, 269, 270, 271, 272, 273, 274, 275, 264, 265, 266, 267, 276, 277, 278, 279, 280, 281, 282] (by decide +kernel) (by decide +kernel)) (goodIn_sub (fun _ h => List.mem_cons_of_mem _ (List.mem_append_left _ (List.mem_append_right _ h))) (by decide +kernel))
set_option maxRecDepth 20000 in
theorem gX5_digest_X5_house : GoodIn wsX5_digest (wsV RX5 250 RX5 yX5_house wsX5_house) := goodIn_app (goodIn_of _ (by decide +kernel)) ggX5_digest_X5_house
set_option maxRecDepth 20000 in
theorem ggX5_digest_X5_mixed : GoodIn wsX5_digest wsX5_mixed := goodIn_r _ [82, 83] (by decide +kernel) (by decide +kernel)
set_option maxRecDepth 20000 in
theorem gX5_digest_X5_mixed : GoodIn wsX5_digest (va_wsS RX5 253 yX5_mixed wsX5_mixed) := goodIn_app (goodIn_of _ (by decide +kernel)) ggX5_digest_X5_mixed
set_option maxRecDepth 20000 in
theorem ggX5_digest_X5_mixedAxles : GoodIn wsX5_digest wsX5_mixedAxles := goodIn_r _ [87, 11, 88, 89, 90, 7, 91, 9, 92, 93, 94, 26, 95, 51, 96, 52, 53, 54, 97, 98, 99, 100, 101, 102, 103, 104, 105, 106, 107, 108, 109, 110, 111, 112, 113, 114, 115, 116, 117, 118, 119, 120, 121, 122, 123, 124, 125, 126, 127, 128, 129, 130, 131, 80, 81, 82, 83, 132, 133, 134, 135, 136, 137, 34, 35, 138, 139, 140, 141, 256, 257, 258, 259, 260, 261, 262, 263, 268, 269, 270, 271, 272, 273, 274, 275, 283, 284] (by decide +kernel) (by decide +kernel)
set_option maxRecDepth 20000 in
theorem gX5_digest_X5_mixedAxles : GoodIn wsX5_digest (wsV RX5 257 RX5 yX5_mixedAxles wsX5_mixedAxles) := goodIn_app (goodIn_of _ (by decide +kernel)) ggX5_digest_X5_mixedAxles
set_option maxRecDepth 20000 in
theorem ggX5_digest_X5_mixedWheels : GoodIn wsX5_digest wsX5_mixedWheels := goodIn_ca (goodIn_ca (goodIn_r _ [145, 9, 10, 146, 147, 148, 7, 149, 150, 151, 152, 153, 15, 16, 17, 154, 155, 156, 157, 158, 18, 19, 20, 21, 22, 159, 160, 161, 26, 162, 163, 34, 35, 164, 165, 166, 167, 168, 169, 30, 31, 32, 33, 170, 48, 49, 50, 51, 52, 53, 54, 80, 81, 82, 83, 171, 172, 173, 174, 11, 92, 93, 94, 95, 96, 175, 103, 104, 105, 106, 107, 108, 109, 110, 111, 112, 113, 114, 115, 116, 117, 118, 127, 128, 129, 130, 131, 256, 257, 258, 259, 260, 261, 262, 263, 268, 269, 270, 271, 272, 273, 274, 275, 283, 284] (by decide +kernel) (by decide +kernel)) (goodIn_sub (fun _ h => List.mem_cons_of_mem _ (List.mem_append_right _ h)) (by decide +kernel))) (goodIn_sub (fun _ h => List.mem_cons_of_mem _ (List.mem_append_left _ (List.mem_append_right _ h))) (by decide +kernel))
set_option maxRecDepth 20000 in
theorem gX5_digest_X5_mixedWheels : GoodIn wsX5_digest (wsV RX5 261 RX5 yX5_mixedWheels wsX5_mixedWheels) := goodIn_app (goodIn_of _ (by decide +kernel)) ggX5_digest_X5_mixedWheels
set_option maxRecDepth 20000 in
theorem ggX5_digest_X5_period : GoodIn wsX5_digest wsX5_period := goodIn_r _ [179, 9, 180, 181, 182, 26, 183, 184, 101, 93, 94, 95, 51, 96, 52, 53, 54, 117, 7, 118, 256, 257, 258, 259, 260, 261, 262, 263, 283, 284, 268, 269, 270, 271, 272, 273, 274, 275] (by decide +kernel) (by decide +kernel)
set_option maxRecDepth 20000 in
theorem gX5_digest_X5_period : GoodIn wsX5_digest (wsV RX5 264 RX5 yX5_period wsX5_period) := goodIn_app (goodIn_of _ (by decide +kernel)) ggX5_digest_X5_period
set_option maxRecDepth 20000 in
theorem ggX5_digest_X5_ofLump : GoodIn wsX5_digest wsX5_ofLump := goodIn_ca (goodIn_ca (goodIn_r _ [188, 12, 15, 16, 7, 17, 154, 155, 156, 157, 158, 18, 19, 20, 21, 22, 189, 76, 77, 73, 78, 79, 34, 35, 190, 191, 192, 193, 194, 195, 196, 197, 198, 199, 200, 201, 202, 203, 204, 256, 257, 258, 259, 260, 261, 262, 263, 276, 277, 278, 279, 280, 281, 282] (by decide +kernel) (by decide +kernel)) (goodIn_sub (fun _ h => List.mem_cons_of_mem _ (List.mem_append_right _ h)) (by decide +kernel))) (goodIn_sub (fun _ h => List.mem_cons_of_mem _ (List.mem_append_left _ (List.mem_append_right _ h))) (by decide +kernel))
set_option maxRecDepth 20000 in
theorem gX5_digest_X5_ofLump : GoodIn wsX5_digest (wsV RX5 267 RX5 yX5_ofLump wsX5_ofLump) := goodIn_app (goodIn_of _ (by decide +kernel)) ggX5_digest_X5_ofLump
set_option maxRecDepth 20000 in
theorem ggX5_digest_X5_ofClaim : GoodIn wsX5_digest wsX5_ofClaim := goodIn_ca (goodIn_ca (goodIn_r _ [208, 2, 209, 210, 211, 7, 212, 3, 15, 16, 17, 154, 155, 156, 157, 158, 18, 19, 20, 21, 22, 213, 214, 215, 58, 216, 66, 34, 35, 217, 218, 219, 220, 60, 67, 68, 221, 222, 223, 224, 61, 62, 63, 64, 65, 225, 226, 227, 228, 229, 56, 57, 59, 69, 37, 38, 39, 40, 41, 42, 256, 257, 258, 259, 260, 261, 262, 263, 264, 265, 266, 267] (by decide +kernel) (by decide +kernel)) (goodIn_sub (fun _ h => List.mem_cons_of_mem _ (List.mem_append_right _ h)) (by decide +kernel))) (goodIn_sub (fun _ h => List.mem_cons_of_mem _ (List.mem_append_left _ (List.mem_append_right _ h))) (by decide +kernel))
set_option maxRecDepth 20000 in
theorem gX5_digest_X5_ofClaim : GoodIn wsX5_digest (wsV RX5 270 RX5 yX5_ofClaim wsX5_ofClaim) := goodIn_app (goodIn_of _ (by decide +kernel)) ggX5_digest_X5_ofClaim
set_option maxRecDepth 20000 in
theorem ggX5_digest_X5_isSound : GoodIn wsX5_digest wsX5_isSound := goodIn_r _ [233, 9, 2, 234, 235, 236, 7, 237, 10, 171, 172, 173, 174, 11, 159, 160, 161, 26, 162, 163, 34, 35, 92, 93, 94, 95, 51, 96, 52, 53, 54, 164, 165, 166, 167, 168, 175, 103, 104, 105, 106, 107, 108, 109, 110, 111, 112, 113, 114, 115, 116, 117, 118, 238, 239, 240, 241, 29, 30, 31, 32, 33, 67, 68, 242, 243, 244, 245, 246, 247, 248, 249, 184, 250, 181, 182, 183, 101, 251, 252, 253, 58, 254, 60, 65, 255, 61, 62, 63, 64, 66, 256, 257, 258, 259, 260, 261, 262, 263, 268, 269, 270, 271, 272, 273, 274, 275, 283, 284, 264, 265, 266, 267] (by decide +kernel) (by decide +kernel)
set_option maxRecDepth 20000 in
theorem gX5_digest_X5_isSound : GoodIn wsX5_digest (wsV RX5 273 RX5 yX5_isSound wsX5_isSound) := goodIn_app (goodIn_of _ (by decide +kernel)) ggX5_digest_X5_isSound
set_option maxRecDepth 20000 in
theorem ggX5_demandAxle_X5_isWithin : GoodIn wsX5_demandAxle wsX5_isWithin := goodIn_r _ [4] (by decide +kernel) (by decide +kernel)
set_option maxRecDepth 20000 in
theorem gX5_demandAxle_X5_isWithin : GoodIn wsX5_demandAxle (va_wsS RX5 45 yX5_isWithin wsX5_isWithin) := goodIn_app (goodIn_of _ (by decide +kernel)) ggX5_demandAxle_X5_isWithin
set_option maxRecDepth 20000 in
theorem ggX5_demandAxle_X5_demandIndex : GoodIn wsX5_demandAxle wsX5_demandIndex := goodIn_ca (goodIn_r _ [7, 8, 9] (by decide +kernel) (by decide +kernel)) (goodIn_sub (fun _ h => List.mem_cons_of_mem _ (List.mem_append_right _ h)) (by decide +kernel))
set_option maxRecDepth 20000 in
theorem gX5_demandAxle_X5_demandIndex : GoodIn wsX5_demandAxle (va_wsS RX5 98 yX5_demandIndex wsX5_demandIndex) := goodIn_app (goodIn_of _ (by decide +kernel)) ggX5_demandAxle_X5_demandIndex
set_option maxRecDepth 20000 in
theorem ggX5_demandWheel_X5_isWithin : GoodIn wsX5_demandWheel wsX5_isWithin := goodIn_r _ [6] (by decide +kernel) (by decide +kernel)
set_option maxRecDepth 20000 in
theorem gX5_demandWheel_X5_isWithin : GoodIn wsX5_demandWheel (va_wsS RX5 45 yX5_isWithin wsX5_isWithin) := goodIn_app (goodIn_of _ (by decide +kernel)) ggX5_demandWheel_X5_isWithin
set_option maxRecDepth 20000 in
theorem ggX5_demandWheel_X5_demandIndex : GoodIn wsX5_demandWheel wsX5_demandIndex := goodIn_ca (goodIn_r _ [9, 10, 11] (by decide +kernel) (by decide +kernel)) (goodIn_sub (fun _ h => List.mem_cons_of_mem _ (List.mem_append_right _ h)) (by decide +kernel))
set_option maxRecDepth 20000 in
theorem gX5_demandWheel_X5_demandIndex : GoodIn wsX5_demandWheel (va_wsS RX5 98 yX5_demandIndex wsX5_demandIndex) := goodIn_app (goodIn_of _ (by decide +kernel)) ggX5_demandWheel_X5_demandIndex
set_option maxRecDepth 20000 in
theorem ggX5_demandClaim_X5_isWithin : GoodIn wsX5_demandClaim wsX5_isWithin := goodIn_r _ [6] (by decide +kernel) (by decide +kernel)
set_option maxRecDepth 20000 in
theorem gX5_demandClaim_X5_isWithin : GoodIn wsX5_demandClaim (va_wsS RX5 45 yX5_isWithin wsX5_isWithin) := goodIn_app (goodIn_of _ (by decide +kernel)) ggX5_demandClaim_X5_isWithin
set_option maxRecDepth 20000 in
theorem ggX5_demandClaim_X5_demandIndex : GoodIn wsX5_demandClaim wsX5_demandIndex := goodIn_ca (goodIn_r _ [9, 10, 11] (by decide +kernel) (by decide +kernel)) (goodIn_sub (fun _ h => List.mem_cons_of_mem _ (List.mem_append_right _ h)) (by decide +kernel))
set_option maxRecDepth 20000 in
theorem gX5_demandClaim_X5_demandIndex : GoodIn wsX5_demandClaim (va_wsS RX5 98 yX5_demandIndex wsX5_demandIndex) := goodIn_app (goodIn_of _ (by decide +kernel)) ggX5_demandClaim_X5_demandIndex
set_option maxRecDepth 20000 in
theorem ggX5_axleFraction_X2_rateOf : GoodIn wsX5_axleFraction wsX2_rateOf := goodIn_r _ [7, 8, 9, 10, 11, 6, 12, 52, 53, 54, 55, 56, 57, 58, 59] (by decide +kernel) (by decide +kernel)
set_option maxRecDepth 20000 in
theorem gX5_axleFraction_X2_rateOf : GoodIn wsX5_axleFraction (wsV RX5 293 RX2 yX2_rateOf wsX2_rateOf) := goodIn_app (goodIn_of _ (by decide +kernel)) ggX5_axleFraction_X2_rateOf
set_option maxRecDepth 20000 in
theorem ggX5_axleFraction_X2_turnedAt : GoodIn wsX5_axleFraction wsX2_turnedAt := goodIn_r _ [16, 17, 4, 5, 6, 7, 8, 9, 10, 11, 12, 18, 19, 20, 21, 22, 23, 24, 25, 26, 27, 28, 29, 30, 31, 32, 33, 34, 35, 52, 53, 54, 55, 56, 57, 58, 59, 60, 61] (by decide +kernel) (by decide +kernel)
set_option maxRecDepth 20000 in
theorem gX5_axleFraction_X2_turnedAt : GoodIn wsX5_axleFraction (wsV RX5 296 RX2 yX2_turnedAt wsX2_turnedAt) := goodIn_app (goodIn_of _ (by decide +kernel)) ggX5_axleFraction_X2_turnedAt
set_option maxRecDepth 20000 in
theorem ggX5_axleFraction_X1_withoutWhole : GoodIn wsX5_axleFraction wsX1_withoutWhole := goodIn_r _ [39, 26, 23, 24, 21, 25, 40, 41, 42, 43, 27, 28, 29, 30, 31, 32, 33, 34, 35, 60, 61] (by decide +kernel) (by decide +kernel)
set_option maxRecDepth 20000 in
theorem gX5_axleFraction_X1_withoutWhole : GoodIn wsX5_axleFraction (wsV RX5 299 RX1 yX1_withoutWhole wsX1_withoutWhole) := goodIn_app (goodIn_of _ (by decide +kernel)) ggX5_axleFraction_X1_withoutWhole
set_option maxRecDepth 20000 in
theorem ggX5_passedBy_X2_axleOf : GoodIn wsX5_passedBy wsX2_axleOf := goodIn_r _ [7, 8, 9, 10, 11, 51, 52, 53, 54, 55, 56, 57, 58] (by decide +kernel) (by decide +kernel)
set_option maxRecDepth 20000 in
theorem gX5_passedBy_X2_axleOf : GoodIn wsX5_passedBy (wsV RX5 140 RX2 yX2_axleOf wsX2_axleOf) := goodIn_app (goodIn_of _ (by decide +kernel)) ggX5_passedBy_X2_axleOf
set_option maxRecDepth 20000 in
theorem ggX5_passedBy_X2_rateOf : GoodIn wsX5_passedBy wsX2_rateOf := goodIn_r _ [15, 16, 17, 18, 19, 6, 20, 51, 52, 53, 54, 55, 56, 57, 58] (by decide +kernel) (by decide +kernel)
set_option maxRecDepth 20000 in
theorem gX5_passedBy_X2_rateOf : GoodIn wsX5_passedBy (wsV RX5 293 RX2 yX2_rateOf wsX2_rateOf) := goodIn_app (goodIn_of _ (by decide +kernel)) ggX5_passedBy_X2_rateOf
set_option maxRecDepth 20000 in
theorem ggX5_passedBy_X2_teethOf : GoodIn wsX5_passedBy wsX2_teethOf := goodIn_r _ [24, 25, 9, 10, 11, 51, 52, 53, 54, 55, 56, 57, 58] (by decide +kernel) (by decide +kernel)
set_option maxRecDepth 20000 in
theorem gX5_passedBy_X2_teethOf : GoodIn wsX5_passedBy (wsV RX5 143 RX2 yX2_teethOf wsX2_teethOf) := goodIn_app (goodIn_of _ (by decide +kernel)) ggX5_passedBy_X2_teethOf
set_option maxRecDepth 20000 in
theorem ggX5_passedBy_X1_times : GoodIn wsX5_passedBy wsX1_times := goodIn_r _ [30, 31, 32, 29, 33, 34, 35, 36, 37, 38, 39, 40, 41, 10, 42, 59, 60] (by decide +kernel) (by decide +kernel)
set_option maxRecDepth 20000 in
theorem gX5_passedBy_X1_times : GoodIn wsX5_passedBy (wsV RX5 303 RX1 yX1_times wsX1_times) := goodIn_app (goodIn_of _ (by decide +kernel)) ggX5_passedBy_X1_times
set_option maxRecDepth 20000 in
theorem ggX5_cellAt_X2_turnedAt : GoodIn wsX5_cellAt wsX2_turnedAt := goodIn_r _ [7, 8, 9, 10, 6, 11, 12, 13, 14, 15, 16, 17, 18, 19, 20, 21, 22, 23, 24, 25, 26, 27, 28, 29, 30, 31, 32, 33, 34, 58, 59, 60, 61, 62, 63, 64, 65, 66, 67] (by decide +kernel) (by decide +kernel)
set_option maxRecDepth 20000 in
theorem gX5_cellAt_X2_turnedAt : GoodIn wsX5_cellAt (wsV RX5 296 RX2 yX2_turnedAt wsX2_turnedAt) := goodIn_app (goodIn_of _ (by decide +kernel)) ggX5_cellAt_X2_turnedAt
set_option maxRecDepth 20000 in
theorem ggX5_cellAt_X1_withoutWhole : GoodIn wsX5_cellAt wsX1_withoutWhole := goodIn_r _ [38, 25, 22, 23, 20, 24, 39, 40, 41, 42, 26, 27, 28, 29, 30, 31, 32, 33, 34, 66, 67] (by decide +kernel) (by decide +kernel)
set_option maxRecDepth 20000 in
theorem gX5_cellAt_X1_withoutWhole : GoodIn wsX5_cellAt (wsV RX5 299 RX1 yX1_withoutWhole wsX1_withoutWhole) := goodIn_app (goodIn_of _ (by decide +kernel)) ggX5_cellAt_X1_withoutWhole
set_option maxRecDepth 20000 in
theorem ggX5_cellAt_X5_at : GoodIn wsX5_cellAt wsX5_at := goodIn_r _ [45] (by decide +kernel) (by decide +kernel)
set_option maxRecDepth 20000 in
theorem gX5_cellAt_X5_at : GoodIn wsX5_cellAt (va_wsS RX5 90 yX5_at wsX5_at) := goodIn_app (goodIn_of _ (by decide +kernel)) ggX5_cellAt_X5_at
set_option maxRecDepth 20000 in
theorem ggX5_cellAt_X1_cellOf : GoodIn wsX5_cellAt wsX1_cellOf := goodIn_r _ [49, 25, 24, 66, 67] (by decide +kernel) (by decide +kernel)
set_option maxRecDepth 20000 in
theorem gX5_cellAt_X1_cellOf : GoodIn wsX5_cellAt (wsV RX5 307 RX1 yX1_cellOf wsX1_cellOf) := goodIn_app (goodIn_of _ (by decide +kernel)) ggX5_cellAt_X1_cellOf
set_option maxRecDepth 20000 in
theorem ggX5_doMeshesPassAlike_X5_passedBy : GoodIn wsX5_doMeshesPassAlike wsX5_passedBy := goodIn_r _ [7, 1, 8, 9, 10, 11, 12, 13, 14, 15, 6, 16, 17, 18, 19, 20, 21, 22, 23, 24, 25, 26, 27, 28, 29, 30, 31, 32, 33, 34, 35, 36, 37, 38, 39, 40, 41, 42, 43, 44, 45, 46, 47, 63, 64, 65, 66, 67, 68, 69, 70, 71, 72, 73, 74, 75, 76, 77, 78, 79, 80] (by decide +kernel) (by decide +kernel)
set_option maxRecDepth 20000 in
theorem gX5_doMeshesPassAlike_X5_passedBy : GoodIn wsX5_doMeshesPassAlike (wsV RX5 152 RX5 yX5_passedBy wsX5_passedBy) := goodIn_app (goodIn_of _ (by decide +kernel)) ggX5_doMeshesPassAlike_X5_passedBy
set_option maxRecDepth 20000 in
theorem ggX5_doMeshesPassAlike_X2_areMeshed : GoodIn wsX5_doMeshesPassAlike wsX2_areMeshed := goodIn_r _ [51, 52, 53, 54, 12, 55, 56, 15, 6, 16, 57, 58, 71, 72, 73, 74, 75, 76, 77, 78] (by decide +kernel) (by decide +kernel)
set_option maxRecDepth 20000 in
theorem gX5_doMeshesPassAlike_X2_areMeshed : GoodIn wsX5_doMeshesPassAlike (wsV RX5 81 RX2 yX2_areMeshed wsX2_areMeshed) := goodIn_app (goodIn_of _ (by decide +kernel)) ggX5_doMeshesPassAlike_X2_areMeshed
set_option maxRecDepth 20000 in
theorem ggX5_doMeshesPassAlike_X1_isOppositeOf : GoodIn wsX5_doMeshesPassAlike wsX1_isOppositeOf := goodIn_r _ [62, 38, 39, 79, 80] (by decide +kernel) (by decide +kernel)
set_option maxRecDepth 20000 in
theorem gX5_doMeshesPassAlike_X1_isOppositeOf : GoodIn wsX5_doMeshesPassAlike (wsV RX5 322 RX1 yX1_isOppositeOf wsX1_isOppositeOf) := goodIn_app (goodIn_of _ (by decide +kernel)) ggX5_doMeshesPassAlike_X1_isOppositeOf
set_option maxRecDepth 20000 in
theorem ggX5_mixedAxles_X5_axleFraction : GoodIn wsX5_mixedAxles wsX5_axleFraction := goodIn_r _ [6, 7, 1, 8, 9, 10, 11, 12, 13, 14, 15, 16, 17, 18, 19, 20, 21, 22, 23, 24, 25, 26, 27, 28, 29, 30, 31, 32, 33, 34, 35, 36, 37, 38, 5, 39, 40, 41, 42, 43, 44, 45, 46, 47, 69, 70, 71, 72, 73, 74, 75, 76, 77, 78, 79, 80, 81, 82, 83, 84, 85, 86] (by decide +kernel) (by decide +kernel)
set_option maxRecDepth 20000 in
theorem gX5_mixedAxles_X5_axleFraction : GoodIn wsX5_mixedAxles (wsV RX5 130 RX5 yX5_axleFraction wsX5_axleFraction) := goodIn_app (goodIn_of _ (by decide +kernel)) ggX5_mixedAxles_X5_axleFraction
set_option maxRecDepth 20000 in
theorem ggX5_mixedAxles_X5_mixedFraction : GoodIn wsX5_mixedAxles wsX5_mixedFraction := goodIn_r _ [50, 51, 52, 53, 54, 5, 55, 56, 85, 86] (by decide +kernel) (by decide +kernel)
set_option maxRecDepth 20000 in
theorem gX5_mixedAxles_X5_mixedFraction : GoodIn wsX5_mixedAxles (va_wsS RX5 326 yX5_mixedFraction wsX5_mixedFraction) := goodIn_app (goodIn_of _ (by decide +kernel)) ggX5_mixedAxles_X5_mixedFraction
set_option maxRecDepth 20000 in
theorem ggX5_mixedAxles_X5_cellAt : GoodIn wsX5_mixedAxles wsX5_cellAt := goodIn_r _ [60, 7, 61, 18, 19, 20, 11, 21, 22, 9, 10, 12, 13, 14, 15, 16, 17, 23, 24, 25, 26, 27, 28, 29, 30, 31, 32, 33, 34, 35, 36, 37, 38, 5, 39, 40, 41, 42, 43, 44, 45, 46, 47, 62, 63, 64, 65, 66, 67, 68, 69, 70, 71, 72, 73, 74, 75, 76, 77, 78, 79, 80, 81, 82, 83, 84, 85, 86] (by decide +kernel) (by decide +kernel)
set_option maxRecDepth 20000 in
theorem gX5_mixedAxles_X5_cellAt : GoodIn wsX5_mixedAxles (wsV RX5 160 RX5 yX5_cellAt wsX5_cellAt) := goodIn_app (goodIn_of _ (by decide +kernel)) ggX5_mixedAxles_X5_cellAt
set_option maxRecDepth 20000 in
theorem ggX5_mixedAxles_X5_mixed : GoodIn wsX5_mixedAxles wsX5_mixed := goodIn_r _ [55, 56] (by decide +kernel) (by decide +kernel)
set_option maxRecDepth 20000 in
theorem gX5_mixedAxles_X5_mixed : GoodIn wsX5_mixedAxles (va_wsS RX5 253 yX5_mixed wsX5_mixed) := goodIn_app (goodIn_of _ (by decide +kernel)) ggX5_mixedAxles_X5_mixed
set_option maxRecDepth 20000 in
theorem ggX5_mixedWheels_X5_ofWheel : GoodIn wsX5_mixedWheels wsX5_ofWheel := goodIn_ca (goodIn_ca (goodIn_r _ [7, 1, 8, 9, 10, 6, 11, 2, 12, 13, 14, 15, 16, 17, 18, 19, 20, 21, 22, 23, 24, 25, 26, 27, 28, 29, 30, 31, 32, 33, 34, 35, 36, 37, 38, 39, 40, 41, 42, 43, 44, 45, 46, 47, 48, 49, 50, 87, 88, 89, 90, 91, 92, 93, 94, 95, 96, 97, 98, 99, 100, 101, 102] (by decide +kernel) (by decide +kernel)) (goodIn_sub (fun _ h => List.mem_cons_of_mem _ (List.mem_append_left _ (List.mem_append_right _ h))) (by decide +kernel))) (goodIn_sub (fun _ h => List.mem_cons_of_mem _ (List.mem_append_right _ h)) (by decide +kernel))
set_option maxRecDepth 20000 in
theorem gX5_mixedWheels_X5_ofWheel : GoodIn wsX5_mixedWheels (wsV RX5 330 RX5 yX5_ofWheel wsX5_ofWheel) := goodIn_app (goodIn_of _ (by decide +kernel)) ggX5_mixedWheels_X5_ofWheel
set_option maxRecDepth 20000 in
theorem ggX5_mixedWheels_X5_mixed : GoodIn wsX5_mixedWheels wsX5_mixed := goodIn_r _ [53, 54] (by decide +kernel) (by decide +kernel)
set_option maxRecDepth 20000 in
theorem gX5_mixedWheels_X5_mixed : GoodIn wsX5_mixedWheels (va_wsS RX5 253 yX5_mixed wsX5_mixed) := goodIn_app (goodIn_of _ (by decide +kernel)) ggX5_mixedWheels_X5_mixed
set_option maxRecDepth 20000 in
theorem ggX5_mixedWheels_X5_passedBy : GoodIn wsX5_mixedWheels wsX5_passedBy := goodIn_r _ [58, 1, 59, 25, 26, 27, 28, 29, 30, 31, 6, 32, 60, 61, 62, 63, 47, 64, 48, 49, 50, 33, 34, 35, 36, 37, 65, 66, 67, 68, 69, 70, 71, 72, 73, 74, 75, 76, 77, 78, 79, 80, 81, 87, 88, 89, 90, 91, 92, 93, 94, 95, 96, 97, 98, 99, 100, 101, 102, 103, 104] (by decide +kernel) (by decide +kernel)
set_option maxRecDepth 20000 in
theorem gX5_mixedWheels_X5_passedBy : GoodIn wsX5_mixedWheels (wsV RX5 152 RX5 yX5_passedBy wsX5_passedBy) := goodIn_app (goodIn_of _ (by decide +kernel)) ggX5_mixedWheels_X5_passedBy
set_option maxRecDepth 20000 in
theorem ggX5_mixedWheels_X5_mixedFraction : GoodIn wsX5_mixedWheels wsX5_mixedFraction := goodIn_r _ [84, 85, 86, 51, 52, 6, 53, 54, 103, 104] (by decide +kernel) (by decide +kernel)
set_option maxRecDepth 20000 in
theorem gX5_mixedWheels_X5_mixedFraction : GoodIn wsX5_mixedWheels (va_wsS RX5 326 yX5_mixedFraction wsX5_mixedFraction) := goodIn_app (goodIn_of _ (by decide +kernel)) ggX5_mixedWheels_X5_mixedFraction
set_option maxRecDepth 20000 in
theorem ggX5_mixedFraction_X5_mixed : GoodIn wsX5_mixedFraction wsX5_mixed := goodIn_r _ [6, 7] (by decide +kernel) (by decide +kernel)
set_option maxRecDepth 20000 in
theorem gX5_mixedFraction_X5_mixed : GoodIn wsX5_mixedFraction (va_wsS RX5 253 yX5_mixed wsX5_mixed) := goodIn_app (goodIn_of _ (by decide +kernel)) ggX5_mixedFraction_X5_mixed
end
section
theorem dX0_init_0 : decode cX0_init 0 = .ok (.aload_n 0, 1) := by decide +kernel
theorem dX0_init_1 : decode cX0_init 1 = .ok (.invokespecial 3, 3) := by decide +kernel
theorem dX0_init_4 : decode cX0_init 4 = .ok (.aload_n 0, 1) := by decide +kernel
theorem dX0_init_5 : decode cX0_init 5 = .ok (.bipush 12, 2) := by decide +kernel
theorem dX0_init_7 : decode cX0_init 7 = .ok (.newarray .int, 2) := by decide +kernel
theorem dX0_init_9 : decode cX0_init 9 = .ok (.putfield 9, 3) := by decide +kernel
theorem dX0_init_12 : decode cX0_init 12 = .ok (.aload_n 0, 1) := by decide +kernel
theorem dX0_init_13 : decode cX0_init 13 = .ok (.bipush 12, 2) := by decide +kernel
theorem dX0_init_15 : decode cX0_init 15 = .ok (.newarray .int, 2) := by decide +kernel
theorem dX0_init_17 : decode cX0_init 17 = .ok (.putfield 15, 3) := by decide +kernel
theorem dX0_init_20 : decode cX0_init 20 = .ok (.return_, 1) := by decide +kernel
theorem dX0_isSetOfThem_0 : decode cX0_isSetOfThem 0 = .ok (.iload_n 1, 1) := by decide +kernel
theorem dX0_isSetOfThem_1 : decode cX0_isSetOfThem 1 = .ok (.ifCond .lt 16, 3) := by decide +kernel
theorem dX0_isSetOfThem_4 : decode cX0_isSetOfThem 4 = .ok (.iload_n 1, 1) := by decide +kernel
theorem dX0_isSetOfThem_5 : decode cX0_isSetOfThem 5 = .ok (.aload_n 0, 1) := by decide +kernel
theorem dX0_isSetOfThem_6 : decode cX0_isSetOfThem 6 = .ok (.getfield 18, 3) := by decide +kernel
theorem dX0_isSetOfThem_9 : decode cX0_isSetOfThem 9 = .ok (.ishr, 1) := by decide +kernel
theorem dX0_isSetOfThem_10 : decode cX0_isSetOfThem 10 = .ok (.ifCond .ne 7, 3) := by decide +kernel
theorem dX0_isSetOfThem_13 : decode cX0_isSetOfThem 13 = .ok (.iconst 1, 1) := by decide +kernel
theorem dX0_isSetOfThem_14 : decode cX0_isSetOfThem 14 = .ok (.goto 4, 3) := by decide +kernel
theorem dX0_isSetOfThem_17 : decode cX0_isSetOfThem 17 = .ok (.iconst 0, 1) := by decide +kernel
theorem dX0_isSetOfThem_18 : decode cX0_isSetOfThem 18 = .ok (.ireturn, 1) := by decide +kernel
theorem dX0_addClaim_0 : decode cX0_addClaim 0 = .ok (.aload_n 0, 1) := by decide +kernel
theorem dX0_addClaim_1 : decode cX0_addClaim 1 = .ok (.getfield 18, 3) := by decide +kernel
theorem dX0_addClaim_4 : decode cX0_addClaim 4 = .ok (.istore_n 2, 1) := by decide +kernel
theorem dX0_addClaim_5 : decode cX0_addClaim 5 = .ok (.iload_n 1, 1) := by decide +kernel
theorem dX0_addClaim_6 : decode cX0_addClaim 6 = .ok (.istore_n 3, 1) := by decide +kernel
theorem dX0_addClaim_7 : decode cX0_addClaim 7 = .ok (.iconst 0, 1) := by decide +kernel
theorem dX0_addClaim_8 : decode cX0_addClaim 8 = .ok (.istore 4, 2) := by decide +kernel
theorem dX0_addClaim_10 : decode cX0_addClaim 10 = .ok (.iload 4, 2) := by decide +kernel
theorem dX0_addClaim_12 : decode cX0_addClaim 12 = .ok (.iload_n 2, 1) := by decide +kernel
theorem dX0_addClaim_13 : decode cX0_addClaim 13 = .ok (.if_icmp .ge 30, 3) := by decide +kernel
theorem dX0_addClaim_16 : decode cX0_addClaim 16 = .ok (.iload_n 1, 1) := by decide +kernel
theorem dX0_addClaim_17 : decode cX0_addClaim 17 = .ok (.iload 4, 2) := by decide +kernel
theorem dX0_addClaim_19 : decode cX0_addClaim 19 = .ok (.invokestatic 22, 3) := by decide +kernel
theorem dX0_addClaim_22 : decode cX0_addClaim 22 = .ok (.ifCond .eq 15, 3) := by decide +kernel
theorem dX0_addClaim_25 : decode cX0_addClaim 25 = .ok (.iload_n 3, 1) := by decide +kernel
theorem dX0_addClaim_26 : decode cX0_addClaim 26 = .ok (.aload_n 0, 1) := by decide +kernel
theorem dX0_addClaim_27 : decode cX0_addClaim 27 = .ok (.getfield 15, 3) := by decide +kernel
theorem dX0_addClaim_30 : decode cX0_addClaim 30 = .ok (.iload 4, 2) := by decide +kernel
theorem dX0_addClaim_32 : decode cX0_addClaim 32 = .ok (.invokestatic 26, 3) := by decide +kernel
theorem dX0_addClaim_35 : decode cX0_addClaim 35 = .ok (.ior, 1) := by decide +kernel
theorem dX0_addClaim_36 : decode cX0_addClaim 36 = .ok (.istore_n 3, 1) := by decide +kernel
theorem dX0_addClaim_37 : decode cX0_addClaim 37 = .ok (.iinc 4 1, 3) := by decide +kernel
theorem dX0_addClaim_40 : decode cX0_addClaim 40 = .ok (.goto (-30), 3) := by decide +kernel
theorem dX0_addClaim_43 : decode cX0_addClaim 43 = .ok (.aload_n 0, 1) := by decide +kernel
theorem dX0_addClaim_44 : decode cX0_addClaim 44 = .ok (.getfield 9, 3) := by decide +kernel
theorem dX0_addClaim_47 : decode cX0_addClaim 47 = .ok (.iload_n 2, 1) := by decide +kernel
theorem dX0_addClaim_48 : decode cX0_addClaim 48 = .ok (.iload_n 1, 1) := by decide +kernel
theorem dX0_addClaim_49 : decode cX0_addClaim 49 = .ok (.invokestatic 30, 3) := by decide +kernel
theorem dX0_addClaim_52 : decode cX0_addClaim 52 = .ok (.aload_n 0, 1) := by decide +kernel
theorem dX0_addClaim_53 : decode cX0_addClaim 53 = .ok (.getfield 15, 3) := by decide +kernel
theorem dX0_addClaim_56 : decode cX0_addClaim 56 = .ok (.iload_n 2, 1) := by decide +kernel
theorem dX0_addClaim_57 : decode cX0_addClaim 57 = .ok (.iload_n 3, 1) := by decide +kernel
theorem dX0_addClaim_58 : decode cX0_addClaim 58 = .ok (.invokestatic 30, 3) := by decide +kernel
theorem dX0_addClaim_61 : decode cX0_addClaim 61 = .ok (.aload_n 0, 1) := by decide +kernel
theorem dX0_addClaim_62 : decode cX0_addClaim 62 = .ok (.dup, 1) := by decide +kernel
theorem dX0_addClaim_63 : decode cX0_addClaim 63 = .ok (.getfield 18, 3) := by decide +kernel
theorem dX0_addClaim_66 : decode cX0_addClaim 66 = .ok (.iconst 1, 1) := by decide +kernel
theorem dX0_addClaim_67 : decode cX0_addClaim 67 = .ok (.iadd, 1) := by decide +kernel
theorem dX0_addClaim_68 : decode cX0_addClaim 68 = .ok (.putfield 18, 3) := by decide +kernel
theorem dX0_addClaim_71 : decode cX0_addClaim 71 = .ok (.iload_n 2, 1) := by decide +kernel
theorem dX0_addClaim_72 : decode cX0_addClaim 72 = .ok (.ireturn, 1) := by decide +kernel
theorem dX0_setWithdrawn_0 : decode cX0_setWithdrawn 0 = .ok (.aload_n 0, 1) := by decide +kernel
theorem dX0_setWithdrawn_1 : decode cX0_setWithdrawn 1 = .ok (.iload_n 2, 1) := by decide +kernel
theorem dX0_setWithdrawn_2 : decode cX0_setWithdrawn 2 = .ok (.ifCond .eq 14, 3) := by decide +kernel
theorem dX0_setWithdrawn_5 : decode cX0_setWithdrawn 5 = .ok (.aload_n 0, 1) := by decide +kernel
theorem dX0_setWithdrawn_6 : decode cX0_setWithdrawn 6 = .ok (.getfield 34, 3) := by decide +kernel
theorem dX0_setWithdrawn_9 : decode cX0_setWithdrawn 9 = .ok (.iconst 1, 1) := by decide +kernel
theorem dX0_setWithdrawn_10 : decode cX0_setWithdrawn 10 = .ok (.iload_n 1, 1) := by decide +kernel
theorem dX0_setWithdrawn_11 : decode cX0_setWithdrawn 11 = .ok (.ishl, 1) := by decide +kernel
theorem dX0_setWithdrawn_12 : decode cX0_setWithdrawn 12 = .ok (.ior, 1) := by decide +kernel
theorem dX0_setWithdrawn_13 : decode cX0_setWithdrawn 13 = .ok (.goto 13, 3) := by decide +kernel
theorem dX0_setWithdrawn_16 : decode cX0_setWithdrawn 16 = .ok (.aload_n 0, 1) := by decide +kernel
theorem dX0_setWithdrawn_17 : decode cX0_setWithdrawn 17 = .ok (.getfield 34, 3) := by decide +kernel
theorem dX0_setWithdrawn_20 : decode cX0_setWithdrawn 20 = .ok (.iconst 1, 1) := by decide +kernel
theorem dX0_setWithdrawn_21 : decode cX0_setWithdrawn 21 = .ok (.iload_n 1, 1) := by decide +kernel
theorem dX0_setWithdrawn_22 : decode cX0_setWithdrawn 22 = .ok (.ishl, 1) := by decide +kernel
theorem dX0_setWithdrawn_23 : decode cX0_setWithdrawn 23 = .ok (.iconst (-1), 1) := by decide +kernel
theorem dX0_setWithdrawn_24 : decode cX0_setWithdrawn 24 = .ok (.ixor, 1) := by decide +kernel
theorem dX0_setWithdrawn_25 : decode cX0_setWithdrawn 25 = .ok (.iand, 1) := by decide +kernel
theorem dX0_setWithdrawn_26 : decode cX0_setWithdrawn 26 = .ok (.putfield 34, 3) := by decide +kernel
theorem dX0_setWithdrawn_29 : decode cX0_setWithdrawn 29 = .ok (.return_, 1) := by decide +kernel
theorem dX0_hangsOn_0 : decode cX0_hangsOn 0 = .ok (.aload_n 0, 1) := by decide +kernel
theorem dX0_hangsOn_1 : decode cX0_hangsOn 1 = .ok (.getfield 9, 3) := by decide +kernel
theorem dX0_hangsOn_4 : decode cX0_hangsOn 4 = .ok (.iload_n 1, 1) := by decide +kernel
theorem dX0_hangsOn_5 : decode cX0_hangsOn 5 = .ok (.invokestatic 26, 3) := by decide +kernel
theorem dX0_hangsOn_8 : decode cX0_hangsOn 8 = .ok (.ireturn, 1) := by decide +kernel
theorem dX0_isWithdrawn_0 : decode cX0_isWithdrawn 0 = .ok (.aload_n 0, 1) := by decide +kernel
theorem dX0_isWithdrawn_1 : decode cX0_isWithdrawn 1 = .ok (.getfield 34, 3) := by decide +kernel
theorem dX0_isWithdrawn_4 : decode cX0_isWithdrawn 4 = .ok (.iload_n 1, 1) := by decide +kernel
theorem dX0_isWithdrawn_5 : decode cX0_isWithdrawn 5 = .ok (.invokestatic 22, 3) := by decide +kernel
theorem dX0_isWithdrawn_8 : decode cX0_isWithdrawn 8 = .ok (.ireturn, 1) := by decide +kernel
theorem dX0_isStanding_0 : decode cX0_isStanding 0 = .ok (.aload_n 0, 1) := by decide +kernel
theorem dX0_isStanding_1 : decode cX0_isStanding 1 = .ok (.aload_n 0, 1) := by decide +kernel
theorem dX0_isStanding_2 : decode cX0_isStanding 2 = .ok (.getfield 34, 3) := by decide +kernel
theorem dX0_isStanding_5 : decode cX0_isStanding 5 = .ok (.invokevirtual 37, 3) := by decide +kernel
theorem dX0_isStanding_8 : decode cX0_isStanding 8 = .ok (.iload_n 1, 1) := by decide +kernel
theorem dX0_isStanding_9 : decode cX0_isStanding 9 = .ok (.invokestatic 22, 3) := by decide +kernel
theorem dX0_isStanding_12 : decode cX0_isStanding 12 = .ok (.ireturn, 1) := by decide +kernel
theorem dX0_countStanding_0 : decode cX0_countStanding 0 = .ok (.aload_n 0, 1) := by decide +kernel
theorem dX0_countStanding_1 : decode cX0_countStanding 1 = .ok (.aload_n 0, 1) := by decide +kernel
theorem dX0_countStanding_2 : decode cX0_countStanding 2 = .ok (.getfield 34, 3) := by decide +kernel
theorem dX0_countStanding_5 : decode cX0_countStanding 5 = .ok (.invokevirtual 37, 3) := by decide +kernel
theorem dX0_countStanding_8 : decode cX0_countStanding 8 = .ok (.invokestatic 41, 3) := by decide +kernel
theorem dX0_countStanding_11 : decode cX0_countStanding 11 = .ok (.ireturn, 1) := by decide +kernel
theorem dX0_fallingWith_0 : decode cX0_fallingWith 0 = .ok (.aload_n 0, 1) := by decide +kernel
theorem dX0_fallingWith_1 : decode cX0_fallingWith 1 = .ok (.invokevirtual 46, 3) := by decide +kernel
theorem dX0_fallingWith_4 : decode cX0_fallingWith 4 = .ok (.aload_n 0, 1) := by decide +kernel
theorem dX0_fallingWith_5 : decode cX0_fallingWith 5 = .ok (.aload_n 0, 1) := by decide +kernel
theorem dX0_fallingWith_6 : decode cX0_fallingWith 6 = .ok (.getfield 34, 3) := by decide +kernel
theorem dX0_fallingWith_9 : decode cX0_fallingWith 9 = .ok (.iconst 1, 1) := by decide +kernel
theorem dX0_fallingWith_10 : decode cX0_fallingWith 10 = .ok (.iload_n 1, 1) := by decide +kernel
theorem dX0_fallingWith_11 : decode cX0_fallingWith 11 = .ok (.ishl, 1) := by decide +kernel
theorem dX0_fallingWith_12 : decode cX0_fallingWith 12 = .ok (.ior, 1) := by decide +kernel
theorem dX0_fallingWith_13 : decode cX0_fallingWith 13 = .ok (.invokevirtual 37, 3) := by decide +kernel
theorem dX0_fallingWith_16 : decode cX0_fallingWith 16 = .ok (.invokestatic 41, 3) := by decide +kernel
theorem dX0_fallingWith_19 : decode cX0_fallingWith 19 = .ok (.isub, 1) := by decide +kernel
theorem dX0_fallingWith_20 : decode cX0_fallingWith 20 = .ok (.ireturn, 1) := by decide +kernel
theorem dX0_areConsistent_0 : decode cX0_areConsistent 0 = .ok (.aload_n 0, 1) := by decide +kernel
theorem dX0_areConsistent_1 : decode cX0_areConsistent 1 = .ok (.aload_n 0, 1) := by decide +kernel
theorem dX0_areConsistent_2 : decode cX0_areConsistent 2 = .ok (.getfield 34, 3) := by decide +kernel
theorem dX0_areConsistent_5 : decode cX0_areConsistent 5 = .ok (.invokevirtual 37, 3) := by decide +kernel
theorem dX0_areConsistent_8 : decode cX0_areConsistent 8 = .ok (.istore_n 1, 1) := by decide +kernel
theorem dX0_areConsistent_9 : decode cX0_areConsistent 9 = .ok (.iconst 0, 1) := by decide +kernel
theorem dX0_areConsistent_10 : decode cX0_areConsistent 10 = .ok (.istore_n 2, 1) := by decide +kernel
theorem dX0_areConsistent_11 : decode cX0_areConsistent 11 = .ok (.iload_n 2, 1) := by decide +kernel
theorem dX0_areConsistent_12 : decode cX0_areConsistent 12 = .ok (.aload_n 0, 1) := by decide +kernel
theorem dX0_areConsistent_13 : decode cX0_areConsistent 13 = .ok (.getfield 18, 3) := by decide +kernel
theorem dX0_areConsistent_16 : decode cX0_areConsistent 16 = .ok (.if_icmp .ge 46, 3) := by decide +kernel
theorem dX0_areConsistent_19 : decode cX0_areConsistent 19 = .ok (.aload_n 0, 1) := by decide +kernel
theorem dX0_areConsistent_20 : decode cX0_areConsistent 20 = .ok (.getfield 15, 3) := by decide +kernel
theorem dX0_areConsistent_23 : decode cX0_areConsistent 23 = .ok (.iload_n 2, 1) := by decide +kernel
theorem dX0_areConsistent_24 : decode cX0_areConsistent 24 = .ok (.invokestatic 26, 3) := by decide +kernel
theorem dX0_areConsistent_27 : decode cX0_areConsistent 27 = .ok (.iconst 1, 1) := by decide +kernel
theorem dX0_areConsistent_28 : decode cX0_areConsistent 28 = .ok (.iload_n 2, 1) := by decide +kernel
theorem dX0_areConsistent_29 : decode cX0_areConsistent 29 = .ok (.ishl, 1) := by decide +kernel
theorem dX0_areConsistent_30 : decode cX0_areConsistent 30 = .ok (.ior, 1) := by decide +kernel
theorem dX0_areConsistent_31 : decode cX0_areConsistent 31 = .ok (.aload_n 0, 1) := by decide +kernel
theorem dX0_areConsistent_32 : decode cX0_areConsistent 32 = .ok (.getfield 34, 3) := by decide +kernel
theorem dX0_areConsistent_35 : decode cX0_areConsistent 35 = .ok (.iand, 1) := by decide +kernel
theorem dX0_areConsistent_36 : decode cX0_areConsistent 36 = .ok (.ifCond .ne 7, 3) := by decide +kernel
theorem dX0_areConsistent_39 : decode cX0_areConsistent 39 = .ok (.iconst 1, 1) := by decide +kernel
theorem dX0_areConsistent_40 : decode cX0_areConsistent 40 = .ok (.goto 4, 3) := by decide +kernel
theorem dX0_areConsistent_43 : decode cX0_areConsistent 43 = .ok (.iconst 0, 1) := by decide +kernel
theorem dX0_areConsistent_44 : decode cX0_areConsistent 44 = .ok (.istore_n 3, 1) := by decide +kernel
theorem dX0_areConsistent_45 : decode cX0_areConsistent 45 = .ok (.iload_n 1, 1) := by decide +kernel
theorem dX0_areConsistent_46 : decode cX0_areConsistent 46 = .ok (.iload_n 2, 1) := by decide +kernel
theorem dX0_areConsistent_47 : decode cX0_areConsistent 47 = .ok (.invokestatic 22, 3) := by decide +kernel
theorem dX0_areConsistent_50 : decode cX0_areConsistent 50 = .ok (.iload_n 3, 1) := by decide +kernel
theorem dX0_areConsistent_51 : decode cX0_areConsistent 51 = .ok (.if_icmp .eq 5, 3) := by decide +kernel
theorem dX0_areConsistent_54 : decode cX0_areConsistent 54 = .ok (.iconst 0, 1) := by decide +kernel
theorem dX0_areConsistent_55 : decode cX0_areConsistent 55 = .ok (.ireturn, 1) := by decide +kernel
theorem dX0_areConsistent_56 : decode cX0_areConsistent 56 = .ok (.iinc 2 1, 3) := by decide +kernel
theorem dX0_areConsistent_59 : decode cX0_areConsistent 59 = .ok (.goto (-48), 3) := by decide +kernel
theorem dX0_areConsistent_62 : decode cX0_areConsistent 62 = .ok (.iconst 1, 1) := by decide +kernel
theorem dX0_areConsistent_63 : decode cX0_areConsistent 63 = .ok (.ireturn, 1) := by decide +kernel
theorem dX0_standingWithout_0 : decode cX0_standingWithout 0 = .ok (.iconst 0, 1) := by decide +kernel
theorem dX0_standingWithout_1 : decode cX0_standingWithout 1 = .ok (.istore_n 2, 1) := by decide +kernel
theorem dX0_standingWithout_2 : decode cX0_standingWithout 2 = .ok (.iconst 0, 1) := by decide +kernel
theorem dX0_standingWithout_3 : decode cX0_standingWithout 3 = .ok (.istore_n 3, 1) := by decide +kernel
theorem dX0_standingWithout_4 : decode cX0_standingWithout 4 = .ok (.iload_n 3, 1) := by decide +kernel
theorem dX0_standingWithout_5 : decode cX0_standingWithout 5 = .ok (.aload_n 0, 1) := by decide +kernel
theorem dX0_standingWithout_6 : decode cX0_standingWithout 6 = .ok (.getfield 18, 3) := by decide +kernel
theorem dX0_standingWithout_9 : decode cX0_standingWithout 9 = .ok (.if_icmp .ge 38, 3) := by decide +kernel
theorem dX0_standingWithout_12 : decode cX0_standingWithout 12 = .ok (.iload_n 1, 1) := by decide +kernel
theorem dX0_standingWithout_13 : decode cX0_standingWithout 13 = .ok (.iload_n 3, 1) := by decide +kernel
theorem dX0_standingWithout_14 : decode cX0_standingWithout 14 = .ok (.invokestatic 22, 3) := by decide +kernel
theorem dX0_standingWithout_17 : decode cX0_standingWithout 17 = .ok (.ifCond .ne 24, 3) := by decide +kernel
theorem dX0_standingWithout_20 : decode cX0_standingWithout 20 = .ok (.aload_n 0, 1) := by decide +kernel
theorem dX0_standingWithout_21 : decode cX0_standingWithout 21 = .ok (.getfield 9, 3) := by decide +kernel
theorem dX0_standingWithout_24 : decode cX0_standingWithout 24 = .ok (.iload_n 3, 1) := by decide +kernel
theorem dX0_standingWithout_25 : decode cX0_standingWithout 25 = .ok (.invokestatic 26, 3) := by decide +kernel
theorem dX0_standingWithout_28 : decode cX0_standingWithout 28 = .ok (.iload_n 2, 1) := by decide +kernel
theorem dX0_standingWithout_29 : decode cX0_standingWithout 29 = .ok (.iconst (-1), 1) := by decide +kernel
theorem dX0_standingWithout_30 : decode cX0_standingWithout 30 = .ok (.ixor, 1) := by decide +kernel
theorem dX0_standingWithout_31 : decode cX0_standingWithout 31 = .ok (.iand, 1) := by decide +kernel
theorem dX0_standingWithout_32 : decode cX0_standingWithout 32 = .ok (.ifCond .ne 9, 3) := by decide +kernel
theorem dX0_standingWithout_35 : decode cX0_standingWithout 35 = .ok (.iload_n 2, 1) := by decide +kernel
theorem dX0_standingWithout_36 : decode cX0_standingWithout 36 = .ok (.iconst 1, 1) := by decide +kernel
theorem dX0_standingWithout_37 : decode cX0_standingWithout 37 = .ok (.iload_n 3, 1) := by decide +kernel
theorem dX0_standingWithout_38 : decode cX0_standingWithout 38 = .ok (.ishl, 1) := by decide +kernel
theorem dX0_standingWithout_39 : decode cX0_standingWithout 39 = .ok (.ior, 1) := by decide +kernel
theorem dX0_standingWithout_40 : decode cX0_standingWithout 40 = .ok (.istore_n 2, 1) := by decide +kernel
theorem dX0_standingWithout_41 : decode cX0_standingWithout 41 = .ok (.iinc 3 1, 3) := by decide +kernel
theorem dX0_standingWithout_44 : decode cX0_standingWithout 44 = .ok (.goto (-40), 3) := by decide +kernel
theorem dX0_standingWithout_47 : decode cX0_standingWithout 47 = .ok (.iload_n 2, 1) := by decide +kernel
theorem dX0_standingWithout_48 : decode cX0_standingWithout 48 = .ok (.ireturn, 1) := by decide +kernel
theorem dX1_init_0 : decode cX1_init 0 = .ok (.aload_n 0, 1) := by decide +kernel
theorem dX1_init_1 : decode cX1_init 1 = .ok (.invokespecial 1, 3) := by decide +kernel
theorem dX1_init_4 : decode cX1_init 4 = .ok (.lload_n 1, 1) := by decide +kernel
theorem dX1_init_5 : decode cX1_init 5 = .ok (.lload_n 3, 1) := by decide +kernel
theorem dX1_init_6 : decode cX1_init 6 = .ok (.invokestatic 7, 3) := by decide +kernel
theorem dX1_init_9 : decode cX1_init 9 = .ok (.lstore 5, 2) := by decide +kernel
theorem dX1_init_11 : decode cX1_init 11 = .ok (.aload_n 0, 1) := by decide +kernel
theorem dX1_init_12 : decode cX1_init 12 = .ok (.lload 5, 2) := by decide +kernel
theorem dX1_init_14 : decode cX1_init 14 = .ok (.lconst 1, 1) := by decide +kernel
theorem dX1_init_15 : decode cX1_init 15 = .ok (.lcmp, 1) := by decide +kernel
theorem dX1_init_16 : decode cX1_init 16 = .ok (.ifCond .le 10, 3) := by decide +kernel
theorem dX1_init_19 : decode cX1_init 19 = .ok (.lload_n 1, 1) := by decide +kernel
theorem dX1_init_20 : decode cX1_init 20 = .ok (.lload 5, 2) := by decide +kernel
theorem dX1_init_22 : decode cX1_init 22 = .ok (.ldiv, 1) := by decide +kernel
theorem dX1_init_23 : decode cX1_init 23 = .ok (.goto 4, 3) := by decide +kernel
theorem dX1_init_26 : decode cX1_init 26 = .ok (.lload_n 1, 1) := by decide +kernel
theorem dX1_init_27 : decode cX1_init 27 = .ok (.putfield 13, 3) := by decide +kernel
theorem dX1_init_30 : decode cX1_init 30 = .ok (.aload_n 0, 1) := by decide +kernel
theorem dX1_init_31 : decode cX1_init 31 = .ok (.lload 5, 2) := by decide +kernel
theorem dX1_init_33 : decode cX1_init 33 = .ok (.lconst 1, 1) := by decide +kernel
theorem dX1_init_34 : decode cX1_init 34 = .ok (.lcmp, 1) := by decide +kernel
theorem dX1_init_35 : decode cX1_init 35 = .ok (.ifCond .le 10, 3) := by decide +kernel
theorem dX1_init_38 : decode cX1_init 38 = .ok (.lload_n 3, 1) := by decide +kernel
theorem dX1_init_39 : decode cX1_init 39 = .ok (.lload 5, 2) := by decide +kernel
theorem dX1_init_41 : decode cX1_init 41 = .ok (.ldiv, 1) := by decide +kernel
theorem dX1_init_42 : decode cX1_init 42 = .ok (.goto 4, 3) := by decide +kernel
theorem dX1_init_45 : decode cX1_init 45 = .ok (.lload_n 3, 1) := by decide +kernel
theorem dX1_init_46 : decode cX1_init 46 = .ok (.putfield 19, 3) := by decide +kernel
theorem dX1_init_49 : decode cX1_init 49 = .ok (.return_, 1) := by decide +kernel
theorem dX1_times_0 : decode cX1_times 0 = .ok (.new 14, 3) := by decide +kernel
theorem dX1_times_3 : decode cX1_times 3 = .ok (.dup, 1) := by decide +kernel
theorem dX1_times_4 : decode cX1_times 4 = .ok (.aload_n 0, 1) := by decide +kernel
theorem dX1_times_5 : decode cX1_times 5 = .ok (.getfield 13, 3) := by decide +kernel
theorem dX1_times_8 : decode cX1_times 8 = .ok (.lload_n 1, 1) := by decide +kernel
theorem dX1_times_9 : decode cX1_times 9 = .ok (.lmul, 1) := by decide +kernel
theorem dX1_times_10 : decode cX1_times 10 = .ok (.aload_n 0, 1) := by decide +kernel
theorem dX1_times_11 : decode cX1_times 11 = .ok (.getfield 19, 3) := by decide +kernel
theorem dX1_times_14 : decode cX1_times 14 = .ok (.lload_n 3, 1) := by decide +kernel
theorem dX1_times_15 : decode cX1_times 15 = .ok (.lmul, 1) := by decide +kernel
theorem dX1_times_16 : decode cX1_times 16 = .ok (.invokespecial 22, 3) := by decide +kernel
theorem dX1_times_19 : decode cX1_times 19 = .ok (.areturn, 1) := by decide +kernel
theorem dX1_withoutWhole_0 : decode cX1_withoutWhole 0 = .ok (.aload_n 0, 1) := by decide +kernel
theorem dX1_withoutWhole_1 : decode cX1_withoutWhole 1 = .ok (.getfield 19, 3) := by decide +kernel
theorem dX1_withoutWhole_4 : decode cX1_withoutWhole 4 = .ok (.lconst 0, 1) := by decide +kernel
theorem dX1_withoutWhole_5 : decode cX1_withoutWhole 5 = .ok (.lcmp, 1) := by decide +kernel
theorem dX1_withoutWhole_6 : decode cX1_withoutWhole 6 = .ok (.ifCond .le 28, 3) := by decide +kernel
theorem dX1_withoutWhole_9 : decode cX1_withoutWhole 9 = .ok (.new 14, 3) := by decide +kernel
theorem dX1_withoutWhole_12 : decode cX1_withoutWhole 12 = .ok (.dup, 1) := by decide +kernel
theorem dX1_withoutWhole_13 : decode cX1_withoutWhole 13 = .ok (.aload_n 0, 1) := by decide +kernel
theorem dX1_withoutWhole_14 : decode cX1_withoutWhole 14 = .ok (.getfield 13, 3) := by decide +kernel
theorem dX1_withoutWhole_17 : decode cX1_withoutWhole 17 = .ok (.aload_n 0, 1) := by decide +kernel
theorem dX1_withoutWhole_18 : decode cX1_withoutWhole 18 = .ok (.getfield 19, 3) := by decide +kernel
theorem dX1_withoutWhole_21 : decode cX1_withoutWhole 21 = .ok (.invokestatic 25, 3) := by decide +kernel
theorem dX1_withoutWhole_24 : decode cX1_withoutWhole 24 = .ok (.aload_n 0, 1) := by decide +kernel
theorem dX1_withoutWhole_25 : decode cX1_withoutWhole 25 = .ok (.getfield 19, 3) := by decide +kernel
theorem dX1_withoutWhole_28 : decode cX1_withoutWhole 28 = .ok (.invokespecial 22, 3) := by decide +kernel
theorem dX1_withoutWhole_31 : decode cX1_withoutWhole 31 = .ok (.goto 4, 3) := by decide +kernel
theorem dX1_withoutWhole_34 : decode cX1_withoutWhole 34 = .ok (.aload_n 0, 1) := by decide +kernel
theorem dX1_withoutWhole_35 : decode cX1_withoutWhole 35 = .ok (.areturn, 1) := by decide +kernel
theorem dX1_cellOf_0 : decode cX1_cellOf 0 = .ok (.aload_n 0, 1) := by decide +kernel
theorem dX1_cellOf_1 : decode cX1_cellOf 1 = .ok (.getfield 19, 3) := by decide +kernel
theorem dX1_cellOf_4 : decode cX1_cellOf 4 = .ok (.lconst 0, 1) := by decide +kernel
theorem dX1_cellOf_5 : decode cX1_cellOf 5 = .ok (.lcmp, 1) := by decide +kernel
theorem dX1_cellOf_6 : decode cX1_cellOf 6 = .ok (.ifCond .le 19, 3) := by decide +kernel
theorem dX1_cellOf_9 : decode cX1_cellOf 9 = .ok (.aload_n 0, 1) := by decide +kernel
theorem dX1_cellOf_10 : decode cX1_cellOf 10 = .ok (.getfield 13, 3) := by decide +kernel
theorem dX1_cellOf_13 : decode cX1_cellOf 13 = .ok (.iload_n 1, 1) := by decide +kernel
theorem dX1_cellOf_14 : decode cX1_cellOf 14 = .ok (.i2l, 1) := by decide +kernel
theorem dX1_cellOf_15 : decode cX1_cellOf 15 = .ok (.lmul, 1) := by decide +kernel
theorem dX1_cellOf_16 : decode cX1_cellOf 16 = .ok (.aload_n 0, 1) := by decide +kernel
theorem dX1_cellOf_17 : decode cX1_cellOf 17 = .ok (.getfield 19, 3) := by decide +kernel
theorem dX1_cellOf_20 : decode cX1_cellOf 20 = .ok (.ldiv, 1) := by decide +kernel
theorem dX1_cellOf_21 : decode cX1_cellOf 21 = .ok (.l2i, 1) := by decide +kernel
theorem dX1_cellOf_22 : decode cX1_cellOf 22 = .ok (.goto 4, 3) := by decide +kernel
theorem dX1_cellOf_25 : decode cX1_cellOf 25 = .ok (.iconst 0, 1) := by decide +kernel
theorem dX1_cellOf_26 : decode cX1_cellOf 26 = .ok (.ireturn, 1) := by decide +kernel
theorem dX1_isSameAs_0 : decode cX1_isSameAs 0 = .ok (.aload_n 0, 1) := by decide +kernel
theorem dX1_isSameAs_1 : decode cX1_isSameAs 1 = .ok (.getfield 13, 3) := by decide +kernel
theorem dX1_isSameAs_4 : decode cX1_isSameAs 4 = .ok (.aload_n 1, 1) := by decide +kernel
theorem dX1_isSameAs_5 : decode cX1_isSameAs 5 = .ok (.getfield 13, 3) := by decide +kernel
theorem dX1_isSameAs_8 : decode cX1_isSameAs 8 = .ok (.lcmp, 1) := by decide +kernel
theorem dX1_isSameAs_9 : decode cX1_isSameAs 9 = .ok (.ifCond .ne 19, 3) := by decide +kernel
theorem dX1_isSameAs_12 : decode cX1_isSameAs 12 = .ok (.aload_n 0, 1) := by decide +kernel
theorem dX1_isSameAs_13 : decode cX1_isSameAs 13 = .ok (.getfield 19, 3) := by decide +kernel
theorem dX1_isSameAs_16 : decode cX1_isSameAs 16 = .ok (.aload_n 1, 1) := by decide +kernel
theorem dX1_isSameAs_17 : decode cX1_isSameAs 17 = .ok (.getfield 19, 3) := by decide +kernel
theorem dX1_isSameAs_20 : decode cX1_isSameAs 20 = .ok (.lcmp, 1) := by decide +kernel
theorem dX1_isSameAs_21 : decode cX1_isSameAs 21 = .ok (.ifCond .ne 7, 3) := by decide +kernel
theorem dX1_isSameAs_24 : decode cX1_isSameAs 24 = .ok (.iconst 1, 1) := by decide +kernel
theorem dX1_isSameAs_25 : decode cX1_isSameAs 25 = .ok (.goto 4, 3) := by decide +kernel
theorem dX1_isSameAs_28 : decode cX1_isSameAs 28 = .ok (.iconst 0, 1) := by decide +kernel
theorem dX1_isSameAs_29 : decode cX1_isSameAs 29 = .ok (.ireturn, 1) := by decide +kernel
theorem dX1_isOppositeOf_0 : decode cX1_isOppositeOf 0 = .ok (.aload_n 0, 1) := by decide +kernel
theorem dX1_isOppositeOf_1 : decode cX1_isOppositeOf 1 = .ok (.getfield 13, 3) := by decide +kernel
theorem dX1_isOppositeOf_4 : decode cX1_isOppositeOf 4 = .ok (.aload_n 1, 1) := by decide +kernel
theorem dX1_isOppositeOf_5 : decode cX1_isOppositeOf 5 = .ok (.getfield 13, 3) := by decide +kernel
theorem dX1_isOppositeOf_8 : decode cX1_isOppositeOf 8 = .ok (.lneg, 1) := by decide +kernel
theorem dX1_isOppositeOf_9 : decode cX1_isOppositeOf 9 = .ok (.lcmp, 1) := by decide +kernel
theorem dX1_isOppositeOf_10 : decode cX1_isOppositeOf 10 = .ok (.ifCond .ne 19, 3) := by decide +kernel
theorem dX1_isOppositeOf_13 : decode cX1_isOppositeOf 13 = .ok (.aload_n 0, 1) := by decide +kernel
theorem dX1_isOppositeOf_14 : decode cX1_isOppositeOf 14 = .ok (.getfield 19, 3) := by decide +kernel
theorem dX1_isOppositeOf_17 : decode cX1_isOppositeOf 17 = .ok (.aload_n 1, 1) := by decide +kernel
theorem dX1_isOppositeOf_18 : decode cX1_isOppositeOf 18 = .ok (.getfield 19, 3) := by decide +kernel
theorem dX1_isOppositeOf_21 : decode cX1_isOppositeOf 21 = .ok (.lcmp, 1) := by decide +kernel
theorem dX1_isOppositeOf_22 : decode cX1_isOppositeOf 22 = .ok (.ifCond .ne 7, 3) := by decide +kernel
theorem dX1_isOppositeOf_25 : decode cX1_isOppositeOf 25 = .ok (.iconst 1, 1) := by decide +kernel
theorem dX1_isOppositeOf_26 : decode cX1_isOppositeOf 26 = .ok (.goto 4, 3) := by decide +kernel
theorem dX1_isOppositeOf_29 : decode cX1_isOppositeOf 29 = .ok (.iconst 0, 1) := by decide +kernel
theorem dX1_isOppositeOf_30 : decode cX1_isOppositeOf 30 = .ok (.ireturn, 1) := by decide +kernel
theorem dX1_told_0 : decode cX1_told 0 = .ok (.iload_n 1, 1) := by decide +kernel
theorem dX1_told_1 : decode cX1_told 1 = .ok (.ifCond .eq 10, 3) := by decide +kernel
theorem dX1_told_4 : decode cX1_told 4 = .ok (.aload_n 0, 1) := by decide +kernel
theorem dX1_told_5 : decode cX1_told 5 = .ok (.getfield 13, 3) := by decide +kernel
theorem dX1_told_8 : decode cX1_told 8 = .ok (.goto 7, 3) := by decide +kernel
theorem dX1_told_11 : decode cX1_told 11 = .ok (.aload_n 0, 1) := by decide +kernel
theorem dX1_told_12 : decode cX1_told 12 = .ok (.getfield 19, 3) := by decide +kernel
theorem dX1_told_15 : decode cX1_told 15 = .ok (.lreturn, 1) := by decide +kernel
theorem dX2_init_0 : decode cX2_init 0 = .ok (.aload_n 0, 1) := by decide +kernel
theorem dX2_init_1 : decode cX2_init 1 = .ok (.invokespecial 3, 3) := by decide +kernel
theorem dX2_init_4 : decode cX2_init 4 = .ok (.aload_n 0, 1) := by decide +kernel
theorem dX2_init_5 : decode cX2_init 5 = .ok (.bipush 12, 2) := by decide +kernel
theorem dX2_init_7 : decode cX2_init 7 = .ok (.newarray .int, 2) := by decide +kernel
theorem dX2_init_9 : decode cX2_init 9 = .ok (.putfield 9, 3) := by decide +kernel
theorem dX2_init_12 : decode cX2_init 12 = .ok (.aload_n 0, 1) := by decide +kernel
theorem dX2_init_13 : decode cX2_init 13 = .ok (.bipush 12, 2) := by decide +kernel
theorem dX2_init_15 : decode cX2_init 15 = .ok (.newarray .int, 2) := by decide +kernel
theorem dX2_init_17 : decode cX2_init 17 = .ok (.putfield 15, 3) := by decide +kernel
theorem dX2_init_20 : decode cX2_init 20 = .ok (.aload_n 0, 1) := by decide +kernel
theorem dX2_init_21 : decode cX2_init 21 = .ok (.bipush 12, 2) := by decide +kernel
theorem dX2_init_23 : decode cX2_init 23 = .ok (.newarray .int, 2) := by decide +kernel
theorem dX2_init_25 : decode cX2_init 25 = .ok (.putfield 18, 3) := by decide +kernel
theorem dX2_init_28 : decode cX2_init 28 = .ok (.aload_n 0, 1) := by decide +kernel
theorem dX2_init_29 : decode cX2_init 29 = .ok (.new 21, 3) := by decide +kernel
theorem dX2_init_32 : decode cX2_init 32 = .ok (.dup, 1) := by decide +kernel
theorem dX2_init_33 : decode cX2_init 33 = .ok (.lconst 1, 1) := by decide +kernel
theorem dX2_init_34 : decode cX2_init 34 = .ok (.lconst 1, 1) := by decide +kernel
theorem dX2_init_35 : decode cX2_init 35 = .ok (.invokespecial 23, 3) := by decide +kernel
theorem dX2_init_38 : decode cX2_init 38 = .ok (.putfield 26, 3) := by decide +kernel
theorem dX2_init_41 : decode cX2_init 41 = .ok (.aload_n 0, 1) := by decide +kernel
theorem dX2_init_42 : decode cX2_init 42 = .ok (.new 21, 3) := by decide +kernel
theorem dX2_init_45 : decode cX2_init 45 = .ok (.dup, 1) := by decide +kernel
theorem dX2_init_46 : decode cX2_init 46 = .ok (.lconst 0, 1) := by decide +kernel
theorem dX2_init_47 : decode cX2_init 47 = .ok (.lconst 1, 1) := by decide +kernel
theorem dX2_init_48 : decode cX2_init 48 = .ok (.invokespecial 23, 3) := by decide +kernel
theorem dX2_init_51 : decode cX2_init 51 = .ok (.putfield 30, 3) := by decide +kernel
theorem dX2_init_54 : decode cX2_init 54 = .ok (.aload_n 0, 1) := by decide +kernel
theorem dX2_init_55 : decode cX2_init 55 = .ok (.bipush 7, 2) := by decide +kernel
theorem dX2_init_57 : decode cX2_init 57 = .ok (.anewarray 21, 3) := by decide +kernel
theorem dX2_init_60 : decode cX2_init 60 = .ok (.putfield 33, 3) := by decide +kernel
theorem dX2_init_63 : decode cX2_init 63 = .ok (.aload_n 0, 1) := by decide +kernel
theorem dX2_init_64 : decode cX2_init 64 = .ok (.bipush 7, 2) := by decide +kernel
theorem dX2_init_66 : decode cX2_init 66 = .ok (.anewarray 21, 3) := by decide +kernel
theorem dX2_init_69 : decode cX2_init 69 = .ok (.putfield 37, 3) := by decide +kernel
theorem dX2_init_72 : decode cX2_init 72 = .ok (.aload_n 0, 1) := by decide +kernel
theorem dX2_init_73 : decode cX2_init 73 = .ok (.iconst 0, 1) := by decide +kernel
theorem dX2_init_74 : decode cX2_init 74 = .ok (.aload_n 0, 1) := by decide +kernel
theorem dX2_init_75 : decode cX2_init 75 = .ok (.getfield 33, 3) := by decide +kernel
theorem dX2_init_78 : decode cX2_init 78 = .ok (.invokevirtual 40, 3) := by decide +kernel
theorem dX2_init_81 : decode cX2_init 81 = .ok (.return_, 1) := by decide +kernel
theorem dX2_addWheel_0 : decode cX2_addWheel 0 = .ok (.aload_n 0, 1) := by decide +kernel
theorem dX2_addWheel_1 : decode cX2_addWheel 1 = .ok (.getfield 44, 3) := by decide +kernel
theorem dX2_addWheel_4 : decode cX2_addWheel 4 = .ok (.istore_n 3, 1) := by decide +kernel
theorem dX2_addWheel_5 : decode cX2_addWheel 5 = .ok (.aload_n 0, 1) := by decide +kernel
theorem dX2_addWheel_6 : decode cX2_addWheel 6 = .ok (.getfield 9, 3) := by decide +kernel
theorem dX2_addWheel_9 : decode cX2_addWheel 9 = .ok (.iload_n 3, 1) := by decide +kernel
theorem dX2_addWheel_10 : decode cX2_addWheel 10 = .ok (.iload_n 1, 1) := by decide +kernel
theorem dX2_addWheel_11 : decode cX2_addWheel 11 = .ok (.invokestatic 48, 3) := by decide +kernel
theorem dX2_addWheel_14 : decode cX2_addWheel 14 = .ok (.aload_n 0, 1) := by decide +kernel
theorem dX2_addWheel_15 : decode cX2_addWheel 15 = .ok (.getfield 15, 3) := by decide +kernel
theorem dX2_addWheel_18 : decode cX2_addWheel 18 = .ok (.iload_n 3, 1) := by decide +kernel
theorem dX2_addWheel_19 : decode cX2_addWheel 19 = .ok (.iload_n 2, 1) := by decide +kernel
theorem dX2_addWheel_20 : decode cX2_addWheel 20 = .ok (.invokestatic 48, 3) := by decide +kernel
theorem dX2_addWheel_23 : decode cX2_addWheel 23 = .ok (.aload_n 0, 1) := by decide +kernel
theorem dX2_addWheel_24 : decode cX2_addWheel 24 = .ok (.dup, 1) := by decide +kernel
theorem dX2_addWheel_25 : decode cX2_addWheel 25 = .ok (.getfield 44, 3) := by decide +kernel
theorem dX2_addWheel_28 : decode cX2_addWheel 28 = .ok (.iconst 1, 1) := by decide +kernel
theorem dX2_addWheel_29 : decode cX2_addWheel 29 = .ok (.iadd, 1) := by decide +kernel
theorem dX2_addWheel_30 : decode cX2_addWheel 30 = .ok (.putfield 44, 3) := by decide +kernel
theorem dX2_addWheel_33 : decode cX2_addWheel 33 = .ok (.iload_n 3, 1) := by decide +kernel
theorem dX2_addWheel_34 : decode cX2_addWheel 34 = .ok (.ireturn, 1) := by decide +kernel
theorem dX2_axleOf_0 : decode cX2_axleOf 0 = .ok (.aload_n 0, 1) := by decide +kernel
theorem dX2_axleOf_1 : decode cX2_axleOf 1 = .ok (.getfield 9, 3) := by decide +kernel
theorem dX2_axleOf_4 : decode cX2_axleOf 4 = .ok (.iload_n 1, 1) := by decide +kernel
theorem dX2_axleOf_5 : decode cX2_axleOf 5 = .ok (.invokestatic 52, 3) := by decide +kernel
theorem dX2_axleOf_8 : decode cX2_axleOf 8 = .ok (.ireturn, 1) := by decide +kernel
theorem dX2_teethOf_0 : decode cX2_teethOf 0 = .ok (.aload_n 0, 1) := by decide +kernel
theorem dX2_teethOf_1 : decode cX2_teethOf 1 = .ok (.getfield 15, 3) := by decide +kernel
theorem dX2_teethOf_4 : decode cX2_teethOf 4 = .ok (.iload_n 1, 1) := by decide +kernel
theorem dX2_teethOf_5 : decode cX2_teethOf 5 = .ok (.invokestatic 52, 3) := by decide +kernel
theorem dX2_teethOf_8 : decode cX2_teethOf 8 = .ok (.ireturn, 1) := by decide +kernel
theorem dX2_meshedWith_0 : decode cX2_meshedWith 0 = .ok (.aload_n 0, 1) := by decide +kernel
theorem dX2_meshedWith_1 : decode cX2_meshedWith 1 = .ok (.getfield 18, 3) := by decide +kernel
theorem dX2_meshedWith_4 : decode cX2_meshedWith 4 = .ok (.iload_n 1, 1) := by decide +kernel
theorem dX2_meshedWith_5 : decode cX2_meshedWith 5 = .ok (.invokestatic 52, 3) := by decide +kernel
theorem dX2_meshedWith_8 : decode cX2_meshedWith 8 = .ok (.ireturn, 1) := by decide +kernel
theorem dX2_areOnOneAxle_0 : decode cX2_areOnOneAxle 0 = .ok (.aload_n 0, 1) := by decide +kernel
theorem dX2_areOnOneAxle_1 : decode cX2_areOnOneAxle 1 = .ok (.iload_n 1, 1) := by decide +kernel
theorem dX2_areOnOneAxle_2 : decode cX2_areOnOneAxle 2 = .ok (.invokevirtual 56, 3) := by decide +kernel
theorem dX2_areOnOneAxle_5 : decode cX2_areOnOneAxle 5 = .ok (.aload_n 0, 1) := by decide +kernel
theorem dX2_areOnOneAxle_6 : decode cX2_areOnOneAxle 6 = .ok (.iload_n 2, 1) := by decide +kernel
theorem dX2_areOnOneAxle_7 : decode cX2_areOnOneAxle 7 = .ok (.invokevirtual 56, 3) := by decide +kernel
theorem dX2_areOnOneAxle_10 : decode cX2_areOnOneAxle 10 = .ok (.if_icmp .ne 7, 3) := by decide +kernel
theorem dX2_areOnOneAxle_13 : decode cX2_areOnOneAxle 13 = .ok (.iconst 1, 1) := by decide +kernel
theorem dX2_areOnOneAxle_14 : decode cX2_areOnOneAxle 14 = .ok (.goto 4, 3) := by decide +kernel
theorem dX2_areOnOneAxle_17 : decode cX2_areOnOneAxle 17 = .ok (.iconst 0, 1) := by decide +kernel
theorem dX2_areOnOneAxle_18 : decode cX2_areOnOneAxle 18 = .ok (.ireturn, 1) := by decide +kernel
theorem dX2_areMeshed_0 : decode cX2_areMeshed 0 = .ok (.aload_n 0, 1) := by decide +kernel
theorem dX2_areMeshed_1 : decode cX2_areMeshed 1 = .ok (.iload_n 1, 1) := by decide +kernel
theorem dX2_areMeshed_2 : decode cX2_areMeshed 2 = .ok (.invokevirtual 60, 3) := by decide +kernel
theorem dX2_areMeshed_5 : decode cX2_areMeshed 5 = .ok (.iload_n 2, 1) := by decide +kernel
theorem dX2_areMeshed_6 : decode cX2_areMeshed 6 = .ok (.invokestatic 63, 3) := by decide +kernel
theorem dX2_areMeshed_9 : decode cX2_areMeshed 9 = .ok (.ireturn, 1) := by decide +kernel
theorem dX2_join_0 : decode cX2_join 0 = .ok (.aload_n 0, 1) := by decide +kernel
theorem dX2_join_1 : decode cX2_join 1 = .ok (.getfield 18, 3) := by decide +kernel
theorem dX2_join_4 : decode cX2_join 4 = .ok (.iload_n 1, 1) := by decide +kernel
theorem dX2_join_5 : decode cX2_join 5 = .ok (.aload_n 0, 1) := by decide +kernel
theorem dX2_join_6 : decode cX2_join 6 = .ok (.iload_n 1, 1) := by decide +kernel
theorem dX2_join_7 : decode cX2_join 7 = .ok (.invokevirtual 60, 3) := by decide +kernel
theorem dX2_join_10 : decode cX2_join 10 = .ok (.iconst 1, 1) := by decide +kernel
theorem dX2_join_11 : decode cX2_join 11 = .ok (.iload_n 2, 1) := by decide +kernel
theorem dX2_join_12 : decode cX2_join 12 = .ok (.ishl, 1) := by decide +kernel
theorem dX2_join_13 : decode cX2_join 13 = .ok (.ior, 1) := by decide +kernel
theorem dX2_join_14 : decode cX2_join 14 = .ok (.invokestatic 48, 3) := by decide +kernel
theorem dX2_join_17 : decode cX2_join 17 = .ok (.aload_n 0, 1) := by decide +kernel
theorem dX2_join_18 : decode cX2_join 18 = .ok (.getfield 18, 3) := by decide +kernel
theorem dX2_join_21 : decode cX2_join 21 = .ok (.iload_n 2, 1) := by decide +kernel
theorem dX2_join_22 : decode cX2_join 22 = .ok (.aload_n 0, 1) := by decide +kernel
theorem dX2_join_23 : decode cX2_join 23 = .ok (.iload_n 2, 1) := by decide +kernel
theorem dX2_join_24 : decode cX2_join 24 = .ok (.invokevirtual 60, 3) := by decide +kernel
theorem dX2_join_27 : decode cX2_join 27 = .ok (.iconst 1, 1) := by decide +kernel
theorem dX2_join_28 : decode cX2_join 28 = .ok (.iload_n 1, 1) := by decide +kernel
theorem dX2_join_29 : decode cX2_join 29 = .ok (.ishl, 1) := by decide +kernel
theorem dX2_join_30 : decode cX2_join 30 = .ok (.ior, 1) := by decide +kernel
theorem dX2_join_31 : decode cX2_join 31 = .ok (.invokestatic 48, 3) := by decide +kernel
theorem dX2_join_34 : decode cX2_join 34 = .ok (.aload_n 0, 1) := by decide +kernel
theorem dX2_join_35 : decode cX2_join 35 = .ok (.iconst 0, 1) := by decide +kernel
theorem dX2_join_36 : decode cX2_join 36 = .ok (.aload_n 0, 1) := by decide +kernel
theorem dX2_join_37 : decode cX2_join 37 = .ok (.getfield 33, 3) := by decide +kernel
theorem dX2_join_40 : decode cX2_join 40 = .ok (.invokevirtual 40, 3) := by decide +kernel
theorem dX2_join_43 : decode cX2_join 43 = .ok (.return_, 1) := by decide +kernel
theorem dX2_separate_0 : decode cX2_separate 0 = .ok (.aload_n 0, 1) := by decide +kernel
theorem dX2_separate_1 : decode cX2_separate 1 = .ok (.getfield 18, 3) := by decide +kernel
theorem dX2_separate_4 : decode cX2_separate 4 = .ok (.iload_n 1, 1) := by decide +kernel
theorem dX2_separate_5 : decode cX2_separate 5 = .ok (.aload_n 0, 1) := by decide +kernel
theorem dX2_separate_6 : decode cX2_separate 6 = .ok (.iload_n 1, 1) := by decide +kernel
theorem dX2_separate_7 : decode cX2_separate 7 = .ok (.invokevirtual 60, 3) := by decide +kernel
theorem dX2_separate_10 : decode cX2_separate 10 = .ok (.iconst 1, 1) := by decide +kernel
theorem dX2_separate_11 : decode cX2_separate 11 = .ok (.iload_n 2, 1) := by decide +kernel
theorem dX2_separate_12 : decode cX2_separate 12 = .ok (.ishl, 1) := by decide +kernel
theorem dX2_separate_13 : decode cX2_separate 13 = .ok (.iconst (-1), 1) := by decide +kernel
theorem dX2_separate_14 : decode cX2_separate 14 = .ok (.ixor, 1) := by decide +kernel
theorem dX2_separate_15 : decode cX2_separate 15 = .ok (.iand, 1) := by decide +kernel
theorem dX2_separate_16 : decode cX2_separate 16 = .ok (.invokestatic 48, 3) := by decide +kernel
theorem dX2_separate_19 : decode cX2_separate 19 = .ok (.aload_n 0, 1) := by decide +kernel
theorem dX2_separate_20 : decode cX2_separate 20 = .ok (.getfield 18, 3) := by decide +kernel
theorem dX2_separate_23 : decode cX2_separate 23 = .ok (.iload_n 2, 1) := by decide +kernel
theorem dX2_separate_24 : decode cX2_separate 24 = .ok (.aload_n 0, 1) := by decide +kernel
theorem dX2_separate_25 : decode cX2_separate 25 = .ok (.iload_n 2, 1) := by decide +kernel
theorem dX2_separate_26 : decode cX2_separate 26 = .ok (.invokevirtual 60, 3) := by decide +kernel
theorem dX2_separate_29 : decode cX2_separate 29 = .ok (.iconst 1, 1) := by decide +kernel
theorem dX2_separate_30 : decode cX2_separate 30 = .ok (.iload_n 1, 1) := by decide +kernel
theorem dX2_separate_31 : decode cX2_separate 31 = .ok (.ishl, 1) := by decide +kernel
theorem dX2_separate_32 : decode cX2_separate 32 = .ok (.iconst (-1), 1) := by decide +kernel
theorem dX2_separate_33 : decode cX2_separate 33 = .ok (.ixor, 1) := by decide +kernel
theorem dX2_separate_34 : decode cX2_separate 34 = .ok (.iand, 1) := by decide +kernel
theorem dX2_separate_35 : decode cX2_separate 35 = .ok (.invokestatic 48, 3) := by decide +kernel
theorem dX2_separate_38 : decode cX2_separate 38 = .ok (.aload_n 0, 1) := by decide +kernel
theorem dX2_separate_39 : decode cX2_separate 39 = .ok (.iconst 0, 1) := by decide +kernel
theorem dX2_separate_40 : decode cX2_separate 40 = .ok (.aload_n 0, 1) := by decide +kernel
theorem dX2_separate_41 : decode cX2_separate 41 = .ok (.getfield 33, 3) := by decide +kernel
theorem dX2_separate_44 : decode cX2_separate 44 = .ok (.invokevirtual 40, 3) := by decide +kernel
theorem dX2_separate_47 : decode cX2_separate 47 = .ok (.return_, 1) := by decide +kernel
theorem dX2_wouldJam_0 : decode cX2_wouldJam 0 = .ok (.aload_n 0, 1) := by decide +kernel
theorem dX2_wouldJam_1 : decode cX2_wouldJam 1 = .ok (.aload_n 0, 1) := by decide +kernel
theorem dX2_wouldJam_2 : decode cX2_wouldJam 2 = .ok (.iload_n 1, 1) := by decide +kernel
theorem dX2_wouldJam_3 : decode cX2_wouldJam 3 = .ok (.invokevirtual 56, 3) := by decide +kernel
theorem dX2_wouldJam_6 : decode cX2_wouldJam 6 = .ok (.aload_n 0, 1) := by decide +kernel
theorem dX2_wouldJam_7 : decode cX2_wouldJam 7 = .ok (.getfield 37, 3) := by decide +kernel
theorem dX2_wouldJam_10 : decode cX2_wouldJam 10 = .ok (.invokevirtual 40, 3) := by decide +kernel
theorem dX2_wouldJam_13 : decode cX2_wouldJam 13 = .ok (.aload_n 0, 1) := by decide +kernel
theorem dX2_wouldJam_14 : decode cX2_wouldJam 14 = .ok (.getfield 37, 3) := by decide +kernel
theorem dX2_wouldJam_17 : decode cX2_wouldJam 17 = .ok (.aload_n 0, 1) := by decide +kernel
theorem dX2_wouldJam_18 : decode cX2_wouldJam 18 = .ok (.iload_n 2, 1) := by decide +kernel
theorem dX2_wouldJam_19 : decode cX2_wouldJam 19 = .ok (.invokevirtual 56, 3) := by decide +kernel
theorem dX2_wouldJam_22 : decode cX2_wouldJam 22 = .ok (.invokestatic 67, 3) := by decide +kernel
theorem dX2_wouldJam_25 : decode cX2_wouldJam 25 = .ok (.astore_n 3, 1) := by decide +kernel
theorem dX2_wouldJam_26 : decode cX2_wouldJam 26 = .ok (.aload_n 3, 1) := by decide +kernel
theorem dX2_wouldJam_27 : decode cX2_wouldJam 27 = .ok (.ifnull 34, 3) := by decide +kernel
theorem dX2_wouldJam_30 : decode cX2_wouldJam 30 = .ok (.aload_n 3, 1) := by decide +kernel
theorem dX2_wouldJam_31 : decode cX2_wouldJam 31 = .ok (.new 21, 3) := by decide +kernel
theorem dX2_wouldJam_34 : decode cX2_wouldJam 34 = .ok (.dup, 1) := by decide +kernel
theorem dX2_wouldJam_35 : decode cX2_wouldJam 35 = .ok (.aload_n 0, 1) := by decide +kernel
theorem dX2_wouldJam_36 : decode cX2_wouldJam 36 = .ok (.iload_n 1, 1) := by decide +kernel
theorem dX2_wouldJam_37 : decode cX2_wouldJam 37 = .ok (.invokevirtual 71, 3) := by decide +kernel
theorem dX2_wouldJam_40 : decode cX2_wouldJam 40 = .ok (.ineg, 1) := by decide +kernel
theorem dX2_wouldJam_41 : decode cX2_wouldJam 41 = .ok (.i2l, 1) := by decide +kernel
theorem dX2_wouldJam_42 : decode cX2_wouldJam 42 = .ok (.aload_n 0, 1) := by decide +kernel
theorem dX2_wouldJam_43 : decode cX2_wouldJam 43 = .ok (.iload_n 2, 1) := by decide +kernel
theorem dX2_wouldJam_44 : decode cX2_wouldJam 44 = .ok (.invokevirtual 71, 3) := by decide +kernel
theorem dX2_wouldJam_47 : decode cX2_wouldJam 47 = .ok (.i2l, 1) := by decide +kernel
theorem dX2_wouldJam_48 : decode cX2_wouldJam 48 = .ok (.invokespecial 23, 3) := by decide +kernel
theorem dX2_wouldJam_51 : decode cX2_wouldJam 51 = .ok (.invokevirtual 74, 3) := by decide +kernel
theorem dX2_wouldJam_54 : decode cX2_wouldJam 54 = .ok (.ifCond .ne 7, 3) := by decide +kernel
theorem dX2_wouldJam_57 : decode cX2_wouldJam 57 = .ok (.iconst 1, 1) := by decide +kernel
theorem dX2_wouldJam_58 : decode cX2_wouldJam 58 = .ok (.goto 4, 3) := by decide +kernel
theorem dX2_wouldJam_61 : decode cX2_wouldJam 61 = .ok (.iconst 0, 1) := by decide +kernel
theorem dX2_wouldJam_62 : decode cX2_wouldJam 62 = .ok (.ireturn, 1) := by decide +kernel
theorem dX2_isMoved_0 : decode cX2_isMoved 0 = .ok (.aload_n 0, 1) := by decide +kernel
theorem dX2_isMoved_1 : decode cX2_isMoved 1 = .ok (.getfield 33, 3) := by decide +kernel
theorem dX2_isMoved_4 : decode cX2_isMoved 4 = .ok (.iload_n 1, 1) := by decide +kernel
theorem dX2_isMoved_5 : decode cX2_isMoved 5 = .ok (.invokestatic 67, 3) := by decide +kernel
theorem dX2_isMoved_8 : decode cX2_isMoved 8 = .ok (.ifnull 7, 3) := by decide +kernel
theorem dX2_isMoved_11 : decode cX2_isMoved 11 = .ok (.iconst 1, 1) := by decide +kernel
theorem dX2_isMoved_12 : decode cX2_isMoved 12 = .ok (.goto 4, 3) := by decide +kernel
theorem dX2_isMoved_15 : decode cX2_isMoved 15 = .ok (.iconst 0, 1) := by decide +kernel
theorem dX2_isMoved_16 : decode cX2_isMoved 16 = .ok (.ireturn, 1) := by decide +kernel
theorem dX2_rateOf_0 : decode cX2_rateOf 0 = .ok (.aload_n 0, 1) := by decide +kernel
theorem dX2_rateOf_1 : decode cX2_rateOf 1 = .ok (.getfield 33, 3) := by decide +kernel
theorem dX2_rateOf_4 : decode cX2_rateOf 4 = .ok (.iload_n 1, 1) := by decide +kernel
theorem dX2_rateOf_5 : decode cX2_rateOf 5 = .ok (.invokestatic 67, 3) := by decide +kernel
theorem dX2_rateOf_8 : decode cX2_rateOf 8 = .ok (.astore_n 2, 1) := by decide +kernel
theorem dX2_rateOf_9 : decode cX2_rateOf 9 = .ok (.aload_n 2, 1) := by decide +kernel
theorem dX2_rateOf_10 : decode cX2_rateOf 10 = .ok (.ifnonnull 10, 3) := by decide +kernel
theorem dX2_rateOf_13 : decode cX2_rateOf 13 = .ok (.aload_n 0, 1) := by decide +kernel
theorem dX2_rateOf_14 : decode cX2_rateOf 14 = .ok (.getfield 30, 3) := by decide +kernel
theorem dX2_rateOf_17 : decode cX2_rateOf 17 = .ok (.goto 4, 3) := by decide +kernel
theorem dX2_rateOf_20 : decode cX2_rateOf 20 = .ok (.aload_n 2, 1) := by decide +kernel
theorem dX2_rateOf_21 : decode cX2_rateOf 21 = .ok (.areturn, 1) := by decide +kernel
theorem dX2_turnedAt_0 : decode cX2_turnedAt 0 = .ok (.aload_n 0, 1) := by decide +kernel
theorem dX2_turnedAt_1 : decode cX2_turnedAt 1 = .ok (.iload_n 1, 1) := by decide +kernel
theorem dX2_turnedAt_2 : decode cX2_turnedAt 2 = .ok (.invokevirtual 78, 3) := by decide +kernel
theorem dX2_turnedAt_5 : decode cX2_turnedAt 5 = .ok (.iload_n 2, 1) := by decide +kernel
theorem dX2_turnedAt_6 : decode cX2_turnedAt 6 = .ok (.i2l, 1) := by decide +kernel
theorem dX2_turnedAt_7 : decode cX2_turnedAt 7 = .ok (.lconst 1, 1) := by decide +kernel
theorem dX2_turnedAt_8 : decode cX2_turnedAt 8 = .ok (.invokevirtual 82, 3) := by decide +kernel
theorem dX2_turnedAt_11 : decode cX2_turnedAt 11 = .ok (.areturn, 1) := by decide +kernel
theorem dX2_countMeshes_0 : decode cX2_countMeshes 0 = .ok (.iconst 0, 1) := by decide +kernel
theorem dX2_countMeshes_1 : decode cX2_countMeshes 1 = .ok (.istore_n 1, 1) := by decide +kernel
theorem dX2_countMeshes_2 : decode cX2_countMeshes 2 = .ok (.iconst 0, 1) := by decide +kernel
theorem dX2_countMeshes_3 : decode cX2_countMeshes 3 = .ok (.istore_n 2, 1) := by decide +kernel
theorem dX2_countMeshes_4 : decode cX2_countMeshes 4 = .ok (.iload_n 2, 1) := by decide +kernel
theorem dX2_countMeshes_5 : decode cX2_countMeshes 5 = .ok (.aload_n 0, 1) := by decide +kernel
theorem dX2_countMeshes_6 : decode cX2_countMeshes 6 = .ok (.getfield 44, 3) := by decide +kernel
theorem dX2_countMeshes_9 : decode cX2_countMeshes 9 = .ok (.if_icmp .ge 20, 3) := by decide +kernel
theorem dX2_countMeshes_12 : decode cX2_countMeshes 12 = .ok (.iload_n 1, 1) := by decide +kernel
theorem dX2_countMeshes_13 : decode cX2_countMeshes 13 = .ok (.aload_n 0, 1) := by decide +kernel
theorem dX2_countMeshes_14 : decode cX2_countMeshes 14 = .ok (.iload_n 2, 1) := by decide +kernel
theorem dX2_countMeshes_15 : decode cX2_countMeshes 15 = .ok (.invokevirtual 60, 3) := by decide +kernel
theorem dX2_countMeshes_18 : decode cX2_countMeshes 18 = .ok (.invokestatic 86, 3) := by decide +kernel
theorem dX2_countMeshes_21 : decode cX2_countMeshes 21 = .ok (.iadd, 1) := by decide +kernel
theorem dX2_countMeshes_22 : decode cX2_countMeshes 22 = .ok (.istore_n 1, 1) := by decide +kernel
theorem dX2_countMeshes_23 : decode cX2_countMeshes 23 = .ok (.iinc 2 1, 3) := by decide +kernel
theorem dX2_countMeshes_26 : decode cX2_countMeshes 26 = .ok (.goto (-22), 3) := by decide +kernel
theorem dX2_countMeshes_29 : decode cX2_countMeshes 29 = .ok (.iload_n 1, 1) := by decide +kernel
theorem dX2_countMeshes_30 : decode cX2_countMeshes 30 = .ok (.iconst 2, 1) := by decide +kernel
theorem dX2_countMeshes_31 : decode cX2_countMeshes 31 = .ok (.idiv, 1) := by decide +kernel
theorem dX2_countMeshes_32 : decode cX2_countMeshes 32 = .ok (.ireturn, 1) := by decide +kernel
theorem dX2_countMoved_0 : decode cX2_countMoved 0 = .ok (.iconst 0, 1) := by decide +kernel
theorem dX2_countMoved_1 : decode cX2_countMoved 1 = .ok (.istore_n 1, 1) := by decide +kernel
theorem dX2_countMoved_2 : decode cX2_countMoved 2 = .ok (.iconst 0, 1) := by decide +kernel
theorem dX2_countMoved_3 : decode cX2_countMoved 3 = .ok (.istore_n 2, 1) := by decide +kernel
theorem dX2_countMoved_4 : decode cX2_countMoved 4 = .ok (.iload_n 2, 1) := by decide +kernel
theorem dX2_countMoved_5 : decode cX2_countMoved 5 = .ok (.bipush 7, 2) := by decide +kernel
theorem dX2_countMoved_7 : decode cX2_countMoved 7 = .ok (.if_icmp .ge 20, 3) := by decide +kernel
theorem dX2_countMoved_10 : decode cX2_countMoved 10 = .ok (.aload_n 0, 1) := by decide +kernel
theorem dX2_countMoved_11 : decode cX2_countMoved 11 = .ok (.iload_n 2, 1) := by decide +kernel
theorem dX2_countMoved_12 : decode cX2_countMoved 12 = .ok (.invokevirtual 91, 3) := by decide +kernel
theorem dX2_countMoved_15 : decode cX2_countMoved 15 = .ok (.ifCond .eq 6, 3) := by decide +kernel
theorem dX2_countMoved_18 : decode cX2_countMoved 18 = .ok (.iinc 1 1, 3) := by decide +kernel
theorem dX2_countMoved_21 : decode cX2_countMoved 21 = .ok (.iinc 2 1, 3) := by decide +kernel
theorem dX2_countMoved_24 : decode cX2_countMoved 24 = .ok (.goto (-20), 3) := by decide +kernel
theorem dX2_countMoved_27 : decode cX2_countMoved 27 = .ok (.iload_n 1, 1) := by decide +kernel
theorem dX2_countMoved_28 : decode cX2_countMoved 28 = .ok (.ireturn, 1) := by decide +kernel
theorem dX2_turnsToReturn_0 : decode cX2_turnsToReturn 0 = .ok (.lconst 1, 1) := by decide +kernel
theorem dX2_turnsToReturn_1 : decode cX2_turnsToReturn 1 = .ok (.lstore_n 1, 1) := by decide +kernel
theorem dX2_turnsToReturn_2 : decode cX2_turnsToReturn 2 = .ok (.iconst 0, 1) := by decide +kernel
theorem dX2_turnsToReturn_3 : decode cX2_turnsToReturn 3 = .ok (.istore_n 3, 1) := by decide +kernel
theorem dX2_turnsToReturn_4 : decode cX2_turnsToReturn 4 = .ok (.iload_n 3, 1) := by decide +kernel
theorem dX2_turnsToReturn_5 : decode cX2_turnsToReturn 5 = .ok (.bipush 7, 2) := by decide +kernel
theorem dX2_turnsToReturn_7 : decode cX2_turnsToReturn 7 = .ok (.if_icmp .ge 42, 3) := by decide +kernel
theorem dX2_turnsToReturn_10 : decode cX2_turnsToReturn 10 = .ok (.aload_n 0, 1) := by decide +kernel
theorem dX2_turnsToReturn_11 : decode cX2_turnsToReturn 11 = .ok (.iload_n 3, 1) := by decide +kernel
theorem dX2_turnsToReturn_12 : decode cX2_turnsToReturn 12 = .ok (.invokevirtual 78, 3) := by decide +kernel
theorem dX2_turnsToReturn_15 : decode cX2_turnsToReturn 15 = .ok (.getfield 95, 3) := by decide +kernel
theorem dX2_turnsToReturn_18 : decode cX2_turnsToReturn 18 = .ok (.lstore 4, 2) := by decide +kernel
theorem dX2_turnsToReturn_20 : decode cX2_turnsToReturn 20 = .ok (.lload_n 1, 1) := by decide +kernel
theorem dX2_turnsToReturn_21 : decode cX2_turnsToReturn 21 = .ok (.lload 4, 2) := by decide +kernel
theorem dX2_turnsToReturn_23 : decode cX2_turnsToReturn 23 = .ok (.invokestatic 99, 3) := by decide +kernel
theorem dX2_turnsToReturn_26 : decode cX2_turnsToReturn 26 = .ok (.lstore 6, 2) := by decide +kernel
theorem dX2_turnsToReturn_28 : decode cX2_turnsToReturn 28 = .ok (.lload 6, 2) := by decide +kernel
theorem dX2_turnsToReturn_30 : decode cX2_turnsToReturn 30 = .ok (.lconst 0, 1) := by decide +kernel
theorem dX2_turnsToReturn_31 : decode cX2_turnsToReturn 31 = .ok (.lcmp, 1) := by decide +kernel
theorem dX2_turnsToReturn_32 : decode cX2_turnsToReturn 32 = .ok (.ifCond .le 11, 3) := by decide +kernel
theorem dX2_turnsToReturn_35 : decode cX2_turnsToReturn 35 = .ok (.lload_n 1, 1) := by decide +kernel
theorem dX2_turnsToReturn_36 : decode cX2_turnsToReturn 36 = .ok (.lload 6, 2) := by decide +kernel
theorem dX2_turnsToReturn_38 : decode cX2_turnsToReturn 38 = .ok (.ldiv, 1) := by decide +kernel
theorem dX2_turnsToReturn_39 : decode cX2_turnsToReturn 39 = .ok (.lload 4, 2) := by decide +kernel
theorem dX2_turnsToReturn_41 : decode cX2_turnsToReturn 41 = .ok (.lmul, 1) := by decide +kernel
theorem dX2_turnsToReturn_42 : decode cX2_turnsToReturn 42 = .ok (.lstore_n 1, 1) := by decide +kernel
theorem dX2_turnsToReturn_43 : decode cX2_turnsToReturn 43 = .ok (.iinc 3 1, 3) := by decide +kernel
theorem dX2_turnsToReturn_46 : decode cX2_turnsToReturn 46 = .ok (.goto (-42), 3) := by decide +kernel
theorem dX2_turnsToReturn_49 : decode cX2_turnsToReturn 49 = .ok (.lload_n 1, 1) := by decide +kernel
theorem dX2_turnsToReturn_50 : decode cX2_turnsToReturn 50 = .ok (.lreturn, 1) := by decide +kernel
theorem dX2_isPeriodRight_0 : decode cX2_isPeriodRight 0 = .ok (.aload_n 0, 1) := by decide +kernel
theorem dX2_isPeriodRight_1 : decode cX2_isPeriodRight 1 = .ok (.invokevirtual 103, 3) := by decide +kernel
theorem dX2_isPeriodRight_4 : decode cX2_isPeriodRight 4 = .ok (.lstore_n 1, 1) := by decide +kernel
theorem dX2_isPeriodRight_5 : decode cX2_isPeriodRight 5 = .ok (.iconst 0, 1) := by decide +kernel
theorem dX2_isPeriodRight_6 : decode cX2_isPeriodRight 6 = .ok (.istore_n 3, 1) := by decide +kernel
theorem dX2_isPeriodRight_7 : decode cX2_isPeriodRight 7 = .ok (.iload_n 3, 1) := by decide +kernel
theorem dX2_isPeriodRight_8 : decode cX2_isPeriodRight 8 = .ok (.bipush 7, 2) := by decide +kernel
theorem dX2_isPeriodRight_10 : decode cX2_isPeriodRight 10 = .ok (.if_icmp .ge 37, 3) := by decide +kernel
theorem dX2_isPeriodRight_13 : decode cX2_isPeriodRight 13 = .ok (.aload_n 0, 1) := by decide +kernel
theorem dX2_isPeriodRight_14 : decode cX2_isPeriodRight 14 = .ok (.iload_n 3, 1) := by decide +kernel
theorem dX2_isPeriodRight_15 : decode cX2_isPeriodRight 15 = .ok (.invokevirtual 78, 3) := by decide +kernel
theorem dX2_isPeriodRight_18 : decode cX2_isPeriodRight 18 = .ok (.getfield 95, 3) := by decide +kernel
theorem dX2_isPeriodRight_21 : decode cX2_isPeriodRight 21 = .ok (.lstore 4, 2) := by decide +kernel
theorem dX2_isPeriodRight_23 : decode cX2_isPeriodRight 23 = .ok (.lload 4, 2) := by decide +kernel
theorem dX2_isPeriodRight_25 : decode cX2_isPeriodRight 25 = .ok (.lconst 0, 1) := by decide +kernel
theorem dX2_isPeriodRight_26 : decode cX2_isPeriodRight 26 = .ok (.lcmp, 1) := by decide +kernel
theorem dX2_isPeriodRight_27 : decode cX2_isPeriodRight 27 = .ok (.ifCond .le 14, 3) := by decide +kernel
theorem dX2_isPeriodRight_30 : decode cX2_isPeriodRight 30 = .ok (.lload_n 1, 1) := by decide +kernel
theorem dX2_isPeriodRight_31 : decode cX2_isPeriodRight 31 = .ok (.lload 4, 2) := by decide +kernel
theorem dX2_isPeriodRight_33 : decode cX2_isPeriodRight 33 = .ok (.lrem, 1) := by decide +kernel
theorem dX2_isPeriodRight_34 : decode cX2_isPeriodRight 34 = .ok (.lconst 0, 1) := by decide +kernel
theorem dX2_isPeriodRight_35 : decode cX2_isPeriodRight 35 = .ok (.lcmp, 1) := by decide +kernel
theorem dX2_isPeriodRight_36 : decode cX2_isPeriodRight 36 = .ok (.ifCond .eq 5, 3) := by decide +kernel
theorem dX2_isPeriodRight_39 : decode cX2_isPeriodRight 39 = .ok (.iconst 0, 1) := by decide +kernel
theorem dX2_isPeriodRight_40 : decode cX2_isPeriodRight 40 = .ok (.ireturn, 1) := by decide +kernel
theorem dX2_isPeriodRight_41 : decode cX2_isPeriodRight 41 = .ok (.iinc 3 1, 3) := by decide +kernel
theorem dX2_isPeriodRight_44 : decode cX2_isPeriodRight 44 = .ok (.goto (-37), 3) := by decide +kernel
theorem dX2_isPeriodRight_47 : decode cX2_isPeriodRight 47 = .ok (.lload_n 1, 1) := by decide +kernel
theorem dX2_isPeriodRight_48 : decode cX2_isPeriodRight 48 = .ok (.lconst 0, 1) := by decide +kernel
theorem dX2_isPeriodRight_49 : decode cX2_isPeriodRight 49 = .ok (.lcmp, 1) := by decide +kernel
theorem dX2_isPeriodRight_50 : decode cX2_isPeriodRight 50 = .ok (.ifCond .le 7, 3) := by decide +kernel
theorem dX2_isPeriodRight_53 : decode cX2_isPeriodRight 53 = .ok (.iconst 1, 1) := by decide +kernel
theorem dX2_isPeriodRight_54 : decode cX2_isPeriodRight 54 = .ok (.goto 4, 3) := by decide +kernel
theorem dX2_isPeriodRight_57 : decode cX2_isPeriodRight 57 = .ok (.iconst 0, 1) := by decide +kernel
theorem dX2_isPeriodRight_58 : decode cX2_isPeriodRight 58 = .ok (.ireturn, 1) := by decide +kernel
theorem dX2_spreadRates_0 : decode cX2_spreadRates 0 = .ok (.iconst 0, 1) := by decide +kernel
theorem dX2_spreadRates_1 : decode cX2_spreadRates 1 = .ok (.istore_n 3, 1) := by decide +kernel
theorem dX2_spreadRates_2 : decode cX2_spreadRates 2 = .ok (.iload_n 3, 1) := by decide +kernel
theorem dX2_spreadRates_3 : decode cX2_spreadRates 3 = .ok (.aload_n 2, 1) := by decide +kernel
theorem dX2_spreadRates_4 : decode cX2_spreadRates 4 = .ok (.arraylength, 1) := by decide +kernel
theorem dX2_spreadRates_5 : decode cX2_spreadRates 5 = .ok (.if_icmp .ge 25, 3) := by decide +kernel
theorem dX2_spreadRates_8 : decode cX2_spreadRates 8 = .ok (.aload_n 2, 1) := by decide +kernel
theorem dX2_spreadRates_9 : decode cX2_spreadRates 9 = .ok (.iload_n 3, 1) := by decide +kernel
theorem dX2_spreadRates_10 : decode cX2_spreadRates 10 = .ok (.iload_n 3, 1) := by decide +kernel
theorem dX2_spreadRates_11 : decode cX2_spreadRates 11 = .ok (.iload_n 1, 1) := by decide +kernel
theorem dX2_spreadRates_12 : decode cX2_spreadRates 12 = .ok (.if_icmp .ne 10, 3) := by decide +kernel
theorem dX2_spreadRates_15 : decode cX2_spreadRates 15 = .ok (.aload_n 0, 1) := by decide +kernel
theorem dX2_spreadRates_16 : decode cX2_spreadRates 16 = .ok (.getfield 26, 3) := by decide +kernel
theorem dX2_spreadRates_19 : decode cX2_spreadRates 19 = .ok (.goto 4, 3) := by decide +kernel
theorem dX2_spreadRates_22 : decode cX2_spreadRates 22 = .ok (.aconst_null, 1) := by decide +kernel
theorem dX2_spreadRates_23 : decode cX2_spreadRates 23 = .ok (.aastore, 1) := by decide +kernel
theorem dX2_spreadRates_24 : decode cX2_spreadRates 24 = .ok (.iinc 3 1, 3) := by decide +kernel
theorem dX2_spreadRates_27 : decode cX2_spreadRates 27 = .ok (.goto (-25), 3) := by decide +kernel
theorem dX2_spreadRates_30 : decode cX2_spreadRates 30 = .ok (.iconst 1, 1) := by decide +kernel
theorem dX2_spreadRates_31 : decode cX2_spreadRates 31 = .ok (.istore_n 3, 1) := by decide +kernel
theorem dX2_spreadRates_32 : decode cX2_spreadRates 32 = .ok (.iconst 0, 1) := by decide +kernel
theorem dX2_spreadRates_33 : decode cX2_spreadRates 33 = .ok (.istore 4, 2) := by decide +kernel
theorem dX2_spreadRates_35 : decode cX2_spreadRates 35 = .ok (.iload 4, 2) := by decide +kernel
theorem dX2_spreadRates_37 : decode cX2_spreadRates 37 = .ok (.bipush 7, 2) := by decide +kernel
theorem dX2_spreadRates_39 : decode cX2_spreadRates 39 = .ok (.if_icmp .ge 54, 3) := by decide +kernel
theorem dX2_spreadRates_42 : decode cX2_spreadRates 42 = .ok (.iload_n 3, 1) := by decide +kernel
theorem dX2_spreadRates_43 : decode cX2_spreadRates 43 = .ok (.ifCond .eq 50, 3) := by decide +kernel
theorem dX2_spreadRates_46 : decode cX2_spreadRates 46 = .ok (.iconst 0, 1) := by decide +kernel
theorem dX2_spreadRates_47 : decode cX2_spreadRates 47 = .ok (.istore_n 3, 1) := by decide +kernel
theorem dX2_spreadRates_48 : decode cX2_spreadRates 48 = .ok (.iconst 0, 1) := by decide +kernel
theorem dX2_spreadRates_49 : decode cX2_spreadRates 49 = .ok (.istore 5, 2) := by decide +kernel
theorem dX2_spreadRates_51 : decode cX2_spreadRates 51 = .ok (.iload 5, 2) := by decide +kernel
theorem dX2_spreadRates_53 : decode cX2_spreadRates 53 = .ok (.aload_n 0, 1) := by decide +kernel
theorem dX2_spreadRates_54 : decode cX2_spreadRates 54 = .ok (.getfield 44, 3) := by decide +kernel
theorem dX2_spreadRates_57 : decode cX2_spreadRates 57 = .ok (.if_icmp .ge 30, 3) := by decide +kernel
theorem dX2_spreadRates_60 : decode cX2_spreadRates 60 = .ok (.aload_n 0, 1) := by decide +kernel
theorem dX2_spreadRates_61 : decode cX2_spreadRates 61 = .ok (.iload 5, 2) := by decide +kernel
theorem dX2_spreadRates_63 : decode cX2_spreadRates 63 = .ok (.invokevirtual 60, 3) := by decide +kernel
theorem dX2_spreadRates_66 : decode cX2_spreadRates 66 = .ok (.ifCond .eq 15, 3) := by decide +kernel
theorem dX2_spreadRates_69 : decode cX2_spreadRates 69 = .ok (.aload_n 0, 1) := by decide +kernel
theorem dX2_spreadRates_70 : decode cX2_spreadRates 70 = .ok (.iload 5, 2) := by decide +kernel
theorem dX2_spreadRates_72 : decode cX2_spreadRates 72 = .ok (.aload_n 2, 1) := by decide +kernel
theorem dX2_spreadRates_73 : decode cX2_spreadRates 73 = .ok (.invokevirtual 107, 3) := by decide +kernel
theorem dX2_spreadRates_76 : decode cX2_spreadRates 76 = .ok (.ifCond .eq 5, 3) := by decide +kernel
theorem dX2_spreadRates_79 : decode cX2_spreadRates 79 = .ok (.iconst 1, 1) := by decide +kernel
theorem dX2_spreadRates_80 : decode cX2_spreadRates 80 = .ok (.istore_n 3, 1) := by decide +kernel
theorem dX2_spreadRates_81 : decode cX2_spreadRates 81 = .ok (.iinc 5 1, 3) := by decide +kernel
theorem dX2_spreadRates_84 : decode cX2_spreadRates 84 = .ok (.goto (-33), 3) := by decide +kernel
theorem dX2_spreadRates_87 : decode cX2_spreadRates 87 = .ok (.iinc 4 1, 3) := by decide +kernel
theorem dX2_spreadRates_90 : decode cX2_spreadRates 90 = .ok (.goto (-55), 3) := by decide +kernel
theorem dX2_spreadRates_93 : decode cX2_spreadRates 93 = .ok (.return_, 1) := by decide +kernel
theorem dX2_spreadFromWheel_0 : decode cX2_spreadFromWheel 0 = .ok (.aload_n 2, 1) := by decide +kernel
theorem dX2_spreadFromWheel_1 : decode cX2_spreadFromWheel 1 = .ok (.aload_n 0, 1) := by decide +kernel
theorem dX2_spreadFromWheel_2 : decode cX2_spreadFromWheel 2 = .ok (.iload_n 1, 1) := by decide +kernel
theorem dX2_spreadFromWheel_3 : decode cX2_spreadFromWheel 3 = .ok (.invokevirtual 56, 3) := by decide +kernel
theorem dX2_spreadFromWheel_6 : decode cX2_spreadFromWheel 6 = .ok (.invokestatic 67, 3) := by decide +kernel
theorem dX2_spreadFromWheel_9 : decode cX2_spreadFromWheel 9 = .ok (.astore_n 3, 1) := by decide +kernel
theorem dX2_spreadFromWheel_10 : decode cX2_spreadFromWheel 10 = .ok (.aload_n 3, 1) := by decide +kernel
theorem dX2_spreadFromWheel_11 : decode cX2_spreadFromWheel 11 = .ok (.ifnonnull 5, 3) := by decide +kernel
theorem dX2_spreadFromWheel_14 : decode cX2_spreadFromWheel 14 = .ok (.iconst 0, 1) := by decide +kernel
theorem dX2_spreadFromWheel_15 : decode cX2_spreadFromWheel 15 = .ok (.ireturn, 1) := by decide +kernel
theorem dX2_spreadFromWheel_16 : decode cX2_spreadFromWheel 16 = .ok (.iconst 0, 1) := by decide +kernel
theorem dX2_spreadFromWheel_17 : decode cX2_spreadFromWheel 17 = .ok (.istore 4, 2) := by decide +kernel
theorem dX2_spreadFromWheel_19 : decode cX2_spreadFromWheel 19 = .ok (.iconst 0, 1) := by decide +kernel
theorem dX2_spreadFromWheel_20 : decode cX2_spreadFromWheel 20 = .ok (.istore 5, 2) := by decide +kernel
theorem dX2_spreadFromWheel_22 : decode cX2_spreadFromWheel 22 = .ok (.iload 5, 2) := by decide +kernel
theorem dX2_spreadFromWheel_24 : decode cX2_spreadFromWheel 24 = .ok (.aload_n 0, 1) := by decide +kernel
theorem dX2_spreadFromWheel_25 : decode cX2_spreadFromWheel 25 = .ok (.getfield 44, 3) := by decide +kernel
theorem dX2_spreadFromWheel_28 : decode cX2_spreadFromWheel 28 = .ok (.if_icmp .ge 71, 3) := by decide +kernel
theorem dX2_spreadFromWheel_31 : decode cX2_spreadFromWheel 31 = .ok (.aload_n 0, 1) := by decide +kernel
theorem dX2_spreadFromWheel_32 : decode cX2_spreadFromWheel 32 = .ok (.iload 5, 2) := by decide +kernel
theorem dX2_spreadFromWheel_34 : decode cX2_spreadFromWheel 34 = .ok (.invokevirtual 56, 3) := by decide +kernel
theorem dX2_spreadFromWheel_37 : decode cX2_spreadFromWheel 37 = .ok (.istore 6, 2) := by decide +kernel
theorem dX2_spreadFromWheel_39 : decode cX2_spreadFromWheel 39 = .ok (.aload_n 0, 1) := by decide +kernel
end
section
theorem dX2_spreadFromWheel_40 : decode cX2_spreadFromWheel 40 = .ok (.iload_n 1, 1) := by decide +kernel
theorem dX2_spreadFromWheel_41 : decode cX2_spreadFromWheel 41 = .ok (.iload 5, 2) := by decide +kernel
theorem dX2_spreadFromWheel_43 : decode cX2_spreadFromWheel 43 = .ok (.invokevirtual 111, 3) := by decide +kernel
theorem dX2_spreadFromWheel_46 : decode cX2_spreadFromWheel 46 = .ok (.ifCond .eq 47, 3) := by decide +kernel
theorem dX2_spreadFromWheel_49 : decode cX2_spreadFromWheel 49 = .ok (.iload 6, 2) := by decide +kernel
theorem dX2_spreadFromWheel_51 : decode cX2_spreadFromWheel 51 = .ok (.ifCond .lt 42, 3) := by decide +kernel
theorem dX2_spreadFromWheel_54 : decode cX2_spreadFromWheel 54 = .ok (.iload 6, 2) := by decide +kernel
theorem dX2_spreadFromWheel_56 : decode cX2_spreadFromWheel 56 = .ok (.aload_n 2, 1) := by decide +kernel
theorem dX2_spreadFromWheel_57 : decode cX2_spreadFromWheel 57 = .ok (.arraylength, 1) := by decide +kernel
theorem dX2_spreadFromWheel_58 : decode cX2_spreadFromWheel 58 = .ok (.if_icmp .ge 35, 3) := by decide +kernel
theorem dX2_spreadFromWheel_61 : decode cX2_spreadFromWheel 61 = .ok (.aload_n 2, 1) := by decide +kernel
theorem dX2_spreadFromWheel_62 : decode cX2_spreadFromWheel 62 = .ok (.iload 6, 2) := by decide +kernel
theorem dX2_spreadFromWheel_64 : decode cX2_spreadFromWheel 64 = .ok (.aaload, 1) := by decide +kernel
theorem dX2_spreadFromWheel_65 : decode cX2_spreadFromWheel 65 = .ok (.ifnonnull 28, 3) := by decide +kernel
theorem dX2_spreadFromWheel_68 : decode cX2_spreadFromWheel 68 = .ok (.aload_n 2, 1) := by decide +kernel
theorem dX2_spreadFromWheel_69 : decode cX2_spreadFromWheel 69 = .ok (.iload 6, 2) := by decide +kernel
theorem dX2_spreadFromWheel_71 : decode cX2_spreadFromWheel 71 = .ok (.aload_n 3, 1) := by decide +kernel
theorem dX2_spreadFromWheel_72 : decode cX2_spreadFromWheel 72 = .ok (.aload_n 0, 1) := by decide +kernel
theorem dX2_spreadFromWheel_73 : decode cX2_spreadFromWheel 73 = .ok (.iload_n 1, 1) := by decide +kernel
theorem dX2_spreadFromWheel_74 : decode cX2_spreadFromWheel 74 = .ok (.invokevirtual 71, 3) := by decide +kernel
theorem dX2_spreadFromWheel_77 : decode cX2_spreadFromWheel 77 = .ok (.ineg, 1) := by decide +kernel
theorem dX2_spreadFromWheel_78 : decode cX2_spreadFromWheel 78 = .ok (.i2l, 1) := by decide +kernel
theorem dX2_spreadFromWheel_79 : decode cX2_spreadFromWheel 79 = .ok (.aload_n 0, 1) := by decide +kernel
theorem dX2_spreadFromWheel_80 : decode cX2_spreadFromWheel 80 = .ok (.iload 5, 2) := by decide +kernel
theorem dX2_spreadFromWheel_82 : decode cX2_spreadFromWheel 82 = .ok (.invokevirtual 71, 3) := by decide +kernel
theorem dX2_spreadFromWheel_85 : decode cX2_spreadFromWheel 85 = .ok (.i2l, 1) := by decide +kernel
theorem dX2_spreadFromWheel_86 : decode cX2_spreadFromWheel 86 = .ok (.invokevirtual 82, 3) := by decide +kernel
theorem dX2_spreadFromWheel_89 : decode cX2_spreadFromWheel 89 = .ok (.aastore, 1) := by decide +kernel
theorem dX2_spreadFromWheel_90 : decode cX2_spreadFromWheel 90 = .ok (.iconst 1, 1) := by decide +kernel
theorem dX2_spreadFromWheel_91 : decode cX2_spreadFromWheel 91 = .ok (.istore 4, 2) := by decide +kernel
theorem dX2_spreadFromWheel_93 : decode cX2_spreadFromWheel 93 = .ok (.iinc 5 1, 3) := by decide +kernel
theorem dX2_spreadFromWheel_96 : decode cX2_spreadFromWheel 96 = .ok (.goto (-74), 3) := by decide +kernel
theorem dX2_spreadFromWheel_99 : decode cX2_spreadFromWheel 99 = .ok (.iload 4, 2) := by decide +kernel
theorem dX2_spreadFromWheel_101 : decode cX2_spreadFromWheel 101 = .ok (.ireturn, 1) := by decide +kernel
theorem dX2_rateIn_0 : decode cX2_rateIn 0 = .ok (.iload_n 1, 1) := by decide +kernel
theorem dX2_rateIn_1 : decode cX2_rateIn 1 = .ok (.ifCond .lt 15, 3) := by decide +kernel
theorem dX2_rateIn_4 : decode cX2_rateIn 4 = .ok (.iload_n 1, 1) := by decide +kernel
theorem dX2_rateIn_5 : decode cX2_rateIn 5 = .ok (.aload_n 0, 1) := by decide +kernel
theorem dX2_rateIn_6 : decode cX2_rateIn 6 = .ok (.arraylength, 1) := by decide +kernel
theorem dX2_rateIn_7 : decode cX2_rateIn 7 = .ok (.if_icmp .ge 9, 3) := by decide +kernel
theorem dX2_rateIn_10 : decode cX2_rateIn 10 = .ok (.aload_n 0, 1) := by decide +kernel
theorem dX2_rateIn_11 : decode cX2_rateIn 11 = .ok (.iload_n 1, 1) := by decide +kernel
theorem dX2_rateIn_12 : decode cX2_rateIn 12 = .ok (.aaload, 1) := by decide +kernel
theorem dX2_rateIn_13 : decode cX2_rateIn 13 = .ok (.goto 4, 3) := by decide +kernel
theorem dX2_rateIn_16 : decode cX2_rateIn 16 = .ok (.aconst_null, 1) := by decide +kernel
theorem dX2_rateIn_17 : decode cX2_rateIn 17 = .ok (.areturn, 1) := by decide +kernel
theorem dX3_init_0 : decode cX3_init 0 = .ok (.aload_n 0, 1) := by decide +kernel
theorem dX3_init_1 : decode cX3_init 1 = .ok (.invokespecial 3, 3) := by decide +kernel
theorem dX3_init_4 : decode cX3_init 4 = .ok (.aload_n 0, 1) := by decide +kernel
theorem dX3_init_5 : decode cX3_init 5 = .ok (.bipush 6, 2) := by decide +kernel
theorem dX3_init_7 : decode cX3_init 7 = .ok (.newarray .int, 2) := by decide +kernel
theorem dX3_init_9 : decode cX3_init 9 = .ok (.putfield 9, 3) := by decide +kernel
theorem dX3_init_12 : decode cX3_init 12 = .ok (.aload_n 0, 1) := by decide +kernel
theorem dX3_init_13 : decode cX3_init 13 = .ok (.bipush 36, 2) := by decide +kernel
theorem dX3_init_15 : decode cX3_init 15 = .ok (.newarray .int, 2) := by decide +kernel
theorem dX3_init_17 : decode cX3_init 17 = .ok (.putfield 15, 3) := by decide +kernel
theorem dX3_init_20 : decode cX3_init 20 = .ok (.aload_n 0, 1) := by decide +kernel
theorem dX3_init_21 : decode cX3_init 21 = .ok (.bipush 36, 2) := by decide +kernel
theorem dX3_init_23 : decode cX3_init 23 = .ok (.newarray .int, 2) := by decide +kernel
theorem dX3_init_25 : decode cX3_init 25 = .ok (.putfield 18, 3) := by decide +kernel
theorem dX3_init_28 : decode cX3_init 28 = .ok (.aload_n 0, 1) := by decide +kernel
theorem dX3_init_29 : decode cX3_init 29 = .ok (.bipush 36, 2) := by decide +kernel
theorem dX3_init_31 : decode cX3_init 31 = .ok (.newarray .int, 2) := by decide +kernel
theorem dX3_init_33 : decode cX3_init 33 = .ok (.putfield 21, 3) := by decide +kernel
theorem dX3_init_36 : decode cX3_init 36 = .ok (.aload_n 0, 1) := by decide +kernel
theorem dX3_init_37 : decode cX3_init 37 = .ok (.bipush 6, 2) := by decide +kernel
theorem dX3_init_39 : decode cX3_init 39 = .ok (.newarray .int, 2) := by decide +kernel
theorem dX3_init_41 : decode cX3_init 41 = .ok (.putfield 24, 3) := by decide +kernel
theorem dX3_init_44 : decode cX3_init 44 = .ok (.aload_n 0, 1) := by decide +kernel
theorem dX3_init_45 : decode cX3_init 45 = .ok (.bipush 6, 2) := by decide +kernel
theorem dX3_init_47 : decode cX3_init 47 = .ok (.newarray .int, 2) := by decide +kernel
theorem dX3_init_49 : decode cX3_init 49 = .ok (.putfield 27, 3) := by decide +kernel
theorem dX3_init_52 : decode cX3_init 52 = .ok (.aload_n 0, 1) := by decide +kernel
theorem dX3_init_53 : decode cX3_init 53 = .ok (.bipush 6, 2) := by decide +kernel
theorem dX3_init_55 : decode cX3_init 55 = .ok (.newarray .int, 2) := by decide +kernel
theorem dX3_init_57 : decode cX3_init 57 = .ok (.putfield 30, 3) := by decide +kernel
theorem dX3_init_60 : decode cX3_init 60 = .ok (.iconst 0, 1) := by decide +kernel
theorem dX3_init_61 : decode cX3_init 61 = .ok (.istore_n 1, 1) := by decide +kernel
theorem dX3_init_62 : decode cX3_init 62 = .ok (.iload_n 1, 1) := by decide +kernel
theorem dX3_init_63 : decode cX3_init 63 = .ok (.bipush 6, 2) := by decide +kernel
theorem dX3_init_65 : decode cX3_init 65 = .ok (.if_icmp .ge 14, 3) := by decide +kernel
theorem dX3_init_68 : decode cX3_init 68 = .ok (.aload_n 0, 1) := by decide +kernel
theorem dX3_init_69 : decode cX3_init 69 = .ok (.iload_n 1, 1) := by decide +kernel
theorem dX3_init_70 : decode cX3_init 70 = .ok (.invokevirtual 33, 3) := by decide +kernel
theorem dX3_init_73 : decode cX3_init 73 = .ok (.iinc 1 1, 3) := by decide +kernel
theorem dX3_init_76 : decode cX3_init 76 = .ok (.goto (-14), 3) := by decide +kernel
theorem dX3_init_79 : decode cX3_init 79 = .ok (.return_, 1) := by decide +kernel
theorem dX3_piecesOf_0 : decode cX3_piecesOf 0 = .ok (.aload_n 0, 1) := by decide +kernel
theorem dX3_piecesOf_1 : decode cX3_piecesOf 1 = .ok (.getfield 9, 3) := by decide +kernel
theorem dX3_piecesOf_4 : decode cX3_piecesOf 4 = .ok (.iload_n 1, 1) := by decide +kernel
theorem dX3_piecesOf_5 : decode cX3_piecesOf 5 = .ok (.invokestatic 37, 3) := by decide +kernel
theorem dX3_piecesOf_8 : decode cX3_piecesOf 8 = .ok (.ireturn, 1) := by decide +kernel
theorem dX3_agreeingOf_0 : decode cX3_agreeingOf 0 = .ok (.aload_n 0, 1) := by decide +kernel
theorem dX3_agreeingOf_1 : decode cX3_agreeingOf 1 = .ok (.getfield 24, 3) := by decide +kernel
theorem dX3_agreeingOf_4 : decode cX3_agreeingOf 4 = .ok (.iload_n 1, 1) := by decide +kernel
theorem dX3_agreeingOf_5 : decode cX3_agreeingOf 5 = .ok (.invokestatic 37, 3) := by decide +kernel
theorem dX3_agreeingOf_8 : decode cX3_agreeingOf 8 = .ok (.ireturn, 1) := by decide +kernel
theorem dX3_leastOf_0 : decode cX3_leastOf 0 = .ok (.aload_n 0, 1) := by decide +kernel
theorem dX3_leastOf_1 : decode cX3_leastOf 1 = .ok (.getfield 27, 3) := by decide +kernel
theorem dX3_leastOf_4 : decode cX3_leastOf 4 = .ok (.iload_n 1, 1) := by decide +kernel
theorem dX3_leastOf_5 : decode cX3_leastOf 5 = .ok (.invokestatic 37, 3) := by decide +kernel
theorem dX3_leastOf_8 : decode cX3_leastOf 8 = .ok (.ireturn, 1) := by decide +kernel
theorem dX3_greatestOf_0 : decode cX3_greatestOf 0 = .ok (.aload_n 0, 1) := by decide +kernel
theorem dX3_greatestOf_1 : decode cX3_greatestOf 1 = .ok (.getfield 30, 3) := by decide +kernel
theorem dX3_greatestOf_4 : decode cX3_greatestOf 4 = .ok (.iload_n 1, 1) := by decide +kernel
theorem dX3_greatestOf_5 : decode cX3_greatestOf 5 = .ok (.invokestatic 37, 3) := by decide +kernel
theorem dX3_greatestOf_8 : decode cX3_greatestOf 8 = .ok (.ireturn, 1) := by decide +kernel
theorem dX3_countPieces_0 : decode cX3_countPieces 0 = .ok (.iconst 0, 1) := by decide +kernel
theorem dX3_countPieces_1 : decode cX3_countPieces 1 = .ok (.istore_n 1, 1) := by decide +kernel
theorem dX3_countPieces_2 : decode cX3_countPieces 2 = .ok (.iconst 0, 1) := by decide +kernel
theorem dX3_countPieces_3 : decode cX3_countPieces 3 = .ok (.istore_n 2, 1) := by decide +kernel
theorem dX3_countPieces_4 : decode cX3_countPieces 4 = .ok (.iload_n 2, 1) := by decide +kernel
theorem dX3_countPieces_5 : decode cX3_countPieces 5 = .ok (.bipush 6, 2) := by decide +kernel
theorem dX3_countPieces_7 : decode cX3_countPieces 7 = .ok (.if_icmp .ge 17, 3) := by decide +kernel
theorem dX3_countPieces_10 : decode cX3_countPieces 10 = .ok (.iload_n 1, 1) := by decide +kernel
theorem dX3_countPieces_11 : decode cX3_countPieces 11 = .ok (.aload_n 0, 1) := by decide +kernel
theorem dX3_countPieces_12 : decode cX3_countPieces 12 = .ok (.iload_n 2, 1) := by decide +kernel
theorem dX3_countPieces_13 : decode cX3_countPieces 13 = .ok (.invokevirtual 41, 3) := by decide +kernel
theorem dX3_countPieces_16 : decode cX3_countPieces 16 = .ok (.iadd, 1) := by decide +kernel
theorem dX3_countPieces_17 : decode cX3_countPieces 17 = .ok (.istore_n 1, 1) := by decide +kernel
theorem dX3_countPieces_18 : decode cX3_countPieces 18 = .ok (.iinc 2 1, 3) := by decide +kernel
theorem dX3_countPieces_21 : decode cX3_countPieces 21 = .ok (.goto (-17), 3) := by decide +kernel
theorem dX3_countPieces_24 : decode cX3_countPieces 24 = .ok (.iload_n 1, 1) := by decide +kernel
theorem dX3_countPieces_25 : decode cX3_countPieces 25 = .ok (.ireturn, 1) := by decide +kernel
theorem dX3_weigh_0 : decode cX3_weigh 0 = .ok (.iconst 0, 1) := by decide +kernel
theorem dX3_weigh_1 : decode cX3_weigh 1 = .ok (.istore_n 2, 1) := by decide +kernel
theorem dX3_weigh_2 : decode cX3_weigh 2 = .ok (.iconst (-1), 1) := by decide +kernel
theorem dX3_weigh_3 : decode cX3_weigh 3 = .ok (.istore_n 3, 1) := by decide +kernel
theorem dX3_weigh_4 : decode cX3_weigh 4 = .ok (.iconst (-1), 1) := by decide +kernel
theorem dX3_weigh_5 : decode cX3_weigh 5 = .ok (.istore 4, 2) := by decide +kernel
theorem dX3_weigh_7 : decode cX3_weigh 7 = .ok (.iconst 4, 1) := by decide +kernel
theorem dX3_weigh_8 : decode cX3_weigh 8 = .ok (.istore 5, 2) := by decide +kernel
theorem dX3_weigh_10 : decode cX3_weigh 10 = .ok (.iload 5, 2) := by decide +kernel
theorem dX3_weigh_12 : decode cX3_weigh 12 = .ok (.sipush 240, 3) := by decide +kernel
theorem dX3_weigh_15 : decode cX3_weigh 15 = .ok (.if_icmp .gt 38, 3) := by decide +kernel
theorem dX3_weigh_18 : decode cX3_weigh 18 = .ok (.aload_n 0, 1) := by decide +kernel
theorem dX3_weigh_19 : decode cX3_weigh 19 = .ok (.iload 5, 2) := by decide +kernel
theorem dX3_weigh_21 : decode cX3_weigh 21 = .ok (.iload_n 1, 1) := by decide +kernel
theorem dX3_weigh_22 : decode cX3_weigh 22 = .ok (.invokevirtual 49, 3) := by decide +kernel
theorem dX3_weigh_25 : decode cX3_weigh 25 = .ok (.ifCond .eq 22, 3) := by decide +kernel
theorem dX3_weigh_28 : decode cX3_weigh 28 = .ok (.iinc 2 1, 3) := by decide +kernel
theorem dX3_weigh_31 : decode cX3_weigh 31 = .ok (.iload_n 3, 1) := by decide +kernel
theorem dX3_weigh_32 : decode cX3_weigh 32 = .ok (.iconst (-1), 1) := by decide +kernel
theorem dX3_weigh_33 : decode cX3_weigh 33 = .ok (.if_icmp .ne 8, 3) := by decide +kernel
theorem dX3_weigh_36 : decode cX3_weigh 36 = .ok (.iload 5, 2) := by decide +kernel
theorem dX3_weigh_38 : decode cX3_weigh 38 = .ok (.goto 4, 3) := by decide +kernel
theorem dX3_weigh_41 : decode cX3_weigh 41 = .ok (.iload_n 3, 1) := by decide +kernel
theorem dX3_weigh_42 : decode cX3_weigh 42 = .ok (.istore_n 3, 1) := by decide +kernel
theorem dX3_weigh_43 : decode cX3_weigh 43 = .ok (.iload 5, 2) := by decide +kernel
theorem dX3_weigh_45 : decode cX3_weigh 45 = .ok (.istore 4, 2) := by decide +kernel
theorem dX3_weigh_47 : decode cX3_weigh 47 = .ok (.iinc 5 1, 3) := by decide +kernel
theorem dX3_weigh_50 : decode cX3_weigh 50 = .ok (.goto (-40), 3) := by decide +kernel
theorem dX3_weigh_53 : decode cX3_weigh 53 = .ok (.aload_n 0, 1) := by decide +kernel
theorem dX3_weigh_54 : decode cX3_weigh 54 = .ok (.getfield 24, 3) := by decide +kernel
theorem dX3_weigh_57 : decode cX3_weigh 57 = .ok (.iload_n 1, 1) := by decide +kernel
theorem dX3_weigh_58 : decode cX3_weigh 58 = .ok (.iload_n 2, 1) := by decide +kernel
theorem dX3_weigh_59 : decode cX3_weigh 59 = .ok (.invokestatic 45, 3) := by decide +kernel
theorem dX3_weigh_62 : decode cX3_weigh 62 = .ok (.aload_n 0, 1) := by decide +kernel
theorem dX3_weigh_63 : decode cX3_weigh 63 = .ok (.getfield 27, 3) := by decide +kernel
theorem dX3_weigh_66 : decode cX3_weigh 66 = .ok (.iload_n 1, 1) := by decide +kernel
theorem dX3_weigh_67 : decode cX3_weigh 67 = .ok (.iload_n 3, 1) := by decide +kernel
theorem dX3_weigh_68 : decode cX3_weigh 68 = .ok (.invokestatic 45, 3) := by decide +kernel
theorem dX3_weigh_71 : decode cX3_weigh 71 = .ok (.aload_n 0, 1) := by decide +kernel
theorem dX3_weigh_72 : decode cX3_weigh 72 = .ok (.getfield 30, 3) := by decide +kernel
theorem dX3_weigh_75 : decode cX3_weigh 75 = .ok (.iload_n 1, 1) := by decide +kernel
theorem dX3_weigh_76 : decode cX3_weigh 76 = .ok (.iload 4, 2) := by decide +kernel
theorem dX3_weigh_78 : decode cX3_weigh 78 = .ok (.invokestatic 45, 3) := by decide +kernel
theorem dX3_weigh_81 : decode cX3_weigh 81 = .ok (.return_, 1) := by decide +kernel
theorem dX3_agreesWithAll_0 : decode cX3_agreesWithAll 0 = .ok (.iload_n 2, 1) := by decide +kernel
theorem dX3_agreesWithAll_1 : decode cX3_agreesWithAll 1 = .ok (.bipush 6, 2) := by decide +kernel
theorem dX3_agreesWithAll_3 : decode cX3_agreesWithAll 3 = .ok (.imul, 1) := by decide +kernel
theorem dX3_agreesWithAll_4 : decode cX3_agreesWithAll 4 = .ok (.istore_n 3, 1) := by decide +kernel
theorem dX3_agreesWithAll_5 : decode cX3_agreesWithAll 5 = .ok (.iload_n 3, 1) := by decide +kernel
theorem dX3_agreesWithAll_6 : decode cX3_agreesWithAll 6 = .ok (.aload_n 0, 1) := by decide +kernel
theorem dX3_agreesWithAll_7 : decode cX3_agreesWithAll 7 = .ok (.iload_n 2, 1) := by decide +kernel
theorem dX3_agreesWithAll_8 : decode cX3_agreesWithAll 8 = .ok (.invokevirtual 41, 3) := by decide +kernel
theorem dX3_agreesWithAll_11 : decode cX3_agreesWithAll 11 = .ok (.iadd, 1) := by decide +kernel
theorem dX3_agreesWithAll_12 : decode cX3_agreesWithAll 12 = .ok (.istore 4, 2) := by decide +kernel
theorem dX3_agreesWithAll_14 : decode cX3_agreesWithAll 14 = .ok (.iload_n 3, 1) := by decide +kernel
theorem dX3_agreesWithAll_15 : decode cX3_agreesWithAll 15 = .ok (.istore 5, 2) := by decide +kernel
theorem dX3_agreesWithAll_17 : decode cX3_agreesWithAll 17 = .ok (.iload 5, 2) := by decide +kernel
theorem dX3_agreesWithAll_19 : decode cX3_agreesWithAll 19 = .ok (.iload 4, 2) := by decide +kernel
theorem dX3_agreesWithAll_21 : decode cX3_agreesWithAll 21 = .ok (.if_icmp .ge 57, 3) := by decide +kernel
theorem dX3_agreesWithAll_24 : decode cX3_agreesWithAll 24 = .ok (.iload_n 1, 1) := by decide +kernel
theorem dX3_agreesWithAll_25 : decode cX3_agreesWithAll 25 = .ok (.aload_n 0, 1) := by decide +kernel
theorem dX3_agreesWithAll_26 : decode cX3_agreesWithAll 26 = .ok (.getfield 18, 3) := by decide +kernel
theorem dX3_agreesWithAll_29 : decode cX3_agreesWithAll 29 = .ok (.iload 5, 2) := by decide +kernel
theorem dX3_agreesWithAll_31 : decode cX3_agreesWithAll 31 = .ok (.invokestatic 37, 3) := by decide +kernel
theorem dX3_agreesWithAll_34 : decode cX3_agreesWithAll 34 = .ok (.imul, 1) := by decide +kernel
theorem dX3_agreesWithAll_35 : decode cX3_agreesWithAll 35 = .ok (.sipush 360, 3) := by decide +kernel
theorem dX3_agreesWithAll_38 : decode cX3_agreesWithAll 38 = .ok (.aload_n 0, 1) := by decide +kernel
theorem dX3_agreesWithAll_39 : decode cX3_agreesWithAll 39 = .ok (.getfield 15, 3) := by decide +kernel
theorem dX3_agreesWithAll_42 : decode cX3_agreesWithAll 42 = .ok (.iload 5, 2) := by decide +kernel
theorem dX3_agreesWithAll_44 : decode cX3_agreesWithAll 44 = .ok (.invokestatic 37, 3) := by decide +kernel
theorem dX3_agreesWithAll_47 : decode cX3_agreesWithAll 47 = .ok (.imul, 1) := by decide +kernel
theorem dX3_agreesWithAll_48 : decode cX3_agreesWithAll 48 = .ok (.isub, 1) := by decide +kernel
theorem dX3_agreesWithAll_49 : decode cX3_agreesWithAll 49 = .ok (.invokestatic 53, 3) := by decide +kernel
theorem dX3_agreesWithAll_52 : decode cX3_agreesWithAll 52 = .ok (.istore 6, 2) := by decide +kernel
theorem dX3_agreesWithAll_54 : decode cX3_agreesWithAll 54 = .ok (.iload 6, 2) := by decide +kernel
theorem dX3_agreesWithAll_56 : decode cX3_agreesWithAll 56 = .ok (.iload_n 1, 1) := by decide +kernel
theorem dX3_agreesWithAll_57 : decode cX3_agreesWithAll 57 = .ok (.aload_n 0, 1) := by decide +kernel
theorem dX3_agreesWithAll_58 : decode cX3_agreesWithAll 58 = .ok (.getfield 21, 3) := by decide +kernel
theorem dX3_agreesWithAll_61 : decode cX3_agreesWithAll 61 = .ok (.iload 5, 2) := by decide +kernel
theorem dX3_agreesWithAll_63 : decode cX3_agreesWithAll 63 = .ok (.invokestatic 37, 3) := by decide +kernel
theorem dX3_agreesWithAll_66 : decode cX3_agreesWithAll 66 = .ok (.imul, 1) := by decide +kernel
theorem dX3_agreesWithAll_67 : decode cX3_agreesWithAll 67 = .ok (.if_icmp .le 5, 3) := by decide +kernel
theorem dX3_agreesWithAll_70 : decode cX3_agreesWithAll 70 = .ok (.iconst 0, 1) := by decide +kernel
theorem dX3_agreesWithAll_71 : decode cX3_agreesWithAll 71 = .ok (.ireturn, 1) := by decide +kernel
theorem dX3_agreesWithAll_72 : decode cX3_agreesWithAll 72 = .ok (.iinc 5 1, 3) := by decide +kernel
theorem dX3_agreesWithAll_75 : decode cX3_agreesWithAll 75 = .ok (.goto (-58), 3) := by decide +kernel
theorem dX3_agreesWithAll_78 : decode cX3_agreesWithAll 78 = .ok (.iconst 1, 1) := by decide +kernel
theorem dX3_agreesWithAll_79 : decode cX3_agreesWithAll 79 = .ok (.ireturn, 1) := by decide +kernel
theorem dX4_init_0 : decode cX4_init 0 = .ok (.aload_n 0, 1) := by decide +kernel
theorem dX4_init_1 : decode cX4_init 1 = .ok (.invokespecial 3, 3) := by decide +kernel
theorem dX4_init_4 : decode cX4_init 4 = .ok (.aload_n 0, 1) := by decide +kernel
theorem dX4_init_5 : decode cX4_init 5 = .ok (.invokevirtual 9, 3) := by decide +kernel
theorem dX4_init_8 : decode cX4_init 8 = .ok (.return_, 1) := by decide +kernel
theorem dX4_forget_0 : decode cX4_forget 0 = .ok (.aload_n 0, 1) := by decide +kernel
theorem dX4_forget_1 : decode cX4_forget 1 = .ok (.iconst (-1), 1) := by decide +kernel
theorem dX4_forget_2 : decode cX4_forget 2 = .ok (.putfield 22, 3) := by decide +kernel
theorem dX4_forget_5 : decode cX4_forget 5 = .ok (.aload_n 0, 1) := by decide +kernel
theorem dX4_forget_6 : decode cX4_forget 6 = .ok (.iconst (-1), 1) := by decide +kernel
theorem dX4_forget_7 : decode cX4_forget 7 = .ok (.putfield 29, 3) := by decide +kernel
theorem dX4_forget_10 : decode cX4_forget 10 = .ok (.aload_n 0, 1) := by decide +kernel
theorem dX4_forget_11 : decode cX4_forget 11 = .ok (.iconst (-1), 1) := by decide +kernel
theorem dX4_forget_12 : decode cX4_forget 12 = .ok (.putfield 32, 3) := by decide +kernel
theorem dX4_forget_15 : decode cX4_forget 15 = .ok (.aload_n 0, 1) := by decide +kernel
theorem dX4_forget_16 : decode cX4_forget 16 = .ok (.iconst (-1), 1) := by decide +kernel
theorem dX4_forget_17 : decode cX4_forget 17 = .ok (.putfield 35, 3) := by decide +kernel
theorem dX4_forget_20 : decode cX4_forget 20 = .ok (.aload_n 0, 1) := by decide +kernel
theorem dX4_forget_21 : decode cX4_forget 21 = .ok (.iconst (-1), 1) := by decide +kernel
theorem dX4_forget_22 : decode cX4_forget 22 = .ok (.putfield 38, 3) := by decide +kernel
theorem dX4_forget_25 : decode cX4_forget 25 = .ok (.return_, 1) := by decide +kernel
theorem dX5_init_0 : decode cX5_init 0 = .ok (.aload_n 0, 1) := by decide +kernel
theorem dX5_init_1 : decode cX5_init 1 = .ok (.invokespecial 1, 3) := by decide +kernel
theorem dX5_init_4 : decode cX5_init 4 = .ok (.aload_n 0, 1) := by decide +kernel
theorem dX5_init_5 : decode cX5_init 5 = .ok (.new 7, 3) := by decide +kernel
theorem dX5_init_8 : decode cX5_init 8 = .ok (.dup, 1) := by decide +kernel
theorem dX5_init_9 : decode cX5_init 9 = .ok (.invokespecial 9, 3) := by decide +kernel
theorem dX5_init_12 : decode cX5_init 12 = .ok (.putfield 10, 3) := by decide +kernel
theorem dX5_init_15 : decode cX5_init 15 = .ok (.aload_n 0, 1) := by decide +kernel
theorem dX5_init_16 : decode cX5_init 16 = .ok (.bipush 7, 2) := by decide +kernel
theorem dX5_init_18 : decode cX5_init 18 = .ok (.newarray .int, 2) := by decide +kernel
theorem dX5_init_20 : decode cX5_init 20 = .ok (.putfield 16, 3) := by decide +kernel
theorem dX5_init_23 : decode cX5_init 23 = .ok (.iconst 0, 1) := by decide +kernel
theorem dX5_init_24 : decode cX5_init 24 = .ok (.istore_n 1, 1) := by decide +kernel
theorem dX5_init_25 : decode cX5_init 25 = .ok (.iload_n 1, 1) := by decide +kernel
theorem dX5_init_26 : decode cX5_init 26 = .ok (.aload_n 0, 1) := by decide +kernel
theorem dX5_init_27 : decode cX5_init 27 = .ok (.getfield 16, 3) := by decide +kernel
theorem dX5_init_30 : decode cX5_init 30 = .ok (.arraylength, 1) := by decide +kernel
theorem dX5_init_31 : decode cX5_init 31 = .ok (.if_icmp .ge 17, 3) := by decide +kernel
theorem dX5_init_34 : decode cX5_init 34 = .ok (.aload_n 0, 1) := by decide +kernel
theorem dX5_init_35 : decode cX5_init 35 = .ok (.getfield 16, 3) := by decide +kernel
theorem dX5_init_38 : decode cX5_init 38 = .ok (.iload_n 1, 1) := by decide +kernel
theorem dX5_init_39 : decode cX5_init 39 = .ok (.bipush 12, 2) := by decide +kernel
theorem dX5_init_41 : decode cX5_init 41 = .ok (.iastore, 1) := by decide +kernel
theorem dX5_init_42 : decode cX5_init 42 = .ok (.iinc 1 1, 3) := by decide +kernel
theorem dX5_init_45 : decode cX5_init 45 = .ok (.goto (-20), 3) := by decide +kernel
theorem dX5_init_48 : decode cX5_init 48 = .ok (.aload_n 0, 1) := by decide +kernel
theorem dX5_init_49 : decode cX5_init 49 = .ok (.new 20, 3) := by decide +kernel
theorem dX5_init_52 : decode cX5_init 52 = .ok (.dup, 1) := by decide +kernel
theorem dX5_init_53 : decode cX5_init 53 = .ok (.invokespecial 22, 3) := by decide +kernel
theorem dX5_init_56 : decode cX5_init 56 = .ok (.putfield 23, 3) := by decide +kernel
theorem dX5_init_59 : decode cX5_init 59 = .ok (.aload_n 0, 1) := by decide +kernel
theorem dX5_init_60 : decode cX5_init 60 = .ok (.new 27, 3) := by decide +kernel
theorem dX5_init_63 : decode cX5_init 63 = .ok (.dup, 1) := by decide +kernel
theorem dX5_init_64 : decode cX5_init 64 = .ok (.invokespecial 29, 3) := by decide +kernel
theorem dX5_init_67 : decode cX5_init 67 = .ok (.putfield 30, 3) := by decide +kernel
theorem dX5_init_70 : decode cX5_init 70 = .ok (.aload_n 0, 1) := by decide +kernel
theorem dX5_init_71 : decode cX5_init 71 = .ok (.new 34, 3) := by decide +kernel
theorem dX5_init_74 : decode cX5_init 74 = .ok (.dup, 1) := by decide +kernel
theorem dX5_init_75 : decode cX5_init 75 = .ok (.invokespecial 36, 3) := by decide +kernel
theorem dX5_init_78 : decode cX5_init 78 = .ok (.putfield 37, 3) := by decide +kernel
theorem dX5_init_81 : decode cX5_init 81 = .ok (.return_, 1) := by decide +kernel
theorem dX5_wheel_0 : decode cX5_wheel 0 = .ok (.iload_n 1, 1) := by decide +kernel
theorem dX5_wheel_1 : decode cX5_wheel 1 = .ok (.invokestatic 41, 3) := by decide +kernel
theorem dX5_wheel_4 : decode cX5_wheel 4 = .ok (.iload_n 2, 1) := by decide +kernel
theorem dX5_wheel_5 : decode cX5_wheel 5 = .ok (.iconst 4, 1) := by decide +kernel
theorem dX5_wheel_6 : decode cX5_wheel 6 = .ok (.bipush 100, 2) := by decide +kernel
theorem dX5_wheel_8 : decode cX5_wheel 8 = .ok (.invokestatic 45, 3) := by decide +kernel
theorem dX5_wheel_11 : decode cX5_wheel 11 = .ok (.invokestatic 49, 3) := by decide +kernel
theorem dX5_wheel_14 : decode cX5_wheel 14 = .ok (.aload_n 0, 1) := by decide +kernel
theorem dX5_wheel_15 : decode cX5_wheel 15 = .ok (.getfield 10, 3) := by decide +kernel
theorem dX5_wheel_18 : decode cX5_wheel 18 = .ok (.getfield 53, 3) := by decide +kernel
theorem dX5_wheel_21 : decode cX5_wheel 21 = .ok (.bipush 12, 2) := by decide +kernel
theorem dX5_wheel_23 : decode cX5_wheel 23 = .ok (.if_icmp .ge 7, 3) := by decide +kernel
theorem dX5_wheel_26 : decode cX5_wheel 26 = .ok (.iconst 1, 1) := by decide +kernel
theorem dX5_wheel_27 : decode cX5_wheel 27 = .ok (.goto 4, 3) := by decide +kernel
theorem dX5_wheel_30 : decode cX5_wheel 30 = .ok (.iconst 0, 1) := by decide +kernel
theorem dX5_wheel_31 : decode cX5_wheel 31 = .ok (.invokestatic 57, 3) := by decide +kernel
theorem dX5_wheel_34 : decode cX5_wheel 34 = .ok (.aload_n 0, 1) := by decide +kernel
theorem dX5_wheel_35 : decode cX5_wheel 35 = .ok (.getfield 10, 3) := by decide +kernel
theorem dX5_wheel_38 : decode cX5_wheel 38 = .ok (.iload_n 1, 1) := by decide +kernel
theorem dX5_wheel_39 : decode cX5_wheel 39 = .ok (.iload_n 2, 1) := by decide +kernel
theorem dX5_wheel_40 : decode cX5_wheel 40 = .ok (.invokevirtual 60, 3) := by decide +kernel
theorem dX5_wheel_43 : decode cX5_wheel 43 = .ok (.ireturn, 1) := by decide +kernel
theorem dX5_mesh_0 : decode cX5_mesh 0 = .ok (.aload_n 0, 1) := by decide +kernel
theorem dX5_mesh_1 : decode cX5_mesh 1 = .ok (.iload_n 1, 1) := by decide +kernel
theorem dX5_mesh_2 : decode cX5_mesh 2 = .ok (.invokevirtual 64, 3) := by decide +kernel
theorem dX5_mesh_5 : decode cX5_mesh 5 = .ok (.aload_n 0, 1) := by decide +kernel
theorem dX5_mesh_6 : decode cX5_mesh 6 = .ok (.iload_n 2, 1) := by decide +kernel
theorem dX5_mesh_7 : decode cX5_mesh 7 = .ok (.invokevirtual 64, 3) := by decide +kernel
theorem dX5_mesh_10 : decode cX5_mesh 10 = .ok (.aload_n 0, 1) := by decide +kernel
theorem dX5_mesh_11 : decode cX5_mesh 11 = .ok (.getfield 10, 3) := by decide +kernel
theorem dX5_mesh_14 : decode cX5_mesh 14 = .ok (.iload_n 1, 1) := by decide +kernel
theorem dX5_mesh_15 : decode cX5_mesh 15 = .ok (.iload_n 2, 1) := by decide +kernel
theorem dX5_mesh_16 : decode cX5_mesh 16 = .ok (.invokevirtual 67, 3) := by decide +kernel
theorem dX5_mesh_19 : decode cX5_mesh 19 = .ok (.ifCond .ne 7, 3) := by decide +kernel
theorem dX5_mesh_22 : decode cX5_mesh 22 = .ok (.iconst 1, 1) := by decide +kernel
theorem dX5_mesh_23 : decode cX5_mesh 23 = .ok (.goto 4, 3) := by decide +kernel
theorem dX5_mesh_26 : decode cX5_mesh 26 = .ok (.iconst 0, 1) := by decide +kernel
theorem dX5_mesh_27 : decode cX5_mesh 27 = .ok (.invokestatic 49, 3) := by decide +kernel
theorem dX5_mesh_30 : decode cX5_mesh 30 = .ok (.aload_n 0, 1) := by decide +kernel
theorem dX5_mesh_31 : decode cX5_mesh 31 = .ok (.getfield 10, 3) := by decide +kernel
theorem dX5_mesh_34 : decode cX5_mesh 34 = .ok (.iload_n 1, 1) := by decide +kernel
theorem dX5_mesh_35 : decode cX5_mesh 35 = .ok (.iload_n 2, 1) := by decide +kernel
theorem dX5_mesh_36 : decode cX5_mesh 36 = .ok (.invokevirtual 71, 3) := by decide +kernel
theorem dX5_mesh_39 : decode cX5_mesh 39 = .ok (.ifCond .eq 15, 3) := by decide +kernel
theorem dX5_mesh_42 : decode cX5_mesh 42 = .ok (.aload_n 0, 1) := by decide +kernel
theorem dX5_mesh_43 : decode cX5_mesh 43 = .ok (.dup, 1) := by decide +kernel
theorem dX5_mesh_44 : decode cX5_mesh 44 = .ok (.getfield 74, 3) := by decide +kernel
theorem dX5_mesh_47 : decode cX5_mesh 47 = .ok (.iconst 1, 1) := by decide +kernel
theorem dX5_mesh_48 : decode cX5_mesh 48 = .ok (.iadd, 1) := by decide +kernel
theorem dX5_mesh_49 : decode cX5_mesh 49 = .ok (.putfield 74, 3) := by decide +kernel
theorem dX5_mesh_52 : decode cX5_mesh 52 = .ok (.iconst 0, 1) := by decide +kernel
theorem dX5_mesh_53 : decode cX5_mesh 53 = .ok (.ireturn, 1) := by decide +kernel
theorem dX5_mesh_54 : decode cX5_mesh 54 = .ok (.aload_n 0, 1) := by decide +kernel
theorem dX5_mesh_55 : decode cX5_mesh 55 = .ok (.getfield 10, 3) := by decide +kernel
theorem dX5_mesh_58 : decode cX5_mesh 58 = .ok (.iload_n 1, 1) := by decide +kernel
theorem dX5_mesh_59 : decode cX5_mesh 59 = .ok (.iload_n 2, 1) := by decide +kernel
theorem dX5_mesh_60 : decode cX5_mesh 60 = .ok (.invokevirtual 77, 3) := by decide +kernel
theorem dX5_mesh_63 : decode cX5_mesh 63 = .ok (.iconst 1, 1) := by decide +kernel
theorem dX5_mesh_64 : decode cX5_mesh 64 = .ok (.ireturn, 1) := by decide +kernel
theorem dX5_part_0 : decode cX5_part 0 = .ok (.aload_n 0, 1) := by decide +kernel
theorem dX5_part_1 : decode cX5_part 1 = .ok (.iload_n 1, 1) := by decide +kernel
theorem dX5_part_2 : decode cX5_part 2 = .ok (.invokevirtual 64, 3) := by decide +kernel
theorem dX5_part_5 : decode cX5_part 5 = .ok (.aload_n 0, 1) := by decide +kernel
theorem dX5_part_6 : decode cX5_part 6 = .ok (.iload_n 2, 1) := by decide +kernel
theorem dX5_part_7 : decode cX5_part 7 = .ok (.invokevirtual 64, 3) := by decide +kernel
theorem dX5_part_10 : decode cX5_part 10 = .ok (.aload_n 0, 1) := by decide +kernel
theorem dX5_part_11 : decode cX5_part 11 = .ok (.getfield 10, 3) := by decide +kernel
theorem dX5_part_14 : decode cX5_part 14 = .ok (.iload_n 1, 1) := by decide +kernel
theorem dX5_part_15 : decode cX5_part 15 = .ok (.iload_n 2, 1) := by decide +kernel
theorem dX5_part_16 : decode cX5_part 16 = .ok (.invokevirtual 81, 3) := by decide +kernel
theorem dX5_part_19 : decode cX5_part 19 = .ok (.istore_n 3, 1) := by decide +kernel
theorem dX5_part_20 : decode cX5_part 20 = .ok (.iload_n 3, 1) := by decide +kernel
theorem dX5_part_21 : decode cX5_part 21 = .ok (.ifCond .eq 12, 3) := by decide +kernel
theorem dX5_part_24 : decode cX5_part 24 = .ok (.aload_n 0, 1) := by decide +kernel
theorem dX5_part_25 : decode cX5_part 25 = .ok (.getfield 10, 3) := by decide +kernel
theorem dX5_part_28 : decode cX5_part 28 = .ok (.iload_n 1, 1) := by decide +kernel
theorem dX5_part_29 : decode cX5_part 29 = .ok (.iload_n 2, 1) := by decide +kernel
theorem dX5_part_30 : decode cX5_part 30 = .ok (.invokevirtual 84, 3) := by decide +kernel
theorem dX5_part_33 : decode cX5_part 33 = .ok (.iload_n 3, 1) := by decide +kernel
theorem dX5_part_34 : decode cX5_part 34 = .ok (.ireturn, 1) := by decide +kernel
theorem dX5_turn_0 : decode cX5_turn 0 = .ok (.iload_n 1, 1) := by decide +kernel
theorem dX5_turn_1 : decode cX5_turn 1 = .ok (.sipush (-999), 3) := by decide +kernel
theorem dX5_turn_4 : decode cX5_turn 4 = .ok (.sipush 999, 3) := by decide +kernel
theorem dX5_turn_7 : decode cX5_turn 7 = .ok (.invokestatic 45, 3) := by decide +kernel
theorem dX5_turn_10 : decode cX5_turn 10 = .ok (.invokestatic 49, 3) := by decide +kernel
theorem dX5_turn_13 : decode cX5_turn 13 = .ok (.aload_n 0, 1) := by decide +kernel
theorem dX5_turn_14 : decode cX5_turn 14 = .ok (.getfield 87, 3) := by decide +kernel
theorem dX5_turn_17 : decode cX5_turn 17 = .ok (.iload_n 1, 1) := by decide +kernel
theorem dX5_turn_18 : decode cX5_turn 18 = .ok (.iadd, 1) := by decide +kernel
theorem dX5_turn_19 : decode cX5_turn 19 = .ok (.sipush (-9999), 3) := by decide +kernel
theorem dX5_turn_22 : decode cX5_turn 22 = .ok (.sipush 9999, 3) := by decide +kernel
theorem dX5_turn_25 : decode cX5_turn 25 = .ok (.invokestatic 45, 3) := by decide +kernel
theorem dX5_turn_28 : decode cX5_turn 28 = .ok (.invokestatic 57, 3) := by decide +kernel
theorem dX5_turn_31 : decode cX5_turn 31 = .ok (.aload_n 0, 1) := by decide +kernel
theorem dX5_turn_32 : decode cX5_turn 32 = .ok (.dup, 1) := by decide +kernel
theorem dX5_turn_33 : decode cX5_turn 33 = .ok (.getfield 87, 3) := by decide +kernel
theorem dX5_turn_36 : decode cX5_turn 36 = .ok (.iload_n 1, 1) := by decide +kernel
theorem dX5_turn_37 : decode cX5_turn 37 = .ok (.iadd, 1) := by decide +kernel
theorem dX5_turn_38 : decode cX5_turn 38 = .ok (.putfield 87, 3) := by decide +kernel
theorem dX5_turn_41 : decode cX5_turn 41 = .ok (.aload_n 0, 1) := by decide +kernel
theorem dX5_turn_42 : decode cX5_turn 42 = .ok (.getfield 87, 3) := by decide +kernel
theorem dX5_turn_45 : decode cX5_turn 45 = .ok (.ireturn, 1) := by decide +kernel
theorem dX5_dial_0 : decode cX5_dial 0 = .ok (.iload_n 1, 1) := by decide +kernel
theorem dX5_dial_1 : decode cX5_dial 1 = .ok (.invokestatic 41, 3) := by decide +kernel
theorem dX5_dial_4 : decode cX5_dial 4 = .ok (.iload_n 2, 1) := by decide +kernel
theorem dX5_dial_5 : decode cX5_dial 5 = .ok (.iconst 2, 1) := by decide +kernel
theorem dX5_dial_6 : decode cX5_dial 6 = .ok (.sipush 240, 3) := by decide +kernel
theorem dX5_dial_9 : decode cX5_dial 9 = .ok (.invokestatic 45, 3) := by decide +kernel
theorem dX5_dial_12 : decode cX5_dial 12 = .ok (.invokestatic 49, 3) := by decide +kernel
theorem dX5_dial_15 : decode cX5_dial 15 = .ok (.aload_n 0, 1) := by decide +kernel
theorem dX5_dial_16 : decode cX5_dial 16 = .ok (.getfield 16, 3) := by decide +kernel
theorem dX5_dial_19 : decode cX5_dial 19 = .ok (.iload_n 1, 1) := by decide +kernel
theorem dX5_dial_20 : decode cX5_dial 20 = .ok (.invokestatic 90, 3) := by decide +kernel
theorem dX5_dial_23 : decode cX5_dial 23 = .ok (.istore_n 3, 1) := by decide +kernel
theorem dX5_dial_24 : decode cX5_dial 24 = .ok (.aload_n 0, 1) := by decide +kernel
theorem dX5_dial_25 : decode cX5_dial 25 = .ok (.getfield 16, 3) := by decide +kernel
theorem dX5_dial_28 : decode cX5_dial 28 = .ok (.iload_n 1, 1) := by decide +kernel
theorem dX5_dial_29 : decode cX5_dial 29 = .ok (.iload_n 2, 1) := by decide +kernel
theorem dX5_dial_30 : decode cX5_dial 30 = .ok (.invokestatic 94, 3) := by decide +kernel
theorem dX5_dial_33 : decode cX5_dial 33 = .ok (.iload_n 3, 1) := by decide +kernel
theorem dX5_dial_34 : decode cX5_dial 34 = .ok (.ireturn, 1) := by decide +kernel
theorem dX5_claim_0 : decode cX5_claim 0 = .ok (.aload_n 0, 1) := by decide +kernel
theorem dX5_claim_1 : decode cX5_claim 1 = .ok (.getfield 30, 3) := by decide +kernel
theorem dX5_claim_4 : decode cX5_claim 4 = .ok (.iload_n 1, 1) := by decide +kernel
theorem dX5_claim_5 : decode cX5_claim 5 = .ok (.invokevirtual 109, 3) := by decide +kernel
theorem dX5_claim_8 : decode cX5_claim 8 = .ok (.invokestatic 49, 3) := by decide +kernel
theorem dX5_claim_11 : decode cX5_claim 11 = .ok (.aload_n 0, 1) := by decide +kernel
theorem dX5_claim_12 : decode cX5_claim 12 = .ok (.getfield 30, 3) := by decide +kernel
theorem dX5_claim_15 : decode cX5_claim 15 = .ok (.getfield 113, 3) := by decide +kernel
theorem dX5_claim_18 : decode cX5_claim 18 = .ok (.bipush 12, 2) := by decide +kernel
theorem dX5_claim_20 : decode cX5_claim 20 = .ok (.if_icmp .ge 7, 3) := by decide +kernel
theorem dX5_claim_23 : decode cX5_claim 23 = .ok (.iconst 1, 1) := by decide +kernel
theorem dX5_claim_24 : decode cX5_claim 24 = .ok (.goto 4, 3) := by decide +kernel
theorem dX5_claim_27 : decode cX5_claim 27 = .ok (.iconst 0, 1) := by decide +kernel
theorem dX5_claim_28 : decode cX5_claim 28 = .ok (.invokestatic 57, 3) := by decide +kernel
theorem dX5_claim_31 : decode cX5_claim 31 = .ok (.aload_n 0, 1) := by decide +kernel
theorem dX5_claim_32 : decode cX5_claim 32 = .ok (.getfield 30, 3) := by decide +kernel
theorem dX5_claim_35 : decode cX5_claim 35 = .ok (.iload_n 1, 1) := by decide +kernel
theorem dX5_claim_36 : decode cX5_claim 36 = .ok (.invokevirtual 116, 3) := by decide +kernel
theorem dX5_claim_39 : decode cX5_claim 39 = .ok (.ireturn, 1) := by decide +kernel
theorem dX5_withdraw_0 : decode cX5_withdraw 0 = .ok (.aload_n 0, 1) := by decide +kernel
theorem dX5_withdraw_1 : decode cX5_withdraw 1 = .ok (.iload_n 1, 1) := by decide +kernel
theorem dX5_withdraw_2 : decode cX5_withdraw 2 = .ok (.invokevirtual 119, 3) := by decide +kernel
theorem dX5_withdraw_5 : decode cX5_withdraw 5 = .ok (.aload_n 0, 1) := by decide +kernel
theorem dX5_withdraw_6 : decode cX5_withdraw 6 = .ok (.getfield 30, 3) := by decide +kernel
theorem dX5_withdraw_9 : decode cX5_withdraw 9 = .ok (.iload_n 1, 1) := by decide +kernel
theorem dX5_withdraw_10 : decode cX5_withdraw 10 = .ok (.iload_n 2, 1) := by decide +kernel
theorem dX5_withdraw_11 : decode cX5_withdraw 11 = .ok (.invokevirtual 122, 3) := by decide +kernel
theorem dX5_withdraw_14 : decode cX5_withdraw 14 = .ok (.aload_n 0, 1) := by decide +kernel
theorem dX5_withdraw_15 : decode cX5_withdraw 15 = .ok (.getfield 30, 3) := by decide +kernel
theorem dX5_withdraw_18 : decode cX5_withdraw 18 = .ok (.invokevirtual 126, 3) := by decide +kernel
theorem dX5_withdraw_21 : decode cX5_withdraw 21 = .ok (.ireturn, 1) := by decide +kernel
theorem dX5_ofAxle_0 : decode cX5_ofAxle 0 = .ok (.iload_n 1, 1) := by decide +kernel
theorem dX5_ofAxle_1 : decode cX5_ofAxle 1 = .ok (.invokestatic 41, 3) := by decide +kernel
theorem dX5_ofAxle_4 : decode cX5_ofAxle 4 = .ok (.iload_n 2, 1) := by decide +kernel
theorem dX5_ofAxle_5 : decode cX5_ofAxle 5 = .ok (.iconst 0, 1) := by decide +kernel
theorem dX5_ofAxle_6 : decode cX5_ofAxle 6 = .ok (.iconst 2, 1) := by decide +kernel
theorem dX5_ofAxle_7 : decode cX5_ofAxle 7 = .ok (.invokestatic 45, 3) := by decide +kernel
theorem dX5_ofAxle_10 : decode cX5_ofAxle 10 = .ok (.invokestatic 49, 3) := by decide +kernel
theorem dX5_ofAxle_13 : decode cX5_ofAxle 13 = .ok (.aload_n 0, 1) := by decide +kernel
theorem dX5_ofAxle_14 : decode cX5_ofAxle 14 = .ok (.iload_n 1, 1) := by decide +kernel
theorem dX5_ofAxle_15 : decode cX5_ofAxle 15 = .ok (.iload_n 2, 1) := by decide +kernel
theorem dX5_ofAxle_16 : decode cX5_ofAxle 16 = .ok (.invokevirtual 130, 3) := by decide +kernel
theorem dX5_ofAxle_19 : decode cX5_ofAxle 19 = .ok (.iload_n 3, 1) := by decide +kernel
theorem dX5_ofAxle_20 : decode cX5_ofAxle 20 = .ok (.invokevirtual 134, 3) := by decide +kernel
theorem dX5_ofAxle_23 : decode cX5_ofAxle 23 = .ok (.lreturn, 1) := by decide +kernel
theorem dX5_ofWheel_0 : decode cX5_ofWheel 0 = .ok (.aload_n 0, 1) := by decide +kernel
theorem dX5_ofWheel_1 : decode cX5_ofWheel 1 = .ok (.iload_n 1, 1) := by decide +kernel
theorem dX5_ofWheel_2 : decode cX5_ofWheel 2 = .ok (.invokevirtual 64, 3) := by decide +kernel
theorem dX5_ofWheel_5 : decode cX5_ofWheel 5 = .ok (.iload_n 2, 1) := by decide +kernel
theorem dX5_ofWheel_6 : decode cX5_ofWheel 6 = .ok (.iconst 0, 1) := by decide +kernel
theorem dX5_ofWheel_7 : decode cX5_ofWheel 7 = .ok (.iconst 3, 1) := by decide +kernel
theorem dX5_ofWheel_8 : decode cX5_ofWheel 8 = .ok (.invokestatic 45, 3) := by decide +kernel
theorem dX5_ofWheel_11 : decode cX5_ofWheel 11 = .ok (.invokestatic 49, 3) := by decide +kernel
theorem dX5_ofWheel_14 : decode cX5_ofWheel 14 = .ok (.iload_n 2, 1) := by decide +kernel
theorem dX5_ofWheel_15 : decode cX5_ofWheel 15 = .ok (.tableswitch 52 0 2 #[25, 34, 43], 25) := by decide +kernel
theorem dX5_ofWheel_40 : decode cX5_ofWheel 40 = .ok (.aload_n 0, 1) := by decide +kernel
theorem dX5_ofWheel_41 : decode cX5_ofWheel 41 = .ok (.getfield 10, 3) := by decide +kernel
theorem dX5_ofWheel_44 : decode cX5_ofWheel 44 = .ok (.iload_n 1, 1) := by decide +kernel
theorem dX5_ofWheel_45 : decode cX5_ofWheel 45 = .ok (.invokevirtual 140, 3) := by decide +kernel
theorem dX5_ofWheel_48 : decode cX5_ofWheel 48 = .ok (.ireturn, 1) := by decide +kernel
theorem dX5_ofWheel_49 : decode cX5_ofWheel 49 = .ok (.aload_n 0, 1) := by decide +kernel
theorem dX5_ofWheel_50 : decode cX5_ofWheel 50 = .ok (.getfield 10, 3) := by decide +kernel
theorem dX5_ofWheel_53 : decode cX5_ofWheel 53 = .ok (.iload_n 1, 1) := by decide +kernel
theorem dX5_ofWheel_54 : decode cX5_ofWheel 54 = .ok (.invokevirtual 143, 3) := by decide +kernel
theorem dX5_ofWheel_57 : decode cX5_ofWheel 57 = .ok (.ireturn, 1) := by decide +kernel
theorem dX5_ofWheel_58 : decode cX5_ofWheel 58 = .ok (.aload_n 0, 1) := by decide +kernel
theorem dX5_ofWheel_59 : decode cX5_ofWheel 59 = .ok (.getfield 10, 3) := by decide +kernel
theorem dX5_ofWheel_62 : decode cX5_ofWheel 62 = .ok (.iload_n 1, 1) := by decide +kernel
theorem dX5_ofWheel_63 : decode cX5_ofWheel 63 = .ok (.invokevirtual 146, 3) := by decide +kernel
theorem dX5_ofWheel_66 : decode cX5_ofWheel 66 = .ok (.ireturn, 1) := by decide +kernel
theorem dX5_ofWheel_67 : decode cX5_ofWheel 67 = .ok (.aload_n 0, 1) := by decide +kernel
theorem dX5_ofWheel_68 : decode cX5_ofWheel 68 = .ok (.getfield 10, 3) := by decide +kernel
theorem dX5_ofWheel_71 : decode cX5_ofWheel 71 = .ok (.aload_n 0, 1) := by decide +kernel
theorem dX5_ofWheel_72 : decode cX5_ofWheel 72 = .ok (.getfield 10, 3) := by decide +kernel
theorem dX5_ofWheel_75 : decode cX5_ofWheel 75 = .ok (.iload_n 1, 1) := by decide +kernel
theorem dX5_ofWheel_76 : decode cX5_ofWheel 76 = .ok (.invokevirtual 140, 3) := by decide +kernel
theorem dX5_ofWheel_79 : decode cX5_ofWheel 79 = .ok (.invokevirtual 149, 3) := by decide +kernel
theorem dX5_ofWheel_82 : decode cX5_ofWheel 82 = .ok (.ifCond .eq 7, 3) := by decide +kernel
theorem dX5_ofWheel_85 : decode cX5_ofWheel 85 = .ok (.iconst 1, 1) := by decide +kernel
theorem dX5_ofWheel_86 : decode cX5_ofWheel 86 = .ok (.goto 4, 3) := by decide +kernel
theorem dX5_ofWheel_89 : decode cX5_ofWheel 89 = .ok (.iconst 0, 1) := by decide +kernel
theorem dX5_ofWheel_90 : decode cX5_ofWheel 90 = .ok (.ireturn, 1) := by decide +kernel
theorem dX5_passed_0 : decode cX5_passed 0 = .ok (.aload_n 0, 1) := by decide +kernel
theorem dX5_passed_1 : decode cX5_passed 1 = .ok (.iload_n 1, 1) := by decide +kernel
theorem dX5_passed_2 : decode cX5_passed 2 = .ok (.invokevirtual 64, 3) := by decide +kernel
theorem dX5_passed_5 : decode cX5_passed 5 = .ok (.aload_n 0, 1) := by decide +kernel
theorem dX5_passed_6 : decode cX5_passed 6 = .ok (.iload_n 1, 1) := by decide +kernel
theorem dX5_passed_7 : decode cX5_passed 7 = .ok (.invokevirtual 152, 3) := by decide +kernel
theorem dX5_passed_10 : decode cX5_passed 10 = .ok (.iload_n 2, 1) := by decide +kernel
theorem dX5_passed_11 : decode cX5_passed 11 = .ok (.invokevirtual 134, 3) := by decide +kernel
theorem dX5_passed_14 : decode cX5_passed 14 = .ok (.lreturn, 1) := by decide +kernel
theorem dX5_period_0 : decode cX5_period 0 = .ok (.aload_n 0, 1) := by decide +kernel
theorem dX5_period_1 : decode cX5_period 1 = .ok (.getfield 10, 3) := by decide +kernel
theorem dX5_period_4 : decode cX5_period 4 = .ok (.invokevirtual 156, 3) := by decide +kernel
theorem dX5_period_7 : decode cX5_period 7 = .ok (.lreturn, 1) := by decide +kernel
theorem dX5_ofLump_0 : decode cX5_ofLump 0 = .ok (.iload_n 1, 1) := by decide +kernel
theorem dX5_ofLump_1 : decode cX5_ofLump 1 = .ok (.iconst 0, 1) := by decide +kernel
theorem dX5_ofLump_2 : decode cX5_ofLump 2 = .ok (.iconst 5, 1) := by decide +kernel
theorem dX5_ofLump_3 : decode cX5_ofLump 3 = .ok (.invokestatic 45, 3) := by decide +kernel
theorem dX5_ofLump_6 : decode cX5_ofLump 6 = .ok (.invokestatic 98, 3) := by decide +kernel
theorem dX5_ofLump_9 : decode cX5_ofLump 9 = .ok (.iload_n 2, 1) := by decide +kernel
theorem dX5_ofLump_10 : decode cX5_ofLump 10 = .ok (.iconst 0, 1) := by decide +kernel
theorem dX5_ofLump_11 : decode cX5_ofLump 11 = .ok (.iconst 3, 1) := by decide +kernel
theorem dX5_ofLump_12 : decode cX5_ofLump 12 = .ok (.invokestatic 45, 3) := by decide +kernel
theorem dX5_ofLump_15 : decode cX5_ofLump 15 = .ok (.invokestatic 49, 3) := by decide +kernel
theorem dX5_ofLump_18 : decode cX5_ofLump 18 = .ok (.iload_n 2, 1) := by decide +kernel
theorem dX5_ofLump_19 : decode cX5_ofLump 19 = .ok (.tableswitch 52 0 2 #[25, 34, 43], 25) := by decide +kernel
theorem dX5_ofLump_44 : decode cX5_ofLump 44 = .ok (.aload_n 0, 1) := by decide +kernel
theorem dX5_ofLump_45 : decode cX5_ofLump 45 = .ok (.getfield 23, 3) := by decide +kernel
theorem dX5_ofLump_48 : decode cX5_ofLump 48 = .ok (.iload_n 1, 1) := by decide +kernel
theorem dX5_ofLump_49 : decode cX5_ofLump 49 = .ok (.invokevirtual 101, 3) := by decide +kernel
theorem dX5_ofLump_52 : decode cX5_ofLump 52 = .ok (.ireturn, 1) := by decide +kernel
theorem dX5_ofLump_53 : decode cX5_ofLump 53 = .ok (.aload_n 0, 1) := by decide +kernel
theorem dX5_ofLump_54 : decode cX5_ofLump 54 = .ok (.getfield 23, 3) := by decide +kernel
theorem dX5_ofLump_57 : decode cX5_ofLump 57 = .ok (.iload_n 1, 1) := by decide +kernel
theorem dX5_ofLump_58 : decode cX5_ofLump 58 = .ok (.invokevirtual 163, 3) := by decide +kernel
theorem dX5_ofLump_61 : decode cX5_ofLump 61 = .ok (.ireturn, 1) := by decide +kernel
theorem dX5_ofLump_62 : decode cX5_ofLump 62 = .ok (.aload_n 0, 1) := by decide +kernel
theorem dX5_ofLump_63 : decode cX5_ofLump 63 = .ok (.getfield 23, 3) := by decide +kernel
theorem dX5_ofLump_66 : decode cX5_ofLump 66 = .ok (.iload_n 1, 1) := by decide +kernel
theorem dX5_ofLump_67 : decode cX5_ofLump 67 = .ok (.invokevirtual 166, 3) := by decide +kernel
theorem dX5_ofLump_70 : decode cX5_ofLump 70 = .ok (.ireturn, 1) := by decide +kernel
theorem dX5_ofLump_71 : decode cX5_ofLump 71 = .ok (.aload_n 0, 1) := by decide +kernel
theorem dX5_ofLump_72 : decode cX5_ofLump 72 = .ok (.getfield 23, 3) := by decide +kernel
theorem dX5_ofLump_75 : decode cX5_ofLump 75 = .ok (.iload_n 1, 1) := by decide +kernel
theorem dX5_ofLump_76 : decode cX5_ofLump 76 = .ok (.invokevirtual 169, 3) := by decide +kernel
theorem dX5_ofLump_79 : decode cX5_ofLump 79 = .ok (.ireturn, 1) := by decide +kernel
theorem dX5_ofClaim_0 : decode cX5_ofClaim 0 = .ok (.aload_n 0, 1) := by decide +kernel
theorem dX5_ofClaim_1 : decode cX5_ofClaim 1 = .ok (.iload_n 1, 1) := by decide +kernel
theorem dX5_ofClaim_2 : decode cX5_ofClaim 2 = .ok (.invokevirtual 119, 3) := by decide +kernel
theorem dX5_ofClaim_5 : decode cX5_ofClaim 5 = .ok (.iload_n 2, 1) := by decide +kernel
theorem dX5_ofClaim_6 : decode cX5_ofClaim 6 = .ok (.iconst 0, 1) := by decide +kernel
theorem dX5_ofClaim_7 : decode cX5_ofClaim 7 = .ok (.iconst 3, 1) := by decide +kernel
theorem dX5_ofClaim_8 : decode cX5_ofClaim 8 = .ok (.invokestatic 45, 3) := by decide +kernel
theorem dX5_ofClaim_11 : decode cX5_ofClaim 11 = .ok (.invokestatic 49, 3) := by decide +kernel
theorem dX5_ofClaim_14 : decode cX5_ofClaim 14 = .ok (.iload_n 2, 1) := by decide +kernel
theorem dX5_ofClaim_15 : decode cX5_ofClaim 15 = .ok (.tableswitch 68 0 2 #[25, 34, 51], 25) := by decide +kernel
theorem dX5_ofClaim_40 : decode cX5_ofClaim 40 = .ok (.aload_n 0, 1) := by decide +kernel
theorem dX5_ofClaim_41 : decode cX5_ofClaim 41 = .ok (.getfield 30, 3) := by decide +kernel
theorem dX5_ofClaim_44 : decode cX5_ofClaim 44 = .ok (.iload_n 1, 1) := by decide +kernel
theorem dX5_ofClaim_45 : decode cX5_ofClaim 45 = .ok (.invokevirtual 172, 3) := by decide +kernel
theorem dX5_ofClaim_48 : decode cX5_ofClaim 48 = .ok (.ireturn, 1) := by decide +kernel
theorem dX5_ofClaim_49 : decode cX5_ofClaim 49 = .ok (.aload_n 0, 1) := by decide +kernel
theorem dX5_ofClaim_50 : decode cX5_ofClaim 50 = .ok (.getfield 30, 3) := by decide +kernel
theorem dX5_ofClaim_53 : decode cX5_ofClaim 53 = .ok (.iload_n 1, 1) := by decide +kernel
theorem dX5_ofClaim_54 : decode cX5_ofClaim 54 = .ok (.invokevirtual 175, 3) := by decide +kernel
theorem dX5_ofClaim_57 : decode cX5_ofClaim 57 = .ok (.ifCond .eq 7, 3) := by decide +kernel
theorem dX5_ofClaim_60 : decode cX5_ofClaim 60 = .ok (.iconst 1, 1) := by decide +kernel
theorem dX5_ofClaim_61 : decode cX5_ofClaim 61 = .ok (.goto 4, 3) := by decide +kernel
theorem dX5_ofClaim_64 : decode cX5_ofClaim 64 = .ok (.iconst 0, 1) := by decide +kernel
theorem dX5_ofClaim_65 : decode cX5_ofClaim 65 = .ok (.ireturn, 1) := by decide +kernel
theorem dX5_ofClaim_66 : decode cX5_ofClaim 66 = .ok (.aload_n 0, 1) := by decide +kernel
theorem dX5_ofClaim_67 : decode cX5_ofClaim 67 = .ok (.getfield 30, 3) := by decide +kernel
theorem dX5_ofClaim_70 : decode cX5_ofClaim 70 = .ok (.iload_n 1, 1) := by decide +kernel
theorem dX5_ofClaim_71 : decode cX5_ofClaim 71 = .ok (.invokevirtual 178, 3) := by decide +kernel
theorem dX5_ofClaim_74 : decode cX5_ofClaim 74 = .ok (.ifCond .eq 7, 3) := by decide +kernel
theorem dX5_ofClaim_77 : decode cX5_ofClaim 77 = .ok (.iconst 1, 1) := by decide +kernel
theorem dX5_ofClaim_78 : decode cX5_ofClaim 78 = .ok (.goto 4, 3) := by decide +kernel
theorem dX5_ofClaim_81 : decode cX5_ofClaim 81 = .ok (.iconst 0, 1) := by decide +kernel
theorem dX5_ofClaim_82 : decode cX5_ofClaim 82 = .ok (.ireturn, 1) := by decide +kernel
theorem dX5_ofClaim_83 : decode cX5_ofClaim 83 = .ok (.aload_n 0, 1) := by decide +kernel
theorem dX5_ofClaim_84 : decode cX5_ofClaim 84 = .ok (.getfield 30, 3) := by decide +kernel
theorem dX5_ofClaim_87 : decode cX5_ofClaim 87 = .ok (.iload_n 1, 1) := by decide +kernel
theorem dX5_ofClaim_88 : decode cX5_ofClaim 88 = .ok (.invokevirtual 181, 3) := by decide +kernel
theorem dX5_ofClaim_91 : decode cX5_ofClaim 91 = .ok (.ireturn, 1) := by decide +kernel
theorem dX5_house_0 : decode cX5_house 0 = .ok (.iload_n 1, 1) := by decide +kernel
theorem dX5_house_1 : decode cX5_house 1 = .ok (.iconst 0, 1) := by decide +kernel
theorem dX5_house_2 : decode cX5_house 2 = .ok (.bipush 8, 2) := by decide +kernel
theorem dX5_house_4 : decode cX5_house 4 = .ok (.invokestatic 45, 3) := by decide +kernel
theorem dX5_house_7 : decode cX5_house 7 = .ok (.invokestatic 49, 3) := by decide +kernel
theorem dX5_house_10 : decode cX5_house 10 = .ok (.iload_n 1, 1) := by decide +kernel
theorem dX5_house_11 : decode cX5_house 11 = .ok (.tableswitch 103 0 7 #[45, 53, 61, 69, 74, 82, 90, 98], 45) := by decide +kernel
theorem dX5_house_56 : decode cX5_house 56 = .ok (.aload_n 0, 1) := by decide +kernel
theorem dX5_house_57 : decode cX5_house 57 = .ok (.getfield 10, 3) := by decide +kernel
theorem dX5_house_60 : decode cX5_house 60 = .ok (.getfield 53, 3) := by decide +kernel
theorem dX5_house_63 : decode cX5_house 63 = .ok (.ireturn, 1) := by decide +kernel
theorem dX5_house_64 : decode cX5_house 64 = .ok (.aload_n 0, 1) := by decide +kernel
theorem dX5_house_65 : decode cX5_house 65 = .ok (.getfield 10, 3) := by decide +kernel
theorem dX5_house_68 : decode cX5_house 68 = .ok (.invokevirtual 184, 3) := by decide +kernel
theorem dX5_house_71 : decode cX5_house 71 = .ok (.ireturn, 1) := by decide +kernel
theorem dX5_house_72 : decode cX5_house 72 = .ok (.aload_n 0, 1) := by decide +kernel
theorem dX5_house_73 : decode cX5_house 73 = .ok (.getfield 10, 3) := by decide +kernel
theorem dX5_house_76 : decode cX5_house 76 = .ok (.invokevirtual 187, 3) := by decide +kernel
theorem dX5_house_79 : decode cX5_house 79 = .ok (.ireturn, 1) := by decide +kernel
theorem dX5_house_80 : decode cX5_house 80 = .ok (.aload_n 0, 1) := by decide +kernel
theorem dX5_house_81 : decode cX5_house 81 = .ok (.getfield 87, 3) := by decide +kernel
theorem dX5_house_84 : decode cX5_house 84 = .ok (.ireturn, 1) := by decide +kernel
theorem dX5_house_85 : decode cX5_house 85 = .ok (.aload_n 0, 1) := by decide +kernel
theorem dX5_house_86 : decode cX5_house 86 = .ok (.getfield 30, 3) := by decide +kernel
theorem dX5_house_89 : decode cX5_house 89 = .ok (.getfield 113, 3) := by decide +kernel
theorem dX5_house_92 : decode cX5_house 92 = .ok (.ireturn, 1) := by decide +kernel
theorem dX5_house_93 : decode cX5_house 93 = .ok (.aload_n 0, 1) := by decide +kernel
theorem dX5_house_94 : decode cX5_house 94 = .ok (.getfield 30, 3) := by decide +kernel
theorem dX5_house_97 : decode cX5_house 97 = .ok (.invokevirtual 126, 3) := by decide +kernel
theorem dX5_house_100 : decode cX5_house 100 = .ok (.ireturn, 1) := by decide +kernel
theorem dX5_house_101 : decode cX5_house 101 = .ok (.aload_n 0, 1) := by decide +kernel
theorem dX5_house_102 : decode cX5_house 102 = .ok (.getfield 23, 3) := by decide +kernel
theorem dX5_house_105 : decode cX5_house 105 = .ok (.invokevirtual 190, 3) := by decide +kernel
theorem dX5_house_108 : decode cX5_house 108 = .ok (.ireturn, 1) := by decide +kernel
theorem dX5_house_109 : decode cX5_house 109 = .ok (.aload_n 0, 1) := by decide +kernel
theorem dX5_house_110 : decode cX5_house 110 = .ok (.getfield 74, 3) := by decide +kernel
theorem dX5_house_113 : decode cX5_house 113 = .ok (.ireturn, 1) := by decide +kernel
theorem dX5_house_114 : decode cX5_house 114 = .ok (.aload_n 0, 1) := by decide +kernel
theorem dX5_house_115 : decode cX5_house 115 = .ok (.getfield 193, 3) := by decide +kernel
theorem dX5_house_118 : decode cX5_house 118 = .ok (.ireturn, 1) := by decide +kernel
theorem dX5_isSound_0 : decode cX5_isSound 0 = .ok (.aload_n 0, 1) := by decide +kernel
theorem dX5_isSound_1 : decode cX5_isSound 1 = .ok (.invokevirtual 238, 3) := by decide +kernel
theorem dX5_isSound_4 : decode cX5_isSound 4 = .ok (.ifCond .eq 27, 3) := by decide +kernel
theorem dX5_isSound_7 : decode cX5_isSound 7 = .ok (.aload_n 0, 1) := by decide +kernel
theorem dX5_isSound_8 : decode cX5_isSound 8 = .ok (.getfield 10, 3) := by decide +kernel
theorem dX5_isSound_11 : decode cX5_isSound 11 = .ok (.invokevirtual 242, 3) := by decide +kernel
theorem dX5_isSound_14 : decode cX5_isSound 14 = .ok (.ifCond .eq 17, 3) := by decide +kernel
theorem dX5_isSound_17 : decode cX5_isSound 17 = .ok (.aload_n 0, 1) := by decide +kernel
theorem dX5_isSound_18 : decode cX5_isSound 18 = .ok (.getfield 30, 3) := by decide +kernel
theorem dX5_isSound_21 : decode cX5_isSound 21 = .ok (.invokevirtual 245, 3) := by decide +kernel
theorem dX5_isSound_24 : decode cX5_isSound 24 = .ok (.ifCond .eq 7, 3) := by decide +kernel
theorem dX5_isSound_27 : decode cX5_isSound 27 = .ok (.iconst 1, 1) := by decide +kernel
theorem dX5_isSound_28 : decode cX5_isSound 28 = .ok (.goto 4, 3) := by decide +kernel
theorem dX5_isSound_31 : decode cX5_isSound 31 = .ok (.iconst 0, 1) := by decide +kernel
theorem dX5_isSound_32 : decode cX5_isSound 32 = .ok (.ireturn, 1) := by decide +kernel
theorem dX5_digest_0 : decode cX5_digest 0 = .ok (.ldc2_w 248, 3) := by decide +kernel
theorem dX5_digest_3 : decode cX5_digest 3 = .ok (.lstore_n 1, 1) := by decide +kernel
theorem dX5_digest_4 : decode cX5_digest 4 = .ok (.iconst 0, 1) := by decide +kernel
theorem dX5_digest_5 : decode cX5_digest 5 = .ok (.istore_n 3, 1) := by decide +kernel
theorem dX5_digest_6 : decode cX5_digest 6 = .ok (.iload_n 3, 1) := by decide +kernel
theorem dX5_digest_7 : decode cX5_digest 7 = .ok (.bipush 9, 2) := by decide +kernel
theorem dX5_digest_9 : decode cX5_digest 9 = .ok (.if_icmp .ge 20, 3) := by decide +kernel
theorem dX5_digest_12 : decode cX5_digest 12 = .ok (.lload_n 1, 1) := by decide +kernel
theorem dX5_digest_13 : decode cX5_digest 13 = .ok (.aload_n 0, 1) := by decide +kernel
theorem dX5_digest_14 : decode cX5_digest 14 = .ok (.iload_n 3, 1) := by decide +kernel
theorem dX5_digest_15 : decode cX5_digest 15 = .ok (.invokevirtual 250, 3) := by decide +kernel
theorem dX5_digest_18 : decode cX5_digest 18 = .ok (.i2l, 1) := by decide +kernel
theorem dX5_digest_19 : decode cX5_digest 19 = .ok (.invokestatic 253, 3) := by decide +kernel
theorem dX5_digest_22 : decode cX5_digest 22 = .ok (.lstore_n 1, 1) := by decide +kernel
theorem dX5_digest_23 : decode cX5_digest 23 = .ok (.iinc 3 1, 3) := by decide +kernel
theorem dX5_digest_26 : decode cX5_digest 26 = .ok (.goto (-20), 3) := by decide +kernel
theorem dX5_digest_29 : decode cX5_digest 29 = .ok (.aload_n 0, 1) := by decide +kernel
theorem dX5_digest_30 : decode cX5_digest 30 = .ok (.lload_n 1, 1) := by decide +kernel
theorem dX5_digest_31 : decode cX5_digest 31 = .ok (.invokevirtual 257, 3) := by decide +kernel
theorem dX5_digest_34 : decode cX5_digest 34 = .ok (.lstore_n 1, 1) := by decide +kernel
theorem dX5_digest_35 : decode cX5_digest 35 = .ok (.aload_n 0, 1) := by decide +kernel
theorem dX5_digest_36 : decode cX5_digest 36 = .ok (.lload_n 1, 1) := by decide +kernel
theorem dX5_digest_37 : decode cX5_digest 37 = .ok (.invokevirtual 261, 3) := by decide +kernel
theorem dX5_digest_40 : decode cX5_digest 40 = .ok (.lstore_n 1, 1) := by decide +kernel
theorem dX5_digest_41 : decode cX5_digest 41 = .ok (.lload_n 1, 1) := by decide +kernel
theorem dX5_digest_42 : decode cX5_digest 42 = .ok (.aload_n 0, 1) := by decide +kernel
theorem dX5_digest_43 : decode cX5_digest 43 = .ok (.invokevirtual 264, 3) := by decide +kernel
theorem dX5_digest_46 : decode cX5_digest 46 = .ok (.invokestatic 253, 3) := by decide +kernel
theorem dX5_digest_49 : decode cX5_digest 49 = .ok (.lstore_n 1, 1) := by decide +kernel
theorem dX5_digest_50 : decode cX5_digest 50 = .ok (.iconst 0, 1) := by decide +kernel
theorem dX5_digest_51 : decode cX5_digest 51 = .ok (.istore_n 3, 1) := by decide +kernel
theorem dX5_digest_52 : decode cX5_digest 52 = .ok (.iload_n 3, 1) := by decide +kernel
theorem dX5_digest_53 : decode cX5_digest 53 = .ok (.bipush 6, 2) := by decide +kernel
theorem dX5_digest_55 : decode cX5_digest 55 = .ok (.if_icmp .ge 37, 3) := by decide +kernel
theorem dX5_digest_58 : decode cX5_digest 58 = .ok (.iconst 0, 1) := by decide +kernel
theorem dX5_digest_59 : decode cX5_digest 59 = .ok (.istore 4, 2) := by decide +kernel
theorem dX5_digest_61 : decode cX5_digest 61 = .ok (.iload 4, 2) := by decide +kernel
theorem dX5_digest_63 : decode cX5_digest 63 = .ok (.iconst 4, 1) := by decide +kernel
theorem dX5_digest_64 : decode cX5_digest 64 = .ok (.if_icmp .ge 22, 3) := by decide +kernel
theorem dX5_digest_67 : decode cX5_digest 67 = .ok (.lload_n 1, 1) := by decide +kernel
theorem dX5_digest_68 : decode cX5_digest 68 = .ok (.aload_n 0, 1) := by decide +kernel
theorem dX5_digest_69 : decode cX5_digest 69 = .ok (.iload_n 3, 1) := by decide +kernel
theorem dX5_digest_70 : decode cX5_digest 70 = .ok (.iload 4, 2) := by decide +kernel
theorem dX5_digest_72 : decode cX5_digest 72 = .ok (.invokevirtual 267, 3) := by decide +kernel
theorem dX5_digest_75 : decode cX5_digest 75 = .ok (.i2l, 1) := by decide +kernel
theorem dX5_digest_76 : decode cX5_digest 76 = .ok (.invokestatic 253, 3) := by decide +kernel
theorem dX5_digest_79 : decode cX5_digest 79 = .ok (.lstore_n 1, 1) := by decide +kernel
theorem dX5_digest_80 : decode cX5_digest 80 = .ok (.iinc 4 1, 3) := by decide +kernel
theorem dX5_digest_83 : decode cX5_digest 83 = .ok (.goto (-22), 3) := by decide +kernel
theorem dX5_digest_86 : decode cX5_digest 86 = .ok (.iinc 3 1, 3) := by decide +kernel
theorem dX5_digest_89 : decode cX5_digest 89 = .ok (.goto (-37), 3) := by decide +kernel
theorem dX5_digest_92 : decode cX5_digest 92 = .ok (.iconst 0, 1) := by decide +kernel
theorem dX5_digest_93 : decode cX5_digest 93 = .ok (.istore_n 3, 1) := by decide +kernel
theorem dX5_digest_94 : decode cX5_digest 94 = .ok (.iload_n 3, 1) := by decide +kernel
theorem dX5_digest_95 : decode cX5_digest 95 = .ok (.aload_n 0, 1) := by decide +kernel
theorem dX5_digest_96 : decode cX5_digest 96 = .ok (.getfield 30, 3) := by decide +kernel
theorem dX5_digest_99 : decode cX5_digest 99 = .ok (.getfield 113, 3) := by decide +kernel
theorem dX5_digest_102 : decode cX5_digest 102 = .ok (.if_icmp .ge 37, 3) := by decide +kernel
theorem dX5_digest_105 : decode cX5_digest 105 = .ok (.iconst 0, 1) := by decide +kernel
theorem dX5_digest_106 : decode cX5_digest 106 = .ok (.istore 4, 2) := by decide +kernel
theorem dX5_digest_108 : decode cX5_digest 108 = .ok (.iload 4, 2) := by decide +kernel
theorem dX5_digest_110 : decode cX5_digest 110 = .ok (.iconst 4, 1) := by decide +kernel
theorem dX5_digest_111 : decode cX5_digest 111 = .ok (.if_icmp .ge 22, 3) := by decide +kernel
theorem dX5_digest_114 : decode cX5_digest 114 = .ok (.lload_n 1, 1) := by decide +kernel
theorem dX5_digest_115 : decode cX5_digest 115 = .ok (.aload_n 0, 1) := by decide +kernel
theorem dX5_digest_116 : decode cX5_digest 116 = .ok (.iload_n 3, 1) := by decide +kernel
theorem dX5_digest_117 : decode cX5_digest 117 = .ok (.iload 4, 2) := by decide +kernel
theorem dX5_digest_119 : decode cX5_digest 119 = .ok (.invokevirtual 270, 3) := by decide +kernel
theorem dX5_digest_122 : decode cX5_digest 122 = .ok (.i2l, 1) := by decide +kernel
theorem dX5_digest_123 : decode cX5_digest 123 = .ok (.invokestatic 253, 3) := by decide +kernel
theorem dX5_digest_126 : decode cX5_digest 126 = .ok (.lstore_n 1, 1) := by decide +kernel
theorem dX5_digest_127 : decode cX5_digest 127 = .ok (.iinc 4 1, 3) := by decide +kernel
theorem dX5_digest_130 : decode cX5_digest 130 = .ok (.goto (-22), 3) := by decide +kernel
theorem dX5_digest_133 : decode cX5_digest 133 = .ok (.iinc 3 1, 3) := by decide +kernel
theorem dX5_digest_136 : decode cX5_digest 136 = .ok (.goto (-42), 3) := by decide +kernel
theorem dX5_digest_139 : decode cX5_digest 139 = .ok (.lload_n 1, 1) := by decide +kernel
theorem dX5_digest_140 : decode cX5_digest 140 = .ok (.aload_n 0, 1) := by decide +kernel
theorem dX5_digest_141 : decode cX5_digest 141 = .ok (.invokevirtual 273, 3) := by decide +kernel
theorem dX5_digest_144 : decode cX5_digest 144 = .ok (.ifCond .eq 7, 3) := by decide +kernel
theorem dX5_digest_147 : decode cX5_digest 147 = .ok (.lconst 1, 1) := by decide +kernel
theorem dX5_digest_148 : decode cX5_digest 148 = .ok (.goto 4, 3) := by decide +kernel
theorem dX5_digest_151 : decode cX5_digest 151 = .ok (.lconst 0, 1) := by decide +kernel
theorem dX5_digest_152 : decode cX5_digest 152 = .ok (.invokestatic 253, 3) := by decide +kernel
theorem dX5_digest_155 : decode cX5_digest 155 = .ok (.lreturn, 1) := by decide +kernel
theorem dX5_demandIndex_0 : decode cX5_demandIndex 0 = .ok (.iload_n 0, 1) := by decide +kernel
end
section
theorem dX5_demandIndex_1 : decode cX5_demandIndex 1 = .ok (.ifCond .ne 14, 3) := by decide +kernel
theorem dX5_demandIndex_4 : decode cX5_demandIndex 4 = .ok (.new 276, 3) := by decide +kernel
theorem dX5_demandIndex_7 : decode cX5_demandIndex 7 = .ok (.dup, 1) := by decide +kernel
theorem dX5_demandIndex_8 : decode cX5_demandIndex 8 = .ok (.ldc_w 278, 3) := by decide +kernel
theorem dX5_demandIndex_11 : decode cX5_demandIndex 11 = .ok (.invokespecial 280, 3) := by decide +kernel
theorem dX5_demandIndex_14 : decode cX5_demandIndex 14 = .ok (.athrow, 1) := by decide +kernel
theorem dX5_demandIndex_15 : decode cX5_demandIndex 15 = .ok (.return_, 1) := by decide +kernel
theorem dX5_demandArgument_0 : decode cX5_demandArgument 0 = .ok (.iload_n 0, 1) := by decide +kernel
theorem dX5_demandArgument_1 : decode cX5_demandArgument 1 = .ok (.ifCond .ne 14, 3) := by decide +kernel
theorem dX5_demandArgument_4 : decode cX5_demandArgument 4 = .ok (.new 283, 3) := by decide +kernel
theorem dX5_demandArgument_7 : decode cX5_demandArgument 7 = .ok (.dup, 1) := by decide +kernel
theorem dX5_demandArgument_8 : decode cX5_demandArgument 8 = .ok (.ldc_w 285, 3) := by decide +kernel
theorem dX5_demandArgument_11 : decode cX5_demandArgument 11 = .ok (.invokespecial 287, 3) := by decide +kernel
theorem dX5_demandArgument_14 : decode cX5_demandArgument 14 = .ok (.athrow, 1) := by decide +kernel
theorem dX5_demandArgument_15 : decode cX5_demandArgument 15 = .ok (.return_, 1) := by decide +kernel
theorem dX5_demandState_0 : decode cX5_demandState 0 = .ok (.iload_n 0, 1) := by decide +kernel
theorem dX5_demandState_1 : decode cX5_demandState 1 = .ok (.ifCond .ne 14, 3) := by decide +kernel
theorem dX5_demandState_4 : decode cX5_demandState 4 = .ok (.new 288, 3) := by decide +kernel
theorem dX5_demandState_7 : decode cX5_demandState 7 = .ok (.dup, 1) := by decide +kernel
theorem dX5_demandState_8 : decode cX5_demandState 8 = .ok (.ldc_w 290, 3) := by decide +kernel
theorem dX5_demandState_11 : decode cX5_demandState 11 = .ok (.invokespecial 292, 3) := by decide +kernel
theorem dX5_demandState_14 : decode cX5_demandState 14 = .ok (.athrow, 1) := by decide +kernel
theorem dX5_demandState_15 : decode cX5_demandState 15 = .ok (.return_, 1) := by decide +kernel
theorem dX5_demandAxle_0 : decode cX5_demandAxle 0 = .ok (.iload_n 0, 1) := by decide +kernel
theorem dX5_demandAxle_1 : decode cX5_demandAxle 1 = .ok (.iconst 0, 1) := by decide +kernel
theorem dX5_demandAxle_2 : decode cX5_demandAxle 2 = .ok (.bipush 6, 2) := by decide +kernel
theorem dX5_demandAxle_4 : decode cX5_demandAxle 4 = .ok (.invokestatic 45, 3) := by decide +kernel
theorem dX5_demandAxle_7 : decode cX5_demandAxle 7 = .ok (.invokestatic 98, 3) := by decide +kernel
theorem dX5_demandAxle_10 : decode cX5_demandAxle 10 = .ok (.return_, 1) := by decide +kernel
theorem dX5_demandWheel_0 : decode cX5_demandWheel 0 = .ok (.iload_n 1, 1) := by decide +kernel
theorem dX5_demandWheel_1 : decode cX5_demandWheel 1 = .ok (.iconst 0, 1) := by decide +kernel
theorem dX5_demandWheel_2 : decode cX5_demandWheel 2 = .ok (.aload_n 0, 1) := by decide +kernel
theorem dX5_demandWheel_3 : decode cX5_demandWheel 3 = .ok (.getfield 10, 3) := by decide +kernel
theorem dX5_demandWheel_6 : decode cX5_demandWheel 6 = .ok (.getfield 53, 3) := by decide +kernel
theorem dX5_demandWheel_9 : decode cX5_demandWheel 9 = .ok (.iconst 1, 1) := by decide +kernel
theorem dX5_demandWheel_10 : decode cX5_demandWheel 10 = .ok (.isub, 1) := by decide +kernel
theorem dX5_demandWheel_11 : decode cX5_demandWheel 11 = .ok (.invokestatic 45, 3) := by decide +kernel
theorem dX5_demandWheel_14 : decode cX5_demandWheel 14 = .ok (.invokestatic 98, 3) := by decide +kernel
theorem dX5_demandWheel_17 : decode cX5_demandWheel 17 = .ok (.return_, 1) := by decide +kernel
theorem dX5_demandClaim_0 : decode cX5_demandClaim 0 = .ok (.iload_n 1, 1) := by decide +kernel
theorem dX5_demandClaim_1 : decode cX5_demandClaim 1 = .ok (.iconst 0, 1) := by decide +kernel
theorem dX5_demandClaim_2 : decode cX5_demandClaim 2 = .ok (.aload_n 0, 1) := by decide +kernel
theorem dX5_demandClaim_3 : decode cX5_demandClaim 3 = .ok (.getfield 30, 3) := by decide +kernel
theorem dX5_demandClaim_6 : decode cX5_demandClaim 6 = .ok (.getfield 113, 3) := by decide +kernel
theorem dX5_demandClaim_9 : decode cX5_demandClaim 9 = .ok (.iconst 1, 1) := by decide +kernel
theorem dX5_demandClaim_10 : decode cX5_demandClaim 10 = .ok (.isub, 1) := by decide +kernel
theorem dX5_demandClaim_11 : decode cX5_demandClaim 11 = .ok (.invokestatic 45, 3) := by decide +kernel
theorem dX5_demandClaim_14 : decode cX5_demandClaim 14 = .ok (.invokestatic 98, 3) := by decide +kernel
theorem dX5_demandClaim_17 : decode cX5_demandClaim 17 = .ok (.return_, 1) := by decide +kernel
theorem dX5_axleFraction_0 : decode cX5_axleFraction 0 = .ok (.iload_n 2, 1) := by decide +kernel
theorem dX5_axleFraction_1 : decode cX5_axleFraction 1 = .ok (.lookupswitch 49 #[(0, 27), (1, 36)], 27) := by decide +kernel
theorem dX5_axleFraction_28 : decode cX5_axleFraction 28 = .ok (.aload_n 0, 1) := by decide +kernel
theorem dX5_axleFraction_29 : decode cX5_axleFraction 29 = .ok (.getfield 10, 3) := by decide +kernel
theorem dX5_axleFraction_32 : decode cX5_axleFraction 32 = .ok (.iload_n 1, 1) := by decide +kernel
theorem dX5_axleFraction_33 : decode cX5_axleFraction 33 = .ok (.invokevirtual 293, 3) := by decide +kernel
theorem dX5_axleFraction_36 : decode cX5_axleFraction 36 = .ok (.areturn, 1) := by decide +kernel
theorem dX5_axleFraction_37 : decode cX5_axleFraction 37 = .ok (.aload_n 0, 1) := by decide +kernel
theorem dX5_axleFraction_38 : decode cX5_axleFraction 38 = .ok (.getfield 10, 3) := by decide +kernel
theorem dX5_axleFraction_41 : decode cX5_axleFraction 41 = .ok (.iload_n 1, 1) := by decide +kernel
theorem dX5_axleFraction_42 : decode cX5_axleFraction 42 = .ok (.aload_n 0, 1) := by decide +kernel
theorem dX5_axleFraction_43 : decode cX5_axleFraction 43 = .ok (.getfield 87, 3) := by decide +kernel
theorem dX5_axleFraction_46 : decode cX5_axleFraction 46 = .ok (.invokevirtual 296, 3) := by decide +kernel
theorem dX5_axleFraction_49 : decode cX5_axleFraction 49 = .ok (.areturn, 1) := by decide +kernel
theorem dX5_axleFraction_50 : decode cX5_axleFraction 50 = .ok (.aload_n 0, 1) := by decide +kernel
theorem dX5_axleFraction_51 : decode cX5_axleFraction 51 = .ok (.getfield 10, 3) := by decide +kernel
theorem dX5_axleFraction_54 : decode cX5_axleFraction 54 = .ok (.iload_n 1, 1) := by decide +kernel
theorem dX5_axleFraction_55 : decode cX5_axleFraction 55 = .ok (.aload_n 0, 1) := by decide +kernel
theorem dX5_axleFraction_56 : decode cX5_axleFraction 56 = .ok (.getfield 87, 3) := by decide +kernel
theorem dX5_axleFraction_59 : decode cX5_axleFraction 59 = .ok (.invokevirtual 296, 3) := by decide +kernel
theorem dX5_axleFraction_62 : decode cX5_axleFraction 62 = .ok (.invokevirtual 299, 3) := by decide +kernel
theorem dX5_axleFraction_65 : decode cX5_axleFraction 65 = .ok (.areturn, 1) := by decide +kernel
theorem dX5_passedBy_0 : decode cX5_passedBy 0 = .ok (.aload_n 0, 1) := by decide +kernel
theorem dX5_passedBy_1 : decode cX5_passedBy 1 = .ok (.getfield 10, 3) := by decide +kernel
theorem dX5_passedBy_4 : decode cX5_passedBy 4 = .ok (.aload_n 0, 1) := by decide +kernel
theorem dX5_passedBy_5 : decode cX5_passedBy 5 = .ok (.getfield 10, 3) := by decide +kernel
theorem dX5_passedBy_8 : decode cX5_passedBy 8 = .ok (.iload_n 1, 1) := by decide +kernel
theorem dX5_passedBy_9 : decode cX5_passedBy 9 = .ok (.invokevirtual 140, 3) := by decide +kernel
theorem dX5_passedBy_12 : decode cX5_passedBy 12 = .ok (.invokevirtual 293, 3) := by decide +kernel
theorem dX5_passedBy_15 : decode cX5_passedBy 15 = .ok (.aload_n 0, 1) := by decide +kernel
theorem dX5_passedBy_16 : decode cX5_passedBy 16 = .ok (.getfield 87, 3) := by decide +kernel
theorem dX5_passedBy_19 : decode cX5_passedBy 19 = .ok (.i2l, 1) := by decide +kernel
theorem dX5_passedBy_20 : decode cX5_passedBy 20 = .ok (.aload_n 0, 1) := by decide +kernel
theorem dX5_passedBy_21 : decode cX5_passedBy 21 = .ok (.getfield 10, 3) := by decide +kernel
theorem dX5_passedBy_24 : decode cX5_passedBy 24 = .ok (.iload_n 1, 1) := by decide +kernel
theorem dX5_passedBy_25 : decode cX5_passedBy 25 = .ok (.invokevirtual 143, 3) := by decide +kernel
theorem dX5_passedBy_28 : decode cX5_passedBy 28 = .ok (.i2l, 1) := by decide +kernel
theorem dX5_passedBy_29 : decode cX5_passedBy 29 = .ok (.lmul, 1) := by decide +kernel
theorem dX5_passedBy_30 : decode cX5_passedBy 30 = .ok (.lconst 1, 1) := by decide +kernel
theorem dX5_passedBy_31 : decode cX5_passedBy 31 = .ok (.invokevirtual 303, 3) := by decide +kernel
theorem dX5_passedBy_34 : decode cX5_passedBy 34 = .ok (.areturn, 1) := by decide +kernel
theorem dX5_cellAt_0 : decode cX5_cellAt 0 = .ok (.aload_n 0, 1) := by decide +kernel
theorem dX5_cellAt_1 : decode cX5_cellAt 1 = .ok (.getfield 10, 3) := by decide +kernel
theorem dX5_cellAt_4 : decode cX5_cellAt 4 = .ok (.iload_n 1, 1) := by decide +kernel
theorem dX5_cellAt_5 : decode cX5_cellAt 5 = .ok (.iload_n 2, 1) := by decide +kernel
theorem dX5_cellAt_6 : decode cX5_cellAt 6 = .ok (.invokevirtual 296, 3) := by decide +kernel
theorem dX5_cellAt_9 : decode cX5_cellAt 9 = .ok (.invokevirtual 299, 3) := by decide +kernel
theorem dX5_cellAt_12 : decode cX5_cellAt 12 = .ok (.aload_n 0, 1) := by decide +kernel
theorem dX5_cellAt_13 : decode cX5_cellAt 13 = .ok (.getfield 16, 3) := by decide +kernel
theorem dX5_cellAt_16 : decode cX5_cellAt 16 = .ok (.iload_n 1, 1) := by decide +kernel
theorem dX5_cellAt_17 : decode cX5_cellAt 17 = .ok (.invokestatic 90, 3) := by decide +kernel
theorem dX5_cellAt_20 : decode cX5_cellAt 20 = .ok (.invokevirtual 307, 3) := by decide +kernel
theorem dX5_cellAt_23 : decode cX5_cellAt 23 = .ok (.ireturn, 1) := by decide +kernel
theorem dX5_doMeshesPassAlike_0 : decode cX5_doMeshesPassAlike 0 = .ok (.iconst 0, 1) := by decide +kernel
theorem dX5_doMeshesPassAlike_1 : decode cX5_doMeshesPassAlike 1 = .ok (.istore_n 1, 1) := by decide +kernel
theorem dX5_doMeshesPassAlike_2 : decode cX5_doMeshesPassAlike 2 = .ok (.iload_n 1, 1) := by decide +kernel
theorem dX5_doMeshesPassAlike_3 : decode cX5_doMeshesPassAlike 3 = .ok (.aload_n 0, 1) := by decide +kernel
theorem dX5_doMeshesPassAlike_4 : decode cX5_doMeshesPassAlike 4 = .ok (.getfield 10, 3) := by decide +kernel
theorem dX5_doMeshesPassAlike_7 : decode cX5_doMeshesPassAlike 7 = .ok (.getfield 53, 3) := by decide +kernel
theorem dX5_doMeshesPassAlike_10 : decode cX5_doMeshesPassAlike 10 = .ok (.if_icmp .ge 62, 3) := by decide +kernel
theorem dX5_doMeshesPassAlike_13 : decode cX5_doMeshesPassAlike 13 = .ok (.aload_n 0, 1) := by decide +kernel
theorem dX5_doMeshesPassAlike_14 : decode cX5_doMeshesPassAlike 14 = .ok (.iload_n 1, 1) := by decide +kernel
theorem dX5_doMeshesPassAlike_15 : decode cX5_doMeshesPassAlike 15 = .ok (.invokevirtual 152, 3) := by decide +kernel
theorem dX5_doMeshesPassAlike_18 : decode cX5_doMeshesPassAlike 18 = .ok (.astore_n 2, 1) := by decide +kernel
theorem dX5_doMeshesPassAlike_19 : decode cX5_doMeshesPassAlike 19 = .ok (.iload_n 1, 1) := by decide +kernel
theorem dX5_doMeshesPassAlike_20 : decode cX5_doMeshesPassAlike 20 = .ok (.iconst 1, 1) := by decide +kernel
theorem dX5_doMeshesPassAlike_21 : decode cX5_doMeshesPassAlike 21 = .ok (.iadd, 1) := by decide +kernel
theorem dX5_doMeshesPassAlike_22 : decode cX5_doMeshesPassAlike 22 = .ok (.istore_n 3, 1) := by decide +kernel
theorem dX5_doMeshesPassAlike_23 : decode cX5_doMeshesPassAlike 23 = .ok (.iload_n 3, 1) := by decide +kernel
theorem dX5_doMeshesPassAlike_24 : decode cX5_doMeshesPassAlike 24 = .ok (.aload_n 0, 1) := by decide +kernel
theorem dX5_doMeshesPassAlike_25 : decode cX5_doMeshesPassAlike 25 = .ok (.getfield 10, 3) := by decide +kernel
theorem dX5_doMeshesPassAlike_28 : decode cX5_doMeshesPassAlike 28 = .ok (.getfield 53, 3) := by decide +kernel
theorem dX5_doMeshesPassAlike_31 : decode cX5_doMeshesPassAlike 31 = .ok (.if_icmp .ge 35, 3) := by decide +kernel
theorem dX5_doMeshesPassAlike_34 : decode cX5_doMeshesPassAlike 34 = .ok (.aload_n 0, 1) := by decide +kernel
theorem dX5_doMeshesPassAlike_35 : decode cX5_doMeshesPassAlike 35 = .ok (.getfield 10, 3) := by decide +kernel
theorem dX5_doMeshesPassAlike_38 : decode cX5_doMeshesPassAlike 38 = .ok (.iload_n 1, 1) := by decide +kernel
theorem dX5_doMeshesPassAlike_39 : decode cX5_doMeshesPassAlike 39 = .ok (.iload_n 3, 1) := by decide +kernel
theorem dX5_doMeshesPassAlike_40 : decode cX5_doMeshesPassAlike 40 = .ok (.invokevirtual 81, 3) := by decide +kernel
theorem dX5_doMeshesPassAlike_43 : decode cX5_doMeshesPassAlike 43 = .ok (.ifCond .eq 17, 3) := by decide +kernel
theorem dX5_doMeshesPassAlike_46 : decode cX5_doMeshesPassAlike 46 = .ok (.aload_n 2, 1) := by decide +kernel
theorem dX5_doMeshesPassAlike_47 : decode cX5_doMeshesPassAlike 47 = .ok (.aload_n 0, 1) := by decide +kernel
theorem dX5_doMeshesPassAlike_48 : decode cX5_doMeshesPassAlike 48 = .ok (.iload_n 3, 1) := by decide +kernel
theorem dX5_doMeshesPassAlike_49 : decode cX5_doMeshesPassAlike 49 = .ok (.invokevirtual 152, 3) := by decide +kernel
theorem dX5_doMeshesPassAlike_52 : decode cX5_doMeshesPassAlike 52 = .ok (.invokevirtual 322, 3) := by decide +kernel
theorem dX5_doMeshesPassAlike_55 : decode cX5_doMeshesPassAlike 55 = .ok (.ifCond .ne 5, 3) := by decide +kernel
theorem dX5_doMeshesPassAlike_58 : decode cX5_doMeshesPassAlike 58 = .ok (.iconst 0, 1) := by decide +kernel
theorem dX5_doMeshesPassAlike_59 : decode cX5_doMeshesPassAlike 59 = .ok (.ireturn, 1) := by decide +kernel
theorem dX5_doMeshesPassAlike_60 : decode cX5_doMeshesPassAlike 60 = .ok (.iinc 3 1, 3) := by decide +kernel
theorem dX5_doMeshesPassAlike_63 : decode cX5_doMeshesPassAlike 63 = .ok (.goto (-40), 3) := by decide +kernel
theorem dX5_doMeshesPassAlike_66 : decode cX5_doMeshesPassAlike 66 = .ok (.iinc 1 1, 3) := by decide +kernel
theorem dX5_doMeshesPassAlike_69 : decode cX5_doMeshesPassAlike 69 = .ok (.goto (-67), 3) := by decide +kernel
theorem dX5_doMeshesPassAlike_72 : decode cX5_doMeshesPassAlike 72 = .ok (.iconst 1, 1) := by decide +kernel
theorem dX5_doMeshesPassAlike_73 : decode cX5_doMeshesPassAlike 73 = .ok (.ireturn, 1) := by decide +kernel
theorem dX5_mixedAxles_0 : decode cX5_mixedAxles 0 = .ok (.lload_n 1, 1) := by decide +kernel
theorem dX5_mixedAxles_1 : decode cX5_mixedAxles 1 = .ok (.lstore_n 3, 1) := by decide +kernel
theorem dX5_mixedAxles_2 : decode cX5_mixedAxles 2 = .ok (.iconst 0, 1) := by decide +kernel
theorem dX5_mixedAxles_3 : decode cX5_mixedAxles 3 = .ok (.istore 5, 2) := by decide +kernel
theorem dX5_mixedAxles_5 : decode cX5_mixedAxles 5 = .ok (.iload 5, 2) := by decide +kernel
theorem dX5_mixedAxles_7 : decode cX5_mixedAxles 7 = .ok (.bipush 7, 2) := by decide +kernel
theorem dX5_mixedAxles_9 : decode cX5_mixedAxles 9 = .ok (.if_icmp .ge 53, 3) := by decide +kernel
theorem dX5_mixedAxles_12 : decode cX5_mixedAxles 12 = .ok (.iconst 0, 1) := by decide +kernel
theorem dX5_mixedAxles_13 : decode cX5_mixedAxles 13 = .ok (.istore 6, 2) := by decide +kernel
theorem dX5_mixedAxles_15 : decode cX5_mixedAxles 15 = .ok (.iload 6, 2) := by decide +kernel
theorem dX5_mixedAxles_17 : decode cX5_mixedAxles 17 = .ok (.iconst 3, 1) := by decide +kernel
theorem dX5_mixedAxles_18 : decode cX5_mixedAxles 18 = .ok (.if_icmp .ge 22, 3) := by decide +kernel
theorem dX5_mixedAxles_21 : decode cX5_mixedAxles 21 = .ok (.lload_n 3, 1) := by decide +kernel
theorem dX5_mixedAxles_22 : decode cX5_mixedAxles 22 = .ok (.aload_n 0, 1) := by decide +kernel
theorem dX5_mixedAxles_23 : decode cX5_mixedAxles 23 = .ok (.iload 5, 2) := by decide +kernel
theorem dX5_mixedAxles_25 : decode cX5_mixedAxles 25 = .ok (.iload 6, 2) := by decide +kernel
theorem dX5_mixedAxles_27 : decode cX5_mixedAxles 27 = .ok (.invokevirtual 130, 3) := by decide +kernel
theorem dX5_mixedAxles_30 : decode cX5_mixedAxles 30 = .ok (.invokestatic 326, 3) := by decide +kernel
theorem dX5_mixedAxles_33 : decode cX5_mixedAxles 33 = .ok (.lstore_n 3, 1) := by decide +kernel
theorem dX5_mixedAxles_34 : decode cX5_mixedAxles 34 = .ok (.iinc 6 1, 3) := by decide +kernel
theorem dX5_mixedAxles_37 : decode cX5_mixedAxles 37 = .ok (.goto (-22), 3) := by decide +kernel
theorem dX5_mixedAxles_40 : decode cX5_mixedAxles 40 = .ok (.lload_n 3, 1) := by decide +kernel
theorem dX5_mixedAxles_41 : decode cX5_mixedAxles 41 = .ok (.aload_n 0, 1) := by decide +kernel
theorem dX5_mixedAxles_42 : decode cX5_mixedAxles 42 = .ok (.iload 5, 2) := by decide +kernel
theorem dX5_mixedAxles_44 : decode cX5_mixedAxles 44 = .ok (.aload_n 0, 1) := by decide +kernel
theorem dX5_mixedAxles_45 : decode cX5_mixedAxles 45 = .ok (.getfield 87, 3) := by decide +kernel
theorem dX5_mixedAxles_48 : decode cX5_mixedAxles 48 = .ok (.invokevirtual 160, 3) := by decide +kernel
theorem dX5_mixedAxles_51 : decode cX5_mixedAxles 51 = .ok (.i2l, 1) := by decide +kernel
theorem dX5_mixedAxles_52 : decode cX5_mixedAxles 52 = .ok (.invokestatic 253, 3) := by decide +kernel
theorem dX5_mixedAxles_55 : decode cX5_mixedAxles 55 = .ok (.lstore_n 3, 1) := by decide +kernel
theorem dX5_mixedAxles_56 : decode cX5_mixedAxles 56 = .ok (.iinc 5 1, 3) := by decide +kernel
theorem dX5_mixedAxles_59 : decode cX5_mixedAxles 59 = .ok (.goto (-54), 3) := by decide +kernel
theorem dX5_mixedAxles_62 : decode cX5_mixedAxles 62 = .ok (.lload_n 3, 1) := by decide +kernel
theorem dX5_mixedAxles_63 : decode cX5_mixedAxles 63 = .ok (.lreturn, 1) := by decide +kernel
theorem dX5_mixedWheels_0 : decode cX5_mixedWheels 0 = .ok (.lload_n 1, 1) := by decide +kernel
theorem dX5_mixedWheels_1 : decode cX5_mixedWheels 1 = .ok (.lstore_n 3, 1) := by decide +kernel
theorem dX5_mixedWheels_2 : decode cX5_mixedWheels 2 = .ok (.iconst 0, 1) := by decide +kernel
theorem dX5_mixedWheels_3 : decode cX5_mixedWheels 3 = .ok (.istore 5, 2) := by decide +kernel
theorem dX5_mixedWheels_5 : decode cX5_mixedWheels 5 = .ok (.iload 5, 2) := by decide +kernel
theorem dX5_mixedWheels_7 : decode cX5_mixedWheels 7 = .ok (.aload_n 0, 1) := by decide +kernel
theorem dX5_mixedWheels_8 : decode cX5_mixedWheels 8 = .ok (.getfield 10, 3) := by decide +kernel
theorem dX5_mixedWheels_11 : decode cX5_mixedWheels 11 = .ok (.getfield 53, 3) := by decide +kernel
theorem dX5_mixedWheels_14 : decode cX5_mixedWheels 14 = .ok (.if_icmp .ge 49, 3) := by decide +kernel
theorem dX5_mixedWheels_17 : decode cX5_mixedWheels 17 = .ok (.iconst 0, 1) := by decide +kernel
theorem dX5_mixedWheels_18 : decode cX5_mixedWheels 18 = .ok (.istore 6, 2) := by decide +kernel
theorem dX5_mixedWheels_20 : decode cX5_mixedWheels 20 = .ok (.iload 6, 2) := by decide +kernel
theorem dX5_mixedWheels_22 : decode cX5_mixedWheels 22 = .ok (.iconst 4, 1) := by decide +kernel
theorem dX5_mixedWheels_23 : decode cX5_mixedWheels 23 = .ok (.if_icmp .ge 23, 3) := by decide +kernel
theorem dX5_mixedWheels_26 : decode cX5_mixedWheels 26 = .ok (.lload_n 3, 1) := by decide +kernel
theorem dX5_mixedWheels_27 : decode cX5_mixedWheels 27 = .ok (.aload_n 0, 1) := by decide +kernel
theorem dX5_mixedWheels_28 : decode cX5_mixedWheels 28 = .ok (.iload 5, 2) := by decide +kernel
theorem dX5_mixedWheels_30 : decode cX5_mixedWheels 30 = .ok (.iload 6, 2) := by decide +kernel
theorem dX5_mixedWheels_32 : decode cX5_mixedWheels 32 = .ok (.invokevirtual 330, 3) := by decide +kernel
theorem dX5_mixedWheels_35 : decode cX5_mixedWheels 35 = .ok (.i2l, 1) := by decide +kernel
theorem dX5_mixedWheels_36 : decode cX5_mixedWheels 36 = .ok (.invokestatic 253, 3) := by decide +kernel
theorem dX5_mixedWheels_39 : decode cX5_mixedWheels 39 = .ok (.lstore_n 3, 1) := by decide +kernel
theorem dX5_mixedWheels_40 : decode cX5_mixedWheels 40 = .ok (.iinc 6 1, 3) := by decide +kernel
theorem dX5_mixedWheels_43 : decode cX5_mixedWheels 43 = .ok (.goto (-23), 3) := by decide +kernel
theorem dX5_mixedWheels_46 : decode cX5_mixedWheels 46 = .ok (.lload_n 3, 1) := by decide +kernel
theorem dX5_mixedWheels_47 : decode cX5_mixedWheels 47 = .ok (.aload_n 0, 1) := by decide +kernel
theorem dX5_mixedWheels_48 : decode cX5_mixedWheels 48 = .ok (.iload 5, 2) := by decide +kernel
theorem dX5_mixedWheels_50 : decode cX5_mixedWheels 50 = .ok (.invokevirtual 152, 3) := by decide +kernel
theorem dX5_mixedWheels_53 : decode cX5_mixedWheels 53 = .ok (.invokestatic 326, 3) := by decide +kernel
theorem dX5_mixedWheels_56 : decode cX5_mixedWheels 56 = .ok (.lstore_n 3, 1) := by decide +kernel
theorem dX5_mixedWheels_57 : decode cX5_mixedWheels 57 = .ok (.iinc 5 1, 3) := by decide +kernel
theorem dX5_mixedWheels_60 : decode cX5_mixedWheels 60 = .ok (.goto (-55), 3) := by decide +kernel
theorem dX5_mixedWheels_63 : decode cX5_mixedWheels 63 = .ok (.lload_n 3, 1) := by decide +kernel
theorem dX5_mixedWheels_64 : decode cX5_mixedWheels 64 = .ok (.lreturn, 1) := by decide +kernel
theorem dX5_mixedFraction_0 : decode cX5_mixedFraction 0 = .ok (.lload_n 0, 1) := by decide +kernel
theorem dX5_mixedFraction_1 : decode cX5_mixedFraction 1 = .ok (.aload_n 2, 1) := by decide +kernel
theorem dX5_mixedFraction_2 : decode cX5_mixedFraction 2 = .ok (.getfield 333, 3) := by decide +kernel
theorem dX5_mixedFraction_5 : decode cX5_mixedFraction 5 = .ok (.invokestatic 253, 3) := by decide +kernel
theorem dX5_mixedFraction_8 : decode cX5_mixedFraction 8 = .ok (.aload_n 2, 1) := by decide +kernel
theorem dX5_mixedFraction_9 : decode cX5_mixedFraction 9 = .ok (.getfield 337, 3) := by decide +kernel
theorem dX5_mixedFraction_12 : decode cX5_mixedFraction 12 = .ok (.invokestatic 253, 3) := by decide +kernel
theorem dX5_mixedFraction_15 : decode cX5_mixedFraction 15 = .ok (.lreturn, 1) := by decide +kernel
theorem dX5_mixed_0 : decode cX5_mixed 0 = .ok (.lload_n 0, 1) := by decide +kernel
theorem dX5_mixed_1 : decode cX5_mixed 1 = .ok (.ldc2_w 340, 3) := by decide +kernel
theorem dX5_mixed_4 : decode cX5_mixed 4 = .ok (.lmul, 1) := by decide +kernel
theorem dX5_mixed_5 : decode cX5_mixed 5 = .ok (.lload_n 2, 1) := by decide +kernel
theorem dX5_mixed_6 : decode cX5_mixed 6 = .ok (.ladd, 1) := by decide +kernel
theorem dX5_mixed_7 : decode cX5_mixed 7 = .ok (.lreturn, 1) := by decide +kernel
theorem dX5_isWithin_0 : decode cX5_isWithin 0 = .ok (.iload_n 0, 1) := by decide +kernel
theorem dX5_isWithin_1 : decode cX5_isWithin 1 = .ok (.iload_n 1, 1) := by decide +kernel
theorem dX5_isWithin_2 : decode cX5_isWithin 2 = .ok (.if_icmp .lt 12, 3) := by decide +kernel
theorem dX5_isWithin_5 : decode cX5_isWithin 5 = .ok (.iload_n 0, 1) := by decide +kernel
theorem dX5_isWithin_6 : decode cX5_isWithin 6 = .ok (.iload_n 2, 1) := by decide +kernel
theorem dX5_isWithin_7 : decode cX5_isWithin 7 = .ok (.if_icmp .gt 7, 3) := by decide +kernel
theorem dX5_isWithin_10 : decode cX5_isWithin 10 = .ok (.iconst 1, 1) := by decide +kernel
theorem dX5_isWithin_11 : decode cX5_isWithin 11 = .ok (.goto 4, 3) := by decide +kernel
theorem dX5_isWithin_14 : decode cX5_isWithin 14 = .ok (.iconst 0, 1) := by decide +kernel
theorem dX5_isWithin_15 : decode cX5_isWithin 15 = .ok (.ireturn, 1) := by decide +kernel
theorem dX5_at_0 : decode cX5_at 0 = .ok (.iload_n 1, 1) := by decide +kernel
theorem dX5_at_1 : decode cX5_at 1 = .ok (.ifCond .lt 15, 3) := by decide +kernel
theorem dX5_at_4 : decode cX5_at 4 = .ok (.iload_n 1, 1) := by decide +kernel
theorem dX5_at_5 : decode cX5_at 5 = .ok (.aload_n 0, 1) := by decide +kernel
theorem dX5_at_6 : decode cX5_at 6 = .ok (.arraylength, 1) := by decide +kernel
theorem dX5_at_7 : decode cX5_at 7 = .ok (.if_icmp .ge 9, 3) := by decide +kernel
theorem dX5_at_10 : decode cX5_at 10 = .ok (.aload_n 0, 1) := by decide +kernel
theorem dX5_at_11 : decode cX5_at 11 = .ok (.iload_n 1, 1) := by decide +kernel
theorem dX5_at_12 : decode cX5_at 12 = .ok (.iaload, 1) := by decide +kernel
theorem dX5_at_13 : decode cX5_at 13 = .ok (.goto 4, 3) := by decide +kernel
theorem dX5_at_16 : decode cX5_at 16 = .ok (.iconst 0, 1) := by decide +kernel
theorem dX5_at_17 : decode cX5_at 17 = .ok (.ireturn, 1) := by decide +kernel
theorem dX5_put_0 : decode cX5_put 0 = .ok (.iload_n 1, 1) := by decide +kernel
theorem dX5_put_1 : decode cX5_put 1 = .ok (.ifCond .lt 13, 3) := by decide +kernel
theorem dX5_put_4 : decode cX5_put 4 = .ok (.iload_n 1, 1) := by decide +kernel
theorem dX5_put_5 : decode cX5_put 5 = .ok (.aload_n 0, 1) := by decide +kernel
theorem dX5_put_6 : decode cX5_put 6 = .ok (.arraylength, 1) := by decide +kernel
theorem dX5_put_7 : decode cX5_put 7 = .ok (.if_icmp .ge 7, 3) := by decide +kernel
theorem dX5_put_10 : decode cX5_put 10 = .ok (.aload_n 0, 1) := by decide +kernel
theorem dX5_put_11 : decode cX5_put 11 = .ok (.iload_n 1, 1) := by decide +kernel
theorem dX5_put_12 : decode cX5_put 12 = .ok (.iload_n 2, 1) := by decide +kernel
theorem dX5_put_13 : decode cX5_put 13 = .ok (.iastore, 1) := by decide +kernel
theorem dX5_put_14 : decode cX5_put 14 = .ok (.return_, 1) := by decide +kernel
theorem dX5_isIn_0 : decode cX5_isIn 0 = .ok (.iload_n 0, 1) := by decide +kernel
theorem dX5_isIn_1 : decode cX5_isIn 1 = .ok (.iload_n 1, 1) := by decide +kernel
theorem dX5_isIn_2 : decode cX5_isIn 2 = .ok (.ishr, 1) := by decide +kernel
theorem dX5_isIn_3 : decode cX5_isIn 3 = .ok (.iconst 1, 1) := by decide +kernel
theorem dX5_isIn_4 : decode cX5_isIn 4 = .ok (.iand, 1) := by decide +kernel
theorem dX5_isIn_5 : decode cX5_isIn 5 = .ok (.iconst 1, 1) := by decide +kernel
theorem dX5_isIn_6 : decode cX5_isIn 6 = .ok (.if_icmp .ne 7, 3) := by decide +kernel
theorem dX5_isIn_9 : decode cX5_isIn 9 = .ok (.iconst 1, 1) := by decide +kernel
theorem dX5_isIn_10 : decode cX5_isIn 10 = .ok (.goto 4, 3) := by decide +kernel
theorem dX5_isIn_13 : decode cX5_isIn 13 = .ok (.iconst 0, 1) := by decide +kernel
theorem dX5_isIn_14 : decode cX5_isIn 14 = .ok (.ireturn, 1) := by decide +kernel
theorem dX5_commonDivisor_0 : decode cX5_commonDivisor 0 = .ok (.lload_n 0, 1) := by decide +kernel
theorem dX5_commonDivisor_1 : decode cX5_commonDivisor 1 = .ok (.lconst 0, 1) := by decide +kernel
theorem dX5_commonDivisor_2 : decode cX5_commonDivisor 2 = .ok (.lcmp, 1) := by decide +kernel
theorem dX5_commonDivisor_3 : decode cX5_commonDivisor 3 = .ok (.ifCond .ge 8, 3) := by decide +kernel
theorem dX5_commonDivisor_6 : decode cX5_commonDivisor 6 = .ok (.lload_n 0, 1) := by decide +kernel
theorem dX5_commonDivisor_7 : decode cX5_commonDivisor 7 = .ok (.lneg, 1) := by decide +kernel
theorem dX5_commonDivisor_8 : decode cX5_commonDivisor 8 = .ok (.goto 4, 3) := by decide +kernel
theorem dX5_commonDivisor_11 : decode cX5_commonDivisor 11 = .ok (.lload_n 0, 1) := by decide +kernel
theorem dX5_commonDivisor_12 : decode cX5_commonDivisor 12 = .ok (.lstore 4, 2) := by decide +kernel
theorem dX5_commonDivisor_14 : decode cX5_commonDivisor 14 = .ok (.lload_n 2, 1) := by decide +kernel
theorem dX5_commonDivisor_15 : decode cX5_commonDivisor 15 = .ok (.lconst 0, 1) := by decide +kernel
theorem dX5_commonDivisor_16 : decode cX5_commonDivisor 16 = .ok (.lcmp, 1) := by decide +kernel
theorem dX5_commonDivisor_17 : decode cX5_commonDivisor 17 = .ok (.ifCond .ge 8, 3) := by decide +kernel
theorem dX5_commonDivisor_20 : decode cX5_commonDivisor 20 = .ok (.lload_n 2, 1) := by decide +kernel
theorem dX5_commonDivisor_21 : decode cX5_commonDivisor 21 = .ok (.lneg, 1) := by decide +kernel
theorem dX5_commonDivisor_22 : decode cX5_commonDivisor 22 = .ok (.goto 4, 3) := by decide +kernel
theorem dX5_commonDivisor_25 : decode cX5_commonDivisor 25 = .ok (.lload_n 2, 1) := by decide +kernel
theorem dX5_commonDivisor_26 : decode cX5_commonDivisor 26 = .ok (.lstore 6, 2) := by decide +kernel
theorem dX5_commonDivisor_28 : decode cX5_commonDivisor 28 = .ok (.iconst 0, 1) := by decide +kernel
theorem dX5_commonDivisor_29 : decode cX5_commonDivisor 29 = .ok (.istore 8, 2) := by decide +kernel
theorem dX5_commonDivisor_31 : decode cX5_commonDivisor 31 = .ok (.iload 8, 2) := by decide +kernel
theorem dX5_commonDivisor_33 : decode cX5_commonDivisor 33 = .ok (.sipush 1000, 3) := by decide +kernel
theorem dX5_commonDivisor_36 : decode cX5_commonDivisor 36 = .ok (.if_icmp .ge 31, 3) := by decide +kernel
theorem dX5_commonDivisor_39 : decode cX5_commonDivisor 39 = .ok (.lload 6, 2) := by decide +kernel
theorem dX5_commonDivisor_41 : decode cX5_commonDivisor 41 = .ok (.lconst 0, 1) := by decide +kernel
theorem dX5_commonDivisor_42 : decode cX5_commonDivisor 42 = .ok (.lcmp, 1) := by decide +kernel
theorem dX5_commonDivisor_43 : decode cX5_commonDivisor 43 = .ok (.ifCond .eq 24, 3) := by decide +kernel
theorem dX5_commonDivisor_46 : decode cX5_commonDivisor 46 = .ok (.lload 4, 2) := by decide +kernel
theorem dX5_commonDivisor_48 : decode cX5_commonDivisor 48 = .ok (.lload 6, 2) := by decide +kernel
theorem dX5_commonDivisor_50 : decode cX5_commonDivisor 50 = .ok (.lrem, 1) := by decide +kernel
theorem dX5_commonDivisor_51 : decode cX5_commonDivisor 51 = .ok (.lstore 9, 2) := by decide +kernel
theorem dX5_commonDivisor_53 : decode cX5_commonDivisor 53 = .ok (.lload 6, 2) := by decide +kernel
theorem dX5_commonDivisor_55 : decode cX5_commonDivisor 55 = .ok (.lstore 4, 2) := by decide +kernel
theorem dX5_commonDivisor_57 : decode cX5_commonDivisor 57 = .ok (.lload 9, 2) := by decide +kernel
theorem dX5_commonDivisor_59 : decode cX5_commonDivisor 59 = .ok (.lstore 6, 2) := by decide +kernel
theorem dX5_commonDivisor_61 : decode cX5_commonDivisor 61 = .ok (.iinc 8 1, 3) := by decide +kernel
theorem dX5_commonDivisor_64 : decode cX5_commonDivisor 64 = .ok (.goto (-33), 3) := by decide +kernel
theorem dX5_commonDivisor_67 : decode cX5_commonDivisor 67 = .ok (.lload 4, 2) := by decide +kernel
theorem dX5_commonDivisor_69 : decode cX5_commonDivisor 69 = .ok (.lreturn, 1) := by decide +kernel
theorem dJ6_bitCount_0f7a4_0 : decode cJ6_bitCount_0f7a4 0 = .ok (.iload_n 0, 1) := by decide +kernel
theorem dJ6_bitCount_0f7a4_1 : decode cJ6_bitCount_0f7a4 1 = .ok (.iload_n 0, 1) := by decide +kernel
theorem dJ6_bitCount_0f7a4_2 : decode cJ6_bitCount_0f7a4 2 = .ok (.iconst 1, 1) := by decide +kernel
theorem dJ6_bitCount_0f7a4_3 : decode cJ6_bitCount_0f7a4 3 = .ok (.iushr, 1) := by decide +kernel
theorem dJ6_bitCount_0f7a4_4 : decode cJ6_bitCount_0f7a4 4 = .ok (.ldc_w 265, 3) := by decide +kernel
theorem dJ6_bitCount_0f7a4_7 : decode cJ6_bitCount_0f7a4 7 = .ok (.iand, 1) := by decide +kernel
theorem dJ6_bitCount_0f7a4_8 : decode cJ6_bitCount_0f7a4 8 = .ok (.isub, 1) := by decide +kernel
theorem dJ6_bitCount_0f7a4_9 : decode cJ6_bitCount_0f7a4 9 = .ok (.istore_n 0, 1) := by decide +kernel
theorem dJ6_bitCount_0f7a4_10 : decode cJ6_bitCount_0f7a4 10 = .ok (.iload_n 0, 1) := by decide +kernel
theorem dJ6_bitCount_0f7a4_11 : decode cJ6_bitCount_0f7a4 11 = .ok (.ldc_w 266, 3) := by decide +kernel
theorem dJ6_bitCount_0f7a4_14 : decode cJ6_bitCount_0f7a4 14 = .ok (.iand, 1) := by decide +kernel
theorem dJ6_bitCount_0f7a4_15 : decode cJ6_bitCount_0f7a4 15 = .ok (.iload_n 0, 1) := by decide +kernel
theorem dJ6_bitCount_0f7a4_16 : decode cJ6_bitCount_0f7a4 16 = .ok (.iconst 2, 1) := by decide +kernel
theorem dJ6_bitCount_0f7a4_17 : decode cJ6_bitCount_0f7a4 17 = .ok (.iushr, 1) := by decide +kernel
theorem dJ6_bitCount_0f7a4_18 : decode cJ6_bitCount_0f7a4 18 = .ok (.ldc_w 266, 3) := by decide +kernel
theorem dJ6_bitCount_0f7a4_21 : decode cJ6_bitCount_0f7a4 21 = .ok (.iand, 1) := by decide +kernel
theorem dJ6_bitCount_0f7a4_22 : decode cJ6_bitCount_0f7a4 22 = .ok (.iadd, 1) := by decide +kernel
theorem dJ6_bitCount_0f7a4_23 : decode cJ6_bitCount_0f7a4 23 = .ok (.istore_n 0, 1) := by decide +kernel
theorem dJ6_bitCount_0f7a4_24 : decode cJ6_bitCount_0f7a4 24 = .ok (.iload_n 0, 1) := by decide +kernel
theorem dJ6_bitCount_0f7a4_25 : decode cJ6_bitCount_0f7a4 25 = .ok (.iload_n 0, 1) := by decide +kernel
theorem dJ6_bitCount_0f7a4_26 : decode cJ6_bitCount_0f7a4 26 = .ok (.iconst 4, 1) := by decide +kernel
theorem dJ6_bitCount_0f7a4_27 : decode cJ6_bitCount_0f7a4 27 = .ok (.iushr, 1) := by decide +kernel
theorem dJ6_bitCount_0f7a4_28 : decode cJ6_bitCount_0f7a4 28 = .ok (.iadd, 1) := by decide +kernel
theorem dJ6_bitCount_0f7a4_29 : decode cJ6_bitCount_0f7a4 29 = .ok (.ldc_w 267, 3) := by decide +kernel
theorem dJ6_bitCount_0f7a4_32 : decode cJ6_bitCount_0f7a4 32 = .ok (.iand, 1) := by decide +kernel
theorem dJ6_bitCount_0f7a4_33 : decode cJ6_bitCount_0f7a4 33 = .ok (.istore_n 0, 1) := by decide +kernel
theorem dJ6_bitCount_0f7a4_34 : decode cJ6_bitCount_0f7a4 34 = .ok (.iload_n 0, 1) := by decide +kernel
theorem dJ6_bitCount_0f7a4_35 : decode cJ6_bitCount_0f7a4 35 = .ok (.iload_n 0, 1) := by decide +kernel
theorem dJ6_bitCount_0f7a4_36 : decode cJ6_bitCount_0f7a4 36 = .ok (.bipush 8, 2) := by decide +kernel
theorem dJ6_bitCount_0f7a4_38 : decode cJ6_bitCount_0f7a4 38 = .ok (.iushr, 1) := by decide +kernel
theorem dJ6_bitCount_0f7a4_39 : decode cJ6_bitCount_0f7a4 39 = .ok (.iadd, 1) := by decide +kernel
theorem dJ6_bitCount_0f7a4_40 : decode cJ6_bitCount_0f7a4 40 = .ok (.istore_n 0, 1) := by decide +kernel
theorem dJ6_bitCount_0f7a4_41 : decode cJ6_bitCount_0f7a4 41 = .ok (.iload_n 0, 1) := by decide +kernel
theorem dJ6_bitCount_0f7a4_42 : decode cJ6_bitCount_0f7a4 42 = .ok (.iload_n 0, 1) := by decide +kernel
theorem dJ6_bitCount_0f7a4_43 : decode cJ6_bitCount_0f7a4 43 = .ok (.bipush 16, 2) := by decide +kernel
theorem dJ6_bitCount_0f7a4_45 : decode cJ6_bitCount_0f7a4 45 = .ok (.iushr, 1) := by decide +kernel
theorem dJ6_bitCount_0f7a4_46 : decode cJ6_bitCount_0f7a4 46 = .ok (.iadd, 1) := by decide +kernel
theorem dJ6_bitCount_0f7a4_47 : decode cJ6_bitCount_0f7a4 47 = .ok (.istore_n 0, 1) := by decide +kernel
theorem dJ6_bitCount_0f7a4_48 : decode cJ6_bitCount_0f7a4 48 = .ok (.iload_n 0, 1) := by decide +kernel
theorem dJ6_bitCount_0f7a4_49 : decode cJ6_bitCount_0f7a4 49 = .ok (.bipush 63, 2) := by decide +kernel
theorem dJ6_bitCount_0f7a4_51 : decode cJ6_bitCount_0f7a4 51 = .ok (.iand, 1) := by decide +kernel
theorem dJ6_bitCount_0f7a4_52 : decode cJ6_bitCount_0f7a4 52 = .ok (.ireturn, 1) := by decide +kernel
theorem dJ9_floorMod_f86c9_0 : decode cJ9_floorMod_f86c9 0 = .ok (.lload_n 0, 1) := by decide +kernel
theorem dJ9_floorMod_f86c9_1 : decode cJ9_floorMod_f86c9 1 = .ok (.lload_n 2, 1) := by decide +kernel
theorem dJ9_floorMod_f86c9_2 : decode cJ9_floorMod_f86c9 2 = .ok (.lrem, 1) := by decide +kernel
theorem dJ9_floorMod_f86c9_3 : decode cJ9_floorMod_f86c9 3 = .ok (.lstore 4, 2) := by decide +kernel
theorem dJ9_floorMod_f86c9_5 : decode cJ9_floorMod_f86c9 5 = .ok (.lload_n 0, 1) := by decide +kernel
theorem dJ9_floorMod_f86c9_6 : decode cJ9_floorMod_f86c9 6 = .ok (.lload_n 2, 1) := by decide +kernel
theorem dJ9_floorMod_f86c9_7 : decode cJ9_floorMod_f86c9 7 = .ok (.lxor, 1) := by decide +kernel
theorem dJ9_floorMod_f86c9_8 : decode cJ9_floorMod_f86c9 8 = .ok (.lconst 0, 1) := by decide +kernel
theorem dJ9_floorMod_f86c9_9 : decode cJ9_floorMod_f86c9 9 = .ok (.lcmp, 1) := by decide +kernel
theorem dJ9_floorMod_f86c9_10 : decode cJ9_floorMod_f86c9 10 = .ok (.ifCond .ge 15, 3) := by decide +kernel
theorem dJ9_floorMod_f86c9_13 : decode cJ9_floorMod_f86c9 13 = .ok (.lload 4, 2) := by decide +kernel
theorem dJ9_floorMod_f86c9_15 : decode cJ9_floorMod_f86c9 15 = .ok (.lconst 0, 1) := by decide +kernel
theorem dJ9_floorMod_f86c9_16 : decode cJ9_floorMod_f86c9 16 = .ok (.lcmp, 1) := by decide +kernel
theorem dJ9_floorMod_f86c9_17 : decode cJ9_floorMod_f86c9 17 = .ok (.ifCond .eq 8, 3) := by decide +kernel
theorem dJ9_floorMod_f86c9_20 : decode cJ9_floorMod_f86c9 20 = .ok (.lload 4, 2) := by decide +kernel
theorem dJ9_floorMod_f86c9_22 : decode cJ9_floorMod_f86c9 22 = .ok (.lload_n 2, 1) := by decide +kernel
theorem dJ9_floorMod_f86c9_23 : decode cJ9_floorMod_f86c9 23 = .ok (.ladd, 1) := by decide +kernel
theorem dJ9_floorMod_f86c9_24 : decode cJ9_floorMod_f86c9 24 = .ok (.lreturn, 1) := by decide +kernel
theorem dJ9_floorMod_f86c9_25 : decode cJ9_floorMod_f86c9 25 = .ok (.lload 4, 2) := by decide +kernel
theorem dJ9_floorMod_f86c9_27 : decode cJ9_floorMod_f86c9 27 = .ok (.lreturn, 1) := by decide +kernel
theorem dJ9_abs_0f7a4_0 : decode cJ9_abs_0f7a4 0 = .ok (.iload_n 0, 1) := by decide +kernel
theorem dJ9_abs_0f7a4_1 : decode cJ9_abs_0f7a4 1 = .ok (.ifCond .ge 8, 3) := by decide +kernel
theorem dJ9_abs_0f7a4_4 : decode cJ9_abs_0f7a4 4 = .ok (.iload_n 0, 1) := by decide +kernel
theorem dJ9_abs_0f7a4_5 : decode cJ9_abs_0f7a4 5 = .ok (.ineg, 1) := by decide +kernel
theorem dJ9_abs_0f7a4_6 : decode cJ9_abs_0f7a4 6 = .ok (.goto 4, 3) := by decide +kernel
theorem dJ9_abs_0f7a4_9 : decode cJ9_abs_0f7a4 9 = .ok (.iload_n 0, 1) := by decide +kernel
theorem dJ9_abs_0f7a4_10 : decode cJ9_abs_0f7a4 10 = .ok (.ireturn, 1) := by decide +kernel
end
section
abbrev iX0 : Nat := 0
abbrev iX1 : Nat := 1
abbrev iX2 : Nat := 2
abbrev iX3 : Nat := 3
abbrev iX4 : Nat := 4
abbrev iX5 : Nat := 5
/-! what all contracts share: the start of a method, calls that change nothing of their caller's, fractions in a pool -/
def nestL : List (String × Nat × MethodName) := [(RX0, 22, yX5_isIn), (RX0, 26, yX5_at), (RX0, 30, yX5_put), (RX1, 7, yX5_commonDivisor), (RX2, 48, yX5_put), (RX2, 52, yX5_at), (RX2, 63, yX5_isIn), (RX2, 99, yX5_commonDivisor), (RX3, 37, yX5_at), (RX3, 45, yX5_put)]
/-- the links to a nest mate's private methods -/
def NW (U : State) : Prop := (∀ q ∈ nestL, va_Nw (.methodLinkNest q.1 q.2.1 q.2.2 RX5) U) ∧ va_AO RX1 U
theorem NW.warm {s U : State} (hW : s.WarmedH U.vm) (h : NW s) : NW U := ⟨fun q hq => va_Nw.warmM hW (h.1 q hq), va_AO.moved hW.alike h.2⟩
theorem NW.call {U : State} {g : JFrame} {mk : MethodId} {a : Array Value} (h : NW U) : NW (U.calling g mk a) := ⟨fun q hq => va_Nw.same rfl rfl (h.1 q hq), va_AO.moved (Vm.Alike.refl U.vm) h.2⟩
theorem nwAt {U : State} (h : NW U) (q : String × Nat × MethodName) (hq : q ∈ nestL) : va_Nw (.methodLinkNest q.1 q.2.1 q.2.2 RX5) U := h.1 q hq
theorem aoAt {U : State} (h : NW U) : va_AO RX1 U := h.2
theorem raEq {U : State} {cA cB : ClassId} {ty : FieldType} (h1 : va_RA U cA ty) (h2 : va_RA U cB ty) : cA = cB := by
  cases ty with
  | object C =>
    obtain ⟨_, _, _, _, _, q1⟩ := h1
    obtain ⟨_, _, _, _, _, q2⟩ := h2
    exact Option.some.inj (q1.symm.trans q2)
  | _ => exact Option.some.inj (Eq.trans (Eq.symm h1) h2)
theorem tyEq {D : va_G} {cl : List vw_C} {tys : List (ClassId × FieldType)} {s : State} {cA cB : ClassId} {ty : FieldType} (h1 : va_K D cl (tys ++ [(cA, ty)]) s) (h2 : va_K D cl tys s) (k : Nat) (hk : tys[k]? = some (cB, ty)) : cA = cB := raEq (h1.2 tys.length (cA, ty) (by simp)).2 (h2.2 k _ hk).2
def cPc (dC : Nat → ClassId) (dI : Nat → Nat → Nat) (tys : List (ClassId × FieldType)) (sz : Nat) (ws : va_W) (av : List Value) : Array Value → State → Prop := va_Pc av (fun U => U.heap.size = sz ∧ va_P (dC, dI) vwCl ws U.heap ∧ va_K (dC, dI) vwCl tys U ∧ NW U)
def cPd (dC : Nat → ClassId) (dI : Nat → Nat → Nat) (tys : List (ClassId × FieldType)) (sz : Nat) (ws : va_W) (av : List Value) : Array Value → State → Prop := va_Pc av (fun U => U.heap.size = sz ∧ va_P (dC, dI) vwCl ws U.heap ∧ va_K (dC, dI) vwCl tys U ∧ NW U ∧ va_D (fun _ => True) ws)
/-- a method of a JDK class of which some other methods are native -/
theorem ofWF {l : Launch} {y : MethodName} {ws ws' : List Cond} {rm : Room} {Pc : Array Value → State → Prop} {Qc : Array Value → State → Outcome → State → Prop} {mc ms : Nat} {free : Addr → Prop} {cc : ByteArray} {maxL : Nat} {ret : Option FieldType}
    (hy : plainFor y = true) (hw : ws = Cond.code y cc maxL ret :: ws')
    (body : ∀ p e s m args below meth c s₁, BodyLoose p l y (headSpec ws rm) cc maxL ret e s m args below meth c s₁ → c.maxLocals = maxL → Pc args s →
      W p l e (headSpec ws rm).room s m args below meth c s.heap [] 0 0 (MQ below Qc args s mc ms free) (entryFrame m args maxL)) : Met l y ws rm Pc Qc mc ms free := by
  refine MetFree.of_bodySF (code := cc) (maxLocals := maxL) (ret := ret) hy ?_ ?_
  · intro args s m h hn
    obtain ⟨meth, c, h1, h2, h3, h4, h5, h6, -, -⟩ := Cond.code_spec hn (atoms_spec (ws := ws) h _ (by rw [hw]; exact List.mem_cons_self))
    exact ⟨meth, c, h1, h2, h3, h4, h5, h6⟩
  · intro p e s m args below meth c s₁ B hml hP _
    have hh0 : s₁.heap = s.heap := by rw [B.state]; rfl
    obtain ⟨t, a1, o, b1, b2, b3⟩ := body p e s m args below meth c s₁ B hml hP s₁ hh0 (Stand.of_body B)
    exact ⟨t, o, a1, b1, b2, ⟨b3.1, b3.2⟩⟩
section CB
variable {dC : Nat → ClassId} {dI : Nat → Nat → Nat} {tys : List (ClassId × FieldType)} {sz : Nat} {ws : va_W} {av : List Value} {s : State} {H H0 H1 : Heap} {A : Nat → Prop} {locs : List Loc}
theorem cBl : FrameBlind (cPc dC dI tys sz ws av) := fun a U g mk q => by
  obtain ⟨q0, q1, qP, qK, qN⟩ := q
  exact ⟨q0, q1, qP, va_K.moved (u := U) (U := U.calling g mk a) (Vm.Alike.refl U.vm) qK, NW.call qN⟩
theorem cDbl : FrameBlind (cPd dC dI tys sz ws av) := fun a U g mk q => by
  obtain ⟨q0, q1, qP, qK, qN, qD⟩ := q
  exact ⟨q0, q1, qP, va_K.moved (u := U) (U := U.calling g mk a) (Vm.Alike.refl U.vm) qK, NW.call qN, qD⟩
theorem cPre (hP : va_P (dC, dI) vwCl ws H) (hK : va_K (dC, dI) vwCl tys s) (hN : NW s) : ∀ U : State, U.heap = H → s.WarmedH U.vm → cPc dC dI tys H.size ws av av.toArray U := fun U hU hW => ⟨rfl, by rw [hU], by rw [hU]; exact hP, va_K.moved hW.alike hK, NW.warm hW hN⟩
theorem cDpre (hP : va_P (dC, dI) vwCl ws H) (hK : va_K (dC, dI) vwCl tys s) (hN : NW s) (hD : va_D (fun _ => True) ws) : ∀ U : State, U.heap = H → s.WarmedH U.vm → cPd dC dI tys H.size ws av av.toArray U := fun U hU hW => ⟨rfl, by rw [hU], by rw [hU]; exact hP, va_K.moved hW.alike hK, NW.warm hW hN, hD⟩
theorem frZ (hS : va_S A H0 H locs) (hA : ∀ q : Nat, H0.size ≤ q → A q) : ∀ q, va_A [] H.size q → A q := by
  intro q h
  rcases h with ⟨k, e, h⟩ | h
  · simp at h
  · exact hA q (Nat.le_trans hS.1 h)
theorem keepP (h : va_P (dC, dI) vwCl ws H) (hk : ∀ q : Nat, q < H.size → ¬ va_A [] H.size q → H1[q]? = H[q]?) : va_P (dC, dI) vwCl ws H1 := h.kept fun k q hq => hk q.1 (h k q hq).lt (by
  intro z
  rcases z with ⟨k, e, z⟩ | z
  · simp at z
  · exact absurd (h _ q hq).lt (Nat.not_lt.mpr z))
theorem notZ {n q : Nat} (h : q < n) : ¬ va_A [] n q := by
  intro z
  rcases z with ⟨k, e, z⟩ | z
  · simp at z
  · exact absurd h (Nat.not_lt.mpr z)
theorem geZ {n q : Nat} (z : va_A [] n q) : n ≤ q := by
  rcases z with ⟨k, e, z⟩ | z
  · simp at z
  · exact z
theorem keepR (h : va_P (dC, dI) vwCl ws H0) (hS : va_S A H0 H locs) (hn : ∀ q : Nat, q < H0.size → ¬ A q) : va_P (dC, dI) vwCl ws H := h.kept fun k q hq => hS.2.1 q.1 (h k q hq).lt (hn _ (h k q hq).lt)
theorem nilP : va_P (dC, dI) vwCl [] H := fun k q h => by simp at h
theorem rfOr (r : Option Nat) : va_rf r = .null ∨ ∃ a, va_rf r = .ref a := by
  cases r with
  | none => exact Or.inl rfl
  | some a => exact Or.inr ⟨a, rfl⟩
theorem leK {a b : Nat} (ha : a < 2 ^ 31) (hb : b < 2 ^ 31) (c : nI a ≤ nI b) : a ≤ b := (nI_leI ha hb).mp c
theorem ltK {a b : Nat} (ha : a < 2 ^ 31) (hb : b < 2 ^ 31) (c : ¬ nI a ≤ nI b) : b < a := Nat.lt_of_not_le fun h => c ((nI_leI ha hb).mpr h)
def absI (x : Int32) : Int32 := if 0 ≤ x then x else 0 - x
/-- the fractions of a pool, by their addresses -/
def fe (v : Nat → Int64 × Int64) : Nat → va_E := fun a => .inr (iX1, [.long (v a).1, .long (v a).2])
theorem poolP {X : va_W} {LP : List Nat} {v : Nat → Int64 × Int64} (h : va_P (dC, dI) vwCl (X ++ va_pl LP (fe v)) H) {a : Nat} (ha : a ∈ LP) : va_P (dC, dI) vwCl [(a, .inr (iX1, [.long (v a).1, .long (v a).2]))] H := by
  obtain ⟨k, hk⟩ := va_pl_get (X := X) (f := fe v) ha
  intro i q hq
  match i, hq with
  | 0, hq => cases hq; exact h k _ hk
  | i + 1, hq => simp at hq
/-- what a call has made joins the world -/
theorem pushD {W : va_W} {r : Nat} {e : va_E} (hD : va_D A W) (hP : va_P (dC, dI) vwCl W H) (h : H.size ≤ r) (hr : A r) : va_D A (W ++ [(r, e)]) := by
  refine va_D.app hD ⟨fun i j p q hi hj _ => ?_, fun k q hq => ?_⟩ (fun i j p q hi hj z => ?_)
  · have h1 := (List.getElem?_eq_some_iff.mp hi).1
    have h2 := (List.getElem?_eq_some_iff.mp hj).1
    simp at h1 h2
    omega
  · have h1 := List.mem_of_getElem? hq
    simp at h1
    rw [h1]
    exact hr
  · have h1 := (hP i p hi).lt
    have h2 := List.mem_of_getElem? hj
    simp at h2
    rw [h2] at z
    simp at z
    omega
theorem pushE {X : va_W} {LP : List Nat} {v : Nat → Int64 × Int64} {r : Nat} {u w : Int64} (h : r ∉ LP) : (X ++ va_pl LP (fe v)) ++ [(r, .inr (iX1, [.long u, .long w]))] = X ++ va_pl (LP ++ [r]) (fe (va_up v r (u, w))) := by
  rw [List.append_assoc, va_pl_push h]
  refine congrArg (X ++ ·) (va_pl_congr fun a => ?_)
  by_cases ha : a = r
  · subst ha
    simp [va_up, fe]
  · simp [va_up, fe, ha]
theorem freshL {X : va_W} {LP : List Nat} {v : Nat → Int64 × Int64} {r : Nat} (hP : va_P (dC, dI) vwCl (X ++ va_pl LP (fe v)) H) (h : H.size ≤ r) : r ∉ LP := va_pl_fresh hP h
end CB

/-! the class's small static methods -/
def atF (n : Nat) (f : Nat → Int32) (i : Int32) : Int32 := if i < 0 then 0 else if nI n ≤ i then 0 else f i.toNatClampNeg
def putF (n : Nat) (f : Nat → Int32) (i x : Int32) : Nat → Int32 := if i < 0 then f else if nI n ≤ i then f else upd f i.toNatClampNeg x
def isInF (s m : Int32) : Int32 := if (s >>> (m &&& 31)) &&& 1 = 1 then 1 else 0
def withinF (v a b : Int32) : Int32 := if v < a then 0 else if b < v then 0 else 1
def cdL : Nat → Int64 → Int64 → Int64
  | 0, a, _ => a
  | k + 1, a, b => if b = 0 then a else cdL k b (a - a / b * b)
def cdF (x y : Int64) : Int64 := cdL 1000 (if x < 0 then -x else x) (if y < 0 then -y else y)
theorem ab0 {x : Int64} (c : 0 ≤ x) : x = if x < 0 then -x else x := (if_neg (Int64.not_lt.mpr c)).symm
theorem ab1 {x : Int64} (c : ¬ 0 ≤ x) : -x = if x < 0 then -x else x := (if_pos (Int64.not_le.mp c)).symm
theorem isInF_01 (s m : Int32) : narrow .boolean (.int (isInF s m)) = .int (isInF s m) := by
  unfold isInF
  split <;> rfl
theorem vpin_of {i : Int32} {n : Nat} (hn : n < 2 ^ 31) (h0 : ¬ i < 0) (h1 : ¬ nI n ≤ i) : vp_in i n := by
  obtain ⟨j, hj, rfl⟩ := nI_of h0
  have : ¬ n ≤ j := fun h => h1 ((nI_leI hn hj).mpr h)
  exact vp_in_nI (by omega) hn

set_option maxHeartbeats 4000000 in
set_option maxRecDepth 100000 in
theorem c_X5_isWithin (l : Launch) (dC : Nat → ClassId) (dI : Nat → Nat → Nat) (cI cF : ClassId) (tr : List (ClassId × FieldType)) (sz : Nat) (v : Int32) (a : Int32) (b : Int32) : Met l yX5_isWithin wsX5_isWithin ({ frames := 0, cells := 0, slots := 0, locals := 0 } : Room) (cPc dC dI ((cI, .int) :: (cF, .object RX1) :: tr) sz ([]) [.int v, .int a, .int b]) (va_Qi (fun (r : Int32) (_ : Unit) => r = withinF v a b) (fun _ _ => True) (va_A ([]) sz)) 0 0 (va_A ([]) sz) := by
  refine Met.ofW (cc := cX5_isWithin) (maxL := 3) (ret := (some .boolean)) (by decide) rfl ?_
  intro p e s m args below meth c s₁ B hml hv
  obtain ⟨rfl, hsz, hP, hK, hN⟩ := hv
  have hx := B.exec
  have hb := B.bytes
  have hr := B.returns
  have hts := atoms_spec (ws := wsX5_isWithin) B.pre
  have hown : s.vm.findClass RX5 = some m.cls := findClass_of_methodNamed B.named
  have hlocks := B.notSynchronized
  subst hsz
  generalize hAe : va_A [] s.heap.size = A
  have hA : ∀ q : Nat, s.heap.size ≤ q → A q := fun q h => by rw [← hAe]; exact Or.inr h
  have hS : va_S A s.heap s.heap [] := va_S.rf
  have hAn : ∀ q : Nat, q < s.heap.size → ¬ A q := fun q h => by rw [← hAe]; exact notZ h
  have hAg : ∀ q : Nat, A q → s.heap.size ≤ q := fun q h => geZ (hAe ▸ h)
  have hR0 : va_P (dC, dI) vwCl ([]) s.heap := hP
  have hR : va_P (dC, dI) vwCl ([]) s.heap := hP
  have hP : va_P (dC, dI) vwCl [] s.heap := fun k q h => by simp at h
  have hD : va_D A [] := ⟨fun i j p q h => by simp at h, fun k q h => by simp at h⟩
  have hl := lv_entry ([.int v, .int a, .int b]) (n := 3) (Nat.le_of_ble_eq_true rfl)
  rw [lg_entry_eq]
  generalize (lg_sl ([.int v, .int a, .int b]) ++ List.replicate (3 - (lg_sl ([.int v, .int a, .int b])).length) Slot.unset).toArray = ls at hl ⊢
  have hl : lv_has ls 3 [(0, .int v), (1, .int a), (2, .int b)] := hl
  refine lv_iload_n hx hb dX5_isWithin_0 rfl (lv_at hl 0 rfl) ?_
  refine lv_iload_n hx hb dX5_isWithin_1 rfl (lv_at hl 1 rfl) ?_
  refine lv_icmp_lt (tgt := 14) hx hb dX5_isWithin_2 (by decide) (fun c_1 => ?_) (fun c_1 => ?_)
  · refine lv_iconst (v := 0) hx hb dX5_isWithin_14 (by decide) ?_
    refine W.widen (k := 0) (n := 0) (by omega) (by omega) ?_
    exact W.zret (v := 0) hx hb hr (by first | rfl | simp [narrow] | assumption) (fun t ht hW => ⟨⟨0, (), rfl, (by first | (simp [withinF, c_1]; done) | contradiction), trivial⟩, hS.F ht⟩) hS.2.2 dX5_isWithin_15
  · refine lv_iload_n hx hb dX5_isWithin_5 rfl (lv_at hl 0 rfl) ?_
    refine lv_iload_n hx hb dX5_isWithin_6 rfl (lv_at hl 2 rfl) ?_
    refine lv_icmp_gt (tgt := 14) hx hb dX5_isWithin_7 (by decide) (fun c_2 => ?_) (fun c_2 => ?_)
    · refine lv_iconst (v := 0) hx hb dX5_isWithin_14 (by decide) ?_
      refine W.widen (k := 0) (n := 0) (by omega) (by omega) ?_
      exact W.zret (v := 0) hx hb hr (by first | rfl | simp [narrow] | assumption) (fun t ht hW => ⟨⟨0, (), rfl, (by first | (simp [withinF, c_1, c_2]; done) | contradiction), trivial⟩, hS.F ht⟩) hS.2.2 dX5_isWithin_15
    · refine lv_iconst (v := 1) hx hb dX5_isWithin_10 (by decide) ?_
      refine lv_goto (tgt := 15) hx hb dX5_isWithin_11 (by decide) ?_
      refine W.widen (k := 0) (n := 0) (by omega) (by omega) ?_
      exact W.zret (v := 1) hx hb hr (by first | rfl | simp [narrow] | assumption) (fun t ht hW => ⟨⟨1, (), rfl, (by first | (simp [withinF, c_1, c_2]; done) | contradiction), trivial⟩, hS.F ht⟩) hS.2.2 dX5_isWithin_15

set_option maxHeartbeats 4000000 in
set_option maxRecDepth 100000 in
theorem c_X5_at (l : Launch) (dC : Nat → ClassId) (dI : Nat → Nat → Nat) (cI cF : ClassId) (tr : List (ClassId × FieldType)) (sz : Nat) (h : Nat) (n : Nat) (f : Nat → Int32) (i : Int32) (hn : n < 2 ^ 31) : Met l yX5_at wsX5_at ({ frames := 0, cells := 0, slots := 0, locals := 0 } : Room) (cPc dC dI ((cI, .int) :: (cF, .object RX1) :: tr) sz ([(h, .inl (cI, n, .inl (f)))]) [.ref h, .int i]) (va_Qi (fun (r : Int32) (_ : Unit) => r = atF n f i) (fun _ _ => True) (va_A ([]) sz)) 0 0 (va_A ([]) sz) := by
  refine Met.ofW (cc := cX5_at) (maxL := 2) (ret := (some .int)) (by decide) rfl ?_
  intro p e s m args below meth c s₁ B hml hv
  obtain ⟨rfl, hsz, hP, hK, hN⟩ := hv
  have hx := B.exec
  have hb := B.bytes
  have hr := B.returns
  have hts := atoms_spec (ws := wsX5_at) B.pre
  have hown : s.vm.findClass RX5 = some m.cls := findClass_of_methodNamed B.named
  have hlocks := B.notSynchronized
  subst hsz
  generalize hAe : va_A [] s.heap.size = A
  have hA : ∀ q : Nat, s.heap.size ≤ q → A q := fun q h => by rw [← hAe]; exact Or.inr h
  have hS : va_S A s.heap s.heap [] := va_S.rf
  have hAn : ∀ q : Nat, q < s.heap.size → ¬ A q := fun q h => by rw [← hAe]; exact notZ h
  have hAg : ∀ q : Nat, A q → s.heap.size ≤ q := fun q h => geZ (hAe ▸ h)
  have hR0 : va_P (dC, dI) vwCl ([(h, .inl (cI, n, .inl (f)))]) s.heap := hP
  have hR : va_P (dC, dI) vwCl ([(h, .inl (cI, n, .inl (f)))]) s.heap := hP
  have hP : va_P (dC, dI) vwCl [] s.heap := fun k q h => by simp at h
  have hD : va_D A [] := ⟨fun i j p q h => by simp at h, fun k q h => by simp at h⟩
  have hl := lv_entry ([.ref h, .int i]) (n := 2) (Nat.le_of_ble_eq_true rfl)
  rw [lg_entry_eq]
  generalize (lg_sl ([.ref h, .int i]) ++ List.replicate (2 - (lg_sl ([.ref h, .int i])).length) Slot.unset).toArray = ls at hl ⊢
  have hl : lv_has ls 2 [(0, .ref h), (1, .int i)] := hl
  refine lv_iload_n hx hb dX5_at_0 rfl (lv_at hl 1 rfl) ?_
  refine lv_if_lt (tgt := 16) hx hb dX5_at_1 (by decide) (fun c_1 => ?_) (fun c_1 => ?_)
  · refine lv_iconst (v := 0) hx hb dX5_at_16 (by decide) ?_
    refine W.widen (k := 0) (n := 0) (by omega) (by omega) ?_
    exact W.iret (v := 0) hx hb hr (fun t ht hW => ⟨⟨0, (), rfl, (by first | (simp [atF, c_1]; done) | contradiction), trivial⟩, hS.F ht⟩) hS.2.2 dX5_at_17
  · refine lv_iload_n hx hb dX5_at_4 rfl (lv_at hl 1 rfl) ?_
    refine lv_aload_n hx hb dX5_at_5 rfl (lv_at hl 0 rfl) ?_
    refine va_alen (D := (dC, dI)) (v := nI n) hx hb hK hR 0 0 rfl rfl rfl dX5_at_6 ?_
    refine lv_icmp_ge (tgt := 16) hx hb dX5_at_7 (by decide) (fun c_2 => ?_) (fun c_2 => ?_)
    · refine lv_iconst (v := 0) hx hb dX5_at_16 (by decide) ?_
      refine W.widen (k := 0) (n := 0) (by omega) (by omega) ?_
      exact W.iret (v := 0) hx hb hr (fun t ht hW => ⟨⟨0, (), rfl, (by first | (simp [atF, c_1, c_2]; done) | contradiction), trivial⟩, hS.F ht⟩) hS.2.2 dX5_at_17
    · refine lv_aload_n hx hb dX5_at_10 rfl (lv_at hl 0 rfl) ?_
      refine lv_iload_n hx hb dX5_at_11 rfl (lv_at hl 1 rfl) ?_
      refine va_iald (D := (dC, dI)) hx hb hK hR 0 0 rfl rfl (vpin_of hn c_1 c_2) dX5_at_12 ?_
      refine lv_goto (tgt := 17) hx hb dX5_at_13 (by decide) ?_
      refine W.widen (k := 0) (n := 0) (by omega) (by omega) ?_
      exact W.iret (v := f (i).toNatClampNeg) hx hb hr (fun t ht hW => ⟨⟨f (i).toNatClampNeg, (), rfl, (by first | (simp [atF, c_1, c_2]; done) | contradiction), trivial⟩, hS.F ht⟩) hS.2.2 dX5_at_17

set_option maxHeartbeats 4000000 in
set_option maxRecDepth 100000 in
theorem c_X5_put (l : Launch) (dC : Nat → ClassId) (dI : Nat → Nat → Nat) (cI cF : ClassId) (tr : List (ClassId × FieldType)) (sz : Nat) (h : Nat) (n : Nat) (f : Nat → Int32) (i : Int32) (x : Int32) (hn : n < 2 ^ 31) : Met l yX5_put wsX5_put ({ frames := 0, cells := 0, slots := 0, locals := 0 } : Room) (cPd dC dI ((cI, .int) :: (cF, .object RX1) :: tr) sz ([(h, .inl (cI, n, .inl (f)))]) [.ref h, .int i, .int x]) (va_Qv (fun _ : Unit => True) (fun _ t => va_P (dC, dI) vwCl ([(h, .inl (cI, n, .inl (putF n f i x)))]) t.heap ∧ va_D (va_A ([(h, .inl (cI, n, .inl (f)))]) sz) ([(h, .inl (cI, n, .inl (putF n f i x)))])) (va_A ([(h, .inl (cI, n, .inl (f)))]) sz)) 0 0 (va_A ([(h, .inl (cI, n, .inl (f)))]) sz) := by
  refine Met.ofW (cc := cX5_put) (maxL := 3) (ret := none) (by decide) rfl ?_
  intro p e s m args below meth c s₁ B hml hv
  obtain ⟨rfl, hsz, hP, hK, hN, hD0⟩ := hv
  have hx := B.exec
  have hb := B.bytes
  have hr := B.returns
  have hts := atoms_spec (ws := wsX5_put) B.pre
  have hown : s.vm.findClass RX5 = some m.cls := findClass_of_methodNamed B.named
  have hlocks := B.notSynchronized
  subst hsz
  have hD := hD0.self (sz := s.heap.size)
  generalize hAe : va_A ([(h, .inl (cI, n, .inl (f)))]) s.heap.size = A at hD ⊢
  have hA : ∀ q : Nat, s.heap.size ≤ q → A q := fun q h => by rw [← hAe]; exact Or.inr h
  have hS : va_S A s.heap s.heap [] := va_S.rf
  have hP : va_P (dC, dI) vwCl ([(h, .inl (cI, n, .inl (f)))]) s.heap := hP
  have hl := lv_entry ([.ref h, .int i, .int x]) (n := 3) (Nat.le_of_ble_eq_true rfl)
  rw [lg_entry_eq]
  generalize (lg_sl ([.ref h, .int i, .int x]) ++ List.replicate (3 - (lg_sl ([.ref h, .int i, .int x])).length) Slot.unset).toArray = ls at hl ⊢
  have hl : lv_has ls 3 [(0, .ref h), (1, .int i), (2, .int x)] := hl
  refine lv_iload_n hx hb dX5_put_0 rfl (lv_at hl 1 rfl) ?_
  refine lv_if_lt (tgt := 14) hx hb dX5_put_1 (by decide) (fun c_1 => ?_) (fun c_1 => ?_)
  · refine W.widen (k := 0) (n := 0) (by omega) (by omega) ?_
    have eq_2 : ([(h, .inl (cI, n, .inl (f)))] : va_W) = [(h, .inl (cI, n, .inl (putF n f i x)))] := (by first | rfl | (simp [putF, c_1]; done) | contradiction)
    rw [eq_2] at hP hD
    exact W.vret hx hb hr (fun t ht hW => ⟨⟨(), rfl, trivial, ⟨by rw [ht]; exact hP, hAe ▸ hD⟩⟩, hS.F ht⟩) hS.2.2 dX5_put_14
  · refine lv_iload_n hx hb dX5_put_4 rfl (lv_at hl 1 rfl) ?_
    refine lv_aload_n hx hb dX5_put_5 rfl (lv_at hl 0 rfl) ?_
    refine va_alen (D := (dC, dI)) (v := nI n) hx hb hK hP 0 0 rfl rfl rfl dX5_put_6 ?_
    refine lv_icmp_ge (tgt := 14) hx hb dX5_put_7 (by decide) (fun c_3 => ?_) (fun c_3 => ?_)
    · refine W.widen (k := 0) (n := 0) (by omega) (by omega) ?_
      have eq_4 : ([(h, .inl (cI, n, .inl (f)))] : va_W) = [(h, .inl (cI, n, .inl (putF n f i x)))] := (by first | rfl | (simp [putF, c_1, c_3]; done) | contradiction)
      rw [eq_4] at hP hD
      exact W.vret hx hb hr (fun t ht hW => ⟨⟨(), rfl, trivial, ⟨by rw [ht]; exact hP, hAe ▸ hD⟩⟩, hS.F ht⟩) hS.2.2 dX5_put_14
    · refine lv_aload_n hx hb dX5_put_10 rfl (lv_at hl 0 rfl) ?_
      refine lv_iload_n hx hb dX5_put_11 rfl (lv_at hl 1 rfl) ?_
      refine lv_iload_n hx hb dX5_put_12 rfl (lv_at hl 2 rfl) ?_
      refine va_iast (D := (dC, dI)) hx hb hK hP hD hS 0 0 rfl rfl (vpin_of hn c_1 c_3) dX5_put_13 (fun H locs hP hD hS => ?_)
      have hP : va_P (dC, dI) vwCl ([(h, .inl (cI, n, .inl (upd f (i).toNatClampNeg x)))]) H := hP
      have hD : va_D A ([(h, .inl (cI, n, .inl (upd f (i).toNatClampNeg x)))]) := hD
      refine W.widen (k := 0) (n := 0) (by omega) (by omega) ?_
      have eq_5 : ([(h, .inl (cI, n, .inl (upd f (i).toNatClampNeg x)))] : va_W) = [(h, .inl (cI, n, .inl (putF n f i x)))] := (by first | rfl | (simp [putF, c_1, c_3]; done) | contradiction)
      rw [eq_5] at hP hD
      exact W.vret hx hb hr (fun t ht hW => ⟨⟨(), rfl, trivial, ⟨by rw [ht]; exact hP, hAe ▸ hD⟩⟩, hS.F ht⟩) hS.2.2 dX5_put_14

set_option maxHeartbeats 4000000 in
set_option maxRecDepth 100000 in
theorem c_X5_isIn (l : Launch) (dC : Nat → ClassId) (dI : Nat → Nat → Nat) (cI cF : ClassId) (tr : List (ClassId × FieldType)) (sz : Nat) (x : Int32) (y : Int32) : Met l yX5_isIn wsX5_isIn ({ frames := 0, cells := 0, slots := 0, locals := 0 } : Room) (cPc dC dI ((cI, .int) :: (cF, .object RX1) :: tr) sz ([]) [.int x, .int y]) (va_Qi (fun (r : Int32) (_ : Unit) => r = isInF x y) (fun _ _ => True) (va_A ([]) sz)) 0 0 (va_A ([]) sz) := by
  refine Met.ofW (cc := cX5_isIn) (maxL := 2) (ret := (some .boolean)) (by decide) rfl ?_
  intro p e s m args below meth c s₁ B hml hv
  obtain ⟨rfl, hsz, hP, hK, hN⟩ := hv
  have hx := B.exec
  have hb := B.bytes
  have hr := B.returns
  have hts := atoms_spec (ws := wsX5_isIn) B.pre
  have hown : s.vm.findClass RX5 = some m.cls := findClass_of_methodNamed B.named
  have hlocks := B.notSynchronized
  subst hsz
  generalize hAe : va_A [] s.heap.size = A
  have hA : ∀ q : Nat, s.heap.size ≤ q → A q := fun q h => by rw [← hAe]; exact Or.inr h
  have hS : va_S A s.heap s.heap [] := va_S.rf
  have hAn : ∀ q : Nat, q < s.heap.size → ¬ A q := fun q h => by rw [← hAe]; exact notZ h
  have hAg : ∀ q : Nat, A q → s.heap.size ≤ q := fun q h => geZ (hAe ▸ h)
  have hR0 : va_P (dC, dI) vwCl ([]) s.heap := hP
  have hR : va_P (dC, dI) vwCl ([]) s.heap := hP
  have hP : va_P (dC, dI) vwCl [] s.heap := fun k q h => by simp at h
  have hD : va_D A [] := ⟨fun i j p q h => by simp at h, fun k q h => by simp at h⟩
  have hl := lv_entry ([.int x, .int y]) (n := 2) (Nat.le_of_ble_eq_true rfl)
  rw [lg_entry_eq]
  generalize (lg_sl ([.int x, .int y]) ++ List.replicate (2 - (lg_sl ([.int x, .int y])).length) Slot.unset).toArray = ls at hl ⊢
  have hl : lv_has ls 2 [(0, .int x), (1, .int y)] := hl
  refine lv_iload_n hx hb dX5_isIn_0 rfl (lv_at hl 0 rfl) ?_
  refine lv_iload_n hx hb dX5_isIn_1 rfl (lv_at hl 1 rfl) ?_
  refine lv_ishr hx hb dX5_isIn_2 ?_
  refine lv_iconst (v := 1) hx hb dX5_isIn_3 (by decide) ?_
  refine lv_iand hx hb dX5_isIn_4 ?_
  refine lv_iconst (v := 1) hx hb dX5_isIn_5 (by decide) ?_
  refine lv_icmp_ne (tgt := 13) hx hb dX5_isIn_6 (by decide) (fun c_1 => ?_) (fun c_1 => ?_)
  · refine lv_iconst (v := 0) hx hb dX5_isIn_13 (by decide) ?_
    refine W.widen (k := 0) (n := 0) (by omega) (by omega) ?_
    exact W.zret (v := 0) hx hb hr (by first | rfl | simp [narrow] | assumption) (fun t ht hW => ⟨⟨0, (), rfl, (by first | (simp [isInF, c_1]; done) | contradiction), trivial⟩, hS.F ht⟩) hS.2.2 dX5_isIn_14
  · refine lv_iconst (v := 1) hx hb dX5_isIn_9 (by decide) ?_
    refine lv_goto (tgt := 14) hx hb dX5_isIn_10 (by decide) ?_
    refine W.widen (k := 0) (n := 0) (by omega) (by omega) ?_
    exact W.zret (v := 1) hx hb hr (by first | rfl | simp [narrow] | assumption) (fun t ht hW => ⟨⟨1, (), rfl, (by first | (simp [isInF, c_1]; done) | contradiction), trivial⟩, hS.F ht⟩) hS.2.2 dX5_isIn_14

theorem cdL_step {k : Nat} {a b : Int64} (h : 0 < k) (hb : ¬ b = 0) : cdL k a b = cdL (k - 1) b (a - a / b * b) := by
  cases k with
  | zero => omega
  | succ k => simp [cdL, hb]
theorem cdPos {k : Nat} {st : Int32} (h : st = nI (1000 - k)) (c : ¬ (1000 : Int32) ≤ st) : 0 < k := by
  rcases Nat.eq_zero_or_pos k with z | z
  · subst z
    exact absurd (by rw [h]; decide) c
  · exact z
theorem cdEnd0 {k : Nat} {st : Int32} {a b : Int64} (h : st = nI (1000 - k)) (hk : k ≤ 1000) (c : (1000 : Int32) ≤ st) : cdL k a b = a := by
  have h2 : k = 0 := by
    rw [h, show (1000 : Int32) = nI 1000 from rfl, nI_leI (by omega) (by omega)] at c
    omega
  subst h2
  rfl
theorem cdEndB {k : Nat} {a b : Int64} (hb : b = 0) : cdL k a b = a := by
  cases k with
  | zero => rfl
  | succ k => simp [cdL, hb]

set_option maxHeartbeats 4000000 in
set_option maxRecDepth 100000 in
theorem c_X5_commonDivisor (l : Launch) (dC : Nat → ClassId) (dI : Nat → Nat → Nat) (cI cF : ClassId) (tr : List (ClassId × FieldType)) (sz : Nat) (x : Int64) (y : Int64) : Met l yX5_commonDivisor wsX5_commonDivisor ({ frames := 0, cells := 0, slots := 0, locals := 0 } : Room) (cPc dC dI ((cI, .int) :: (cF, .object RX1) :: tr) sz ([]) [.long x, .long y]) (va_Ql (fun (r : Int64) (_ : Unit) => r = cdF x y) (fun _ _ => True) (va_A ([]) sz)) 0 0 (va_A ([]) sz) := by
  refine Met.ofW (cc := cX5_commonDivisor) (maxL := 11) (ret := (some .long)) (by decide) rfl ?_
  intro p e s m args below meth c s₁ B hml hv
  obtain ⟨rfl, hsz, hP, hK, hN⟩ := hv
  have hx := B.exec
  have hb := B.bytes
  have hr := B.returns
  have hts := atoms_spec (ws := wsX5_commonDivisor) B.pre
  have hown : s.vm.findClass RX5 = some m.cls := findClass_of_methodNamed B.named
  have hlocks := B.notSynchronized
  subst hsz
  generalize hAe : va_A [] s.heap.size = A
  have hA : ∀ q : Nat, s.heap.size ≤ q → A q := fun q h => by rw [← hAe]; exact Or.inr h
  have hS : va_S A s.heap s.heap [] := va_S.rf
  have hAn : ∀ q : Nat, q < s.heap.size → ¬ A q := fun q h => by rw [← hAe]; exact notZ h
  have hAg : ∀ q : Nat, A q → s.heap.size ≤ q := fun q h => geZ (hAe ▸ h)
  have hR0 : va_P (dC, dI) vwCl ([]) s.heap := hP
  have hR : va_P (dC, dI) vwCl ([]) s.heap := hP
  have hP : va_P (dC, dI) vwCl [] s.heap := fun k q h => by simp at h
  have hD : va_D A [] := ⟨fun i j p q h => by simp at h, fun k q h => by simp at h⟩
  have hl := lv_entry ([.long x, .long y]) (n := 11) (Nat.le_of_ble_eq_true rfl)
  rw [lg_entry_eq]
  generalize (lg_sl ([.long x, .long y]) ++ List.replicate (11 - (lg_sl ([.long x, .long y])).length) Slot.unset).toArray = ls at hl ⊢
  have hl : lv_has ls 11 [(0, .long x), (2, .long y)] := hl
  have K12 : ∀ (a0 : Int64), (a0 = if x < 0 then -x else x) → ∀ (H : Heap) (locs : List Loc) (ls : Array Slot), va_P (dC, dI) vwCl ([]) H → va_S A s.heap H locs → lv_has ls 11 [(0, .long x), (2, .long y)] → W p l e (headSpec wsX5_commonDivisor ({ frames := 0, cells := 0, slots := 0, locals := 0 } : Room)).room s m #[Value.long x, Value.long y] below meth c H locs (0) (0) (MQ below (va_Ql (fun (r : Int64) (_ : Unit) => r = cdF x y) (fun _ _ => True) A) #[Value.long x, Value.long y] s 0 0 A) (F0 m 12 ls [.long a0]) := by
    intro a0 ha H locs ls hP hS hl
    have hR := keepR hR0 hS hAn
    have K26 : ∀ (b0 : Int64), (b0 = if y < 0 then -y else y) → ∀ (H : Heap) (locs : List Loc) (ls : Array Slot), va_P (dC, dI) vwCl ([]) H → va_S A s.heap H locs → lv_has ls 11 [(0, .long x), (2, .long y), (4, .long a0)] → W p l e (headSpec wsX5_commonDivisor ({ frames := 0, cells := 0, slots := 0, locals := 0 } : Room)).room s m #[Value.long x, Value.long y] below meth c H locs (0) (0) (MQ below (va_Ql (fun (r : Int64) (_ : Unit) => r = cdF x y) (fun _ _ => True) A) #[Value.long x, Value.long y] s 0 0 A) (F0 m 26 ls [.long b0]) := by
      intro b0 hb0 H locs ls hP hS hl
      have hR := keepR hR0 hS hAn
      refine lv_lstore (lv' := [(6, .long b0), (0, .long x), (2, .long y), (4, .long a0)]) hx hb dX5_commonDivisor_26 hl (by decide) rfl (fun ls hl => ?_)
      refine lv_iconst (v := 0) hx hb dX5_commonDivisor_28 (by decide) ?_
      refine lv_istore (lv' := [(8, .int 0), (6, .long b0), (0, .long x), (2, .long y), (4, .long a0)]) hx hb dX5_commonDivisor_29 hl (by decide) rfl (fun ls hl => ?_)
      have K31 : ∀ (NN : Nat), ∀ (k : Nat) (st : Int32) (a : Int64) (b : Int64), (k) < NN → (st = nI (1000 - k)) → (cdL k a b = cdF x y) → (k ≤ 1000) → ∀ (H : Heap) (locs : List Loc) (ls : Array Slot), va_P (dC, dI) vwCl ([]) H → va_S A s.heap H locs → lv_has ls 11 [(4, .long a), (6, .long b), (8, .int st)] → W p l e (headSpec wsX5_commonDivisor ({ frames := 0, cells := 0, slots := 0, locals := 0 } : Room)).room s m #[Value.long x, Value.long y] below meth c H locs (0) (0) (MQ below (va_Ql (fun (r : Int64) (_ : Unit) => r = cdF x y) (fun _ _ => True) A) #[Value.long x, Value.long y] s 0 0 A) (F0 m 31 ls []) := by
        intro NN
        induction NN with
        | zero =>
          intro k st a b hmu hst hcd hkk H locs ls hP hS hl
          exact absurd hmu (Nat.not_lt_zero _)
        | succ NN ih31 =>
          intro k st a b hmu hst hcd hkk H locs ls hP hS hl
          have hR := keepR hR0 hS hAn
          refine lv_iload hx hb dX5_commonDivisor_31 (lv_at hl 2 rfl) ?_
          refine lv_sipush (v := 1000) hx hb dX5_commonDivisor_33 (by decide) ?_
          refine lv_icmp_ge (tgt := 67) hx hb dX5_commonDivisor_36 (by decide) (fun c_1 => ?_) (fun c_1 => ?_)
          · refine lv_lload hx hb dX5_commonDivisor_67 (lv_at hl 0 rfl) ?_
            refine W.widen (k := 0) (n := 0) (by omega) (by omega) ?_
            exact W.lret (v := a) hx hb hr (fun t ht hW => ⟨⟨a, (), rfl, (by first | rw [← hcd, cdEnd0 hst hkk c_1] | rw [← hcd, cdEndB c_1]), trivial⟩, hS.F ht⟩) hS.2.2 dX5_commonDivisor_69
          · have hk0 : 0 < k := cdPos hst c_1
            refine lv_lload hx hb dX5_commonDivisor_39 (lv_at hl 1 rfl) ?_
            refine lv_lconst (v := 0) hx hb dX5_commonDivisor_41 (by decide) ?_
            refine W.lcmp hx hb dX5_commonDivisor_42 ?_
            refine lv_if_eq (tgt := 67) hx hb dX5_commonDivisor_43 (by decide) (fun c_2 => ?_) (fun c_2 => ?_)
            · rw [lg_cmp_eq] at c_2
              refine lv_lload hx hb dX5_commonDivisor_67 (lv_at hl 0 rfl) ?_
              refine W.widen (k := 0) (n := 0) (by omega) (by omega) ?_
              exact W.lret (v := a) hx hb hr (fun t ht hW => ⟨⟨a, (), rfl, (by first | rw [← hcd, cdEnd0 hst hkk c_2] | rw [← hcd, cdEndB c_2]), trivial⟩, hS.F ht⟩) hS.2.2 dX5_commonDivisor_69
            · rw [lg_cmp_eq] at c_2
              refine lv_lload hx hb dX5_commonDivisor_46 (lv_at hl 0 rfl) ?_
              refine lv_lload hx hb dX5_commonDivisor_48 (lv_at hl 1 rfl) ?_
              refine lv_lrem hx hb dX5_commonDivisor_50 (by assumption) ?_
              refine lv_lstore (lv' := [(9, .long (a - a / b * b)), (4, .long a), (6, .long b), (8, .int st)]) hx hb dX5_commonDivisor_51 hl (by decide) rfl (fun ls hl => ?_)
              refine lv_lload hx hb dX5_commonDivisor_53 (lv_at hl 2 rfl) ?_
              refine lv_lstore (lv' := [(4, .long b), (9, .long (a - a / b * b)), (6, .long b), (8, .int st)]) hx hb dX5_commonDivisor_55 hl (by decide) rfl (fun ls hl => ?_)
              refine lv_lload hx hb dX5_commonDivisor_57 (lv_at hl 1 rfl) ?_
              refine lv_lstore (lv' := [(6, .long (a - a / b * b)), (4, .long b), (9, .long (a - a / b * b)), (8, .int st)]) hx hb dX5_commonDivisor_59 hl (by decide) rfl (fun ls hl => ?_)
              refine lv_iinc (v := st + 1) (lv' := [(8, .int (st + 1)), (6, .long (a - a / b * b)), (4, .long b), (9, .long (a - a / b * b))]) hx hb dX5_commonDivisor_61 hl (k := 3) rfl rfl (by decide) rfl (fun ls hl => ?_)
              refine lv_goto (tgt := 31) hx hb dX5_commonDivisor_64 (by decide) ?_
              refine W.widen (k := 0) (n := 0) (by omega) (by omega) ?_
              exact ih31 (k - 1) (st + 1) b (a - a / b * b) (by omega) (by rw [hst, nI_1]; exact congrArg nI (by omega)) (by rw [← hcd]; exact (cdL_step hk0 c_2).symm) (by omega) _ _ ls hP hS (lv_sub hl [2, 1, 0] rfl)
      refine W.widen (k := 0) (n := 0) (by omega) (by omega) ?_
      exact K31 (1000 + 1) 1000 0 a0 b0 (by omega) (by rfl) (by rw [ha, hb0]; rfl) (by omega) _ _ ls hP hS (lv_sub hl [4, 1, 0] rfl)
    refine lv_lstore (lv' := [(4, .long a0), (0, .long x), (2, .long y)]) hx hb dX5_commonDivisor_12 hl (by decide) rfl (fun ls hl => ?_)
    refine lv_lload_n hx hb dX5_commonDivisor_14 rfl (lv_at hl 2 rfl) ?_
    refine lv_lconst (v := 0) hx hb dX5_commonDivisor_15 (by decide) ?_
    refine W.lcmp hx hb dX5_commonDivisor_16 ?_
    refine lv_if_ge (tgt := 25) hx hb dX5_commonDivisor_17 (by decide) (fun c_3 => ?_) (fun c_3 => ?_)
    · rw [lg_cmp_ge] at c_3
      refine lv_lload_n hx hb dX5_commonDivisor_25 rfl (lv_at hl 2 rfl) ?_
      refine W.widen (k := 0) (n := 0) (by omega) (by omega) ?_
      exact K26 y (by first | exact ab0 c_3 | exact ab1 c_3) _ _ ls hP hS (lv_sub hl [1, 2, 0] rfl)
    · rw [lg_cmp_ge] at c_3
      refine lv_lload_n hx hb dX5_commonDivisor_20 rfl (lv_at hl 2 rfl) ?_
      refine lv_lneg hx hb dX5_commonDivisor_21 ?_
      refine lv_goto (tgt := 26) hx hb dX5_commonDivisor_22 (by decide) ?_
      refine W.widen (k := 0) (n := 0) (by omega) (by omega) ?_
      exact K26 (-y) (by first | exact ab0 c_3 | exact ab1 c_3) _ _ ls hP hS (lv_sub hl [1, 2, 0] rfl)
  refine lv_lload_n hx hb dX5_commonDivisor_0 rfl (lv_at hl 0 rfl) ?_
  refine lv_lconst (v := 0) hx hb dX5_commonDivisor_1 (by decide) ?_
  refine W.lcmp hx hb dX5_commonDivisor_2 ?_
  refine lv_if_ge (tgt := 11) hx hb dX5_commonDivisor_3 (by decide) (fun c_4 => ?_) (fun c_4 => ?_)
  · rw [lg_cmp_ge] at c_4
    refine lv_lload_n hx hb dX5_commonDivisor_11 rfl (lv_at hl 0 rfl) ?_
    refine W.widen (k := 0) (n := 0) (by omega) (by omega) ?_
    exact K12 x (by first | exact ab0 c_4 | exact ab1 c_4) _ _ ls hP hS (lv_sub hl [0, 1] rfl)
  · rw [lg_cmp_ge] at c_4
    refine lv_lload_n hx hb dX5_commonDivisor_6 rfl (lv_at hl 0 rfl) ?_
    refine lv_lneg hx hb dX5_commonDivisor_7 ?_
    refine lv_goto (tgt := 12) hx hb dX5_commonDivisor_8 (by decide) ?_
    refine W.widen (k := 0) (n := 0) (by omega) (by omega) ?_
    exact K12 (-x) (by first | exact ab0 c_4 | exact ab1 c_4) _ _ ls hP hS (lv_sub hl [0, 1] rfl)
end
section
/-! fractions -/
def frU (u l : Int64) : Int64 := if cdF u l ≤ 1 then u else u / cdF u l
def frL (u l : Int64) : Int64 := if cdF u l ≤ 1 then l else l / cdF u l
def fmF (x y : Int64) : Int64 := if 0 ≤ x ^^^ y then x - x / y * y else if x - x / y * y = 0 then x - x / y * y else x - x / y * y + y
def wwU (u l : Int64) : Int64 := if l ≤ 0 then u else frU (fmF u l) l
def wwL (u l : Int64) : Int64 := if l ≤ 0 then l else frL (fmF u l) l
def ceF (u l : Int64) (k : Int32) : Int32 := if l ≤ 0 then 0 else (u * k.toInt64 / l).toInt32
def bcS (x : Int32) (k : Int32) : Int32 := (x.toUInt32 >>> (k.toUInt32 &&& Int32.toUInt32 31)).toInt32
def bc1 (x : Int32) : Int32 := x - (bcS x 1 &&& 1431655765)
def bc2 (x : Int32) : Int32 := (x &&& 858993459) + (bcS x 2 &&& 858993459)
def bc3 (x : Int32) : Int32 := (x + bcS x 4) &&& 252645135
def bc4 (x : Int32) : Int32 := x + bcS x 8
def bc5 (x : Int32) : Int32 := x + bcS x 16
def bcF (x : Int32) : Int32 := bc5 (bc4 (bc3 (bc2 (bc1 x)))) &&& 63
theorem neOfLe {x : Int64} (h : ¬ x ≤ 1) : ¬ x = 0 := fun z => h (by rw [z]; decide)
theorem neOfLe0 {x : Int64} (h : ¬ x ≤ 0) : ¬ x = 0 := fun z => h (by rw [z]; decide)

set_option maxHeartbeats 4000000 in
set_option maxRecDepth 100000 in
theorem c_J9_floorMod_f86c9 (l : Launch) (dC : Nat → ClassId) (dI : Nat → Nat → Nat) (cI cF : ClassId) (tr : List (ClassId × FieldType)) (sz : Nat) (x : Int64) (y : Int64) (hy : ¬ y = 0) : Met l yJ9_floorMod_f86c9 wsJ9_floorMod_f86c9 ({ frames := 0, cells := 0, slots := 0, locals := 0 } : Room) (cPc dC dI ((cI, .int) :: (cF, .object RX1) :: tr) sz ([]) [.long x, .long y]) (va_Ql (fun (r : Int64) (_ : Unit) => r = fmF x y) (fun _ _ => True) (va_A ([]) sz)) 0 0 (va_A ([]) sz) := by
  refine ofWF (cc := cJ9_floorMod_f86c9) (maxL := 6) (ret := (some .long)) (by decide +kernel) rfl ?_
  intro p e s m args below meth c s₁ B hml hv
  obtain ⟨rfl, hsz, hP, hK, hN⟩ := hv
  have hx := B.exec
  have hb := B.bytes
  have hr := B.returns
  have hts := atoms_spec (ws := wsJ9_floorMod_f86c9) B.pre
  have hown : s.vm.findClass RJ9 = some m.cls := findClass_of_methodNamed B.named
  have hlocks := B.notSynchronized
  subst hsz
  generalize hAe : va_A [] s.heap.size = A
  have hA : ∀ q : Nat, s.heap.size ≤ q → A q := fun q h => by rw [← hAe]; exact Or.inr h
  have hS : va_S A s.heap s.heap [] := va_S.rf
  have hAn : ∀ q : Nat, q < s.heap.size → ¬ A q := fun q h => by rw [← hAe]; exact notZ h
  have hAg : ∀ q : Nat, A q → s.heap.size ≤ q := fun q h => geZ (hAe ▸ h)
  have hR0 : va_P (dC, dI) vwCl ([]) s.heap := hP
  have hR : va_P (dC, dI) vwCl ([]) s.heap := hP
  have hP : va_P (dC, dI) vwCl [] s.heap := fun k q h => by simp at h
  have hD : va_D A [] := ⟨fun i j p q h => by simp at h, fun k q h => by simp at h⟩
  have hl := lv_entry ([.long x, .long y]) (n := 6) (Nat.le_of_ble_eq_true rfl)
  rw [lg_entry_eq]
  generalize (lg_sl ([.long x, .long y]) ++ List.replicate (6 - (lg_sl ([.long x, .long y])).length) Slot.unset).toArray = ls at hl ⊢
  have hl : lv_has ls 6 [(0, .long x), (2, .long y)] := hl
  refine lv_lload_n hx hb dJ9_floorMod_f86c9_0 rfl (lv_at hl 0 rfl) ?_
  refine lv_lload_n hx hb dJ9_floorMod_f86c9_1 rfl (lv_at hl 1 rfl) ?_
  refine lv_lrem hx hb dJ9_floorMod_f86c9_2 (by assumption) ?_
  refine lv_lstore (lv' := [(4, .long (x - x / y * y)), (0, .long x), (2, .long y)]) hx hb dJ9_floorMod_f86c9_3 hl (by decide) rfl (fun ls hl => ?_)
  refine lv_lload_n hx hb dJ9_floorMod_f86c9_5 rfl (lv_at hl 1 rfl) ?_
  refine lv_lload_n hx hb dJ9_floorMod_f86c9_6 rfl (lv_at hl 2 rfl) ?_
  refine lv_lxor hx hb dJ9_floorMod_f86c9_7 ?_
  refine lv_lconst (v := 0) hx hb dJ9_floorMod_f86c9_8 (by decide) ?_
  refine W.lcmp hx hb dJ9_floorMod_f86c9_9 ?_
  refine lv_if_ge (tgt := 25) hx hb dJ9_floorMod_f86c9_10 (by decide) (fun c_1 => ?_) (fun c_1 => ?_)
  · rw [lg_cmp_ge] at c_1
    refine lv_lload hx hb dJ9_floorMod_f86c9_25 (lv_at hl 0 rfl) ?_
    refine W.widen (k := 0) (n := 0) (by omega) (by omega) ?_
    exact W.lret (v := x - x / y * y) hx hb hr (fun t ht hW => ⟨⟨x - x / y * y, (), rfl, (by first | (simp [fmF, c_1]; done) | contradiction), trivial⟩, hS.F ht⟩) hS.2.2 dJ9_floorMod_f86c9_27
  · rw [lg_cmp_ge] at c_1
    refine lv_lload hx hb dJ9_floorMod_f86c9_13 (lv_at hl 0 rfl) ?_
    refine lv_lconst (v := 0) hx hb dJ9_floorMod_f86c9_15 (by decide) ?_
    refine W.lcmp hx hb dJ9_floorMod_f86c9_16 ?_
    refine lv_if_eq (tgt := 25) hx hb dJ9_floorMod_f86c9_17 (by decide) (fun c_2 => ?_) (fun c_2 => ?_)
    · rw [lg_cmp_eq] at c_2
      refine lv_lload hx hb dJ9_floorMod_f86c9_25 (lv_at hl 0 rfl) ?_
      refine W.widen (k := 0) (n := 0) (by omega) (by omega) ?_
      exact W.lret (v := x - x / y * y) hx hb hr (fun t ht hW => ⟨⟨x - x / y * y, (), rfl, (by first | (simp [fmF, c_1, c_2]; done) | contradiction), trivial⟩, hS.F ht⟩) hS.2.2 dJ9_floorMod_f86c9_27
    · rw [lg_cmp_eq] at c_2
      refine lv_lload hx hb dJ9_floorMod_f86c9_20 (lv_at hl 0 rfl) ?_
      refine lv_lload_n hx hb dJ9_floorMod_f86c9_22 rfl (lv_at hl 2 rfl) ?_
      refine lv_ladd hx hb dJ9_floorMod_f86c9_23 ?_
      refine W.widen (k := 0) (n := 0) (by omega) (by omega) ?_
      exact W.lret (v := (x - x / y * y) + y) hx hb hr (fun t ht hW => ⟨⟨(x - x / y * y) + y, (), rfl, (by first | (simp [fmF, c_1, c_2]; done) | contradiction), trivial⟩, hS.F ht⟩) hS.2.2 dJ9_floorMod_f86c9_24

set_option maxHeartbeats 4000000 in
set_option maxRecDepth 100000 in
theorem c_J6_bitCount_0f7a4 (l : Launch) (dC : Nat → ClassId) (dI : Nat → Nat → Nat) (cI cF : ClassId) (tr : List (ClassId × FieldType)) (sz : Nat) (x : Int32) : Met l yJ6_bitCount_0f7a4 wsJ6_bitCount_0f7a4 ({ frames := 0, cells := 0, slots := 0, locals := 0 } : Room) (cPc dC dI ((cI, .int) :: (cF, .object RX1) :: tr) sz ([]) [.int x]) (va_Qi (fun (r : Int32) (_ : Unit) => r = bcF x) (fun _ _ => True) (va_A ([]) sz)) 0 0 (va_A ([]) sz) := by
  refine ofWF (cc := cJ6_bitCount_0f7a4) (maxL := 1) (ret := (some .int)) (by decide +kernel) rfl ?_
  intro p e s m args below meth c s₁ B hml hv
  obtain ⟨rfl, hsz, hP, hK, hN⟩ := hv
  have hx := B.exec
  have hb := B.bytes
  have hr := B.returns
  have hts := atoms_spec (ws := wsJ6_bitCount_0f7a4) B.pre
  have hown : s.vm.findClass RJ6 = some m.cls := findClass_of_methodNamed B.named
  have hlocks := B.notSynchronized
  subst hsz
  generalize hAe : va_A [] s.heap.size = A
  have hA : ∀ q : Nat, s.heap.size ≤ q → A q := fun q h => by rw [← hAe]; exact Or.inr h
  have hS : va_S A s.heap s.heap [] := va_S.rf
  have hAn : ∀ q : Nat, q < s.heap.size → ¬ A q := fun q h => by rw [← hAe]; exact notZ h
  have hAg : ∀ q : Nat, A q → s.heap.size ≤ q := fun q h => geZ (hAe ▸ h)
  have hR0 : va_P (dC, dI) vwCl ([]) s.heap := hP
  have hR : va_P (dC, dI) vwCl ([]) s.heap := hP
  have hP : va_P (dC, dI) vwCl [] s.heap := fun k q h => by simp at h
  have hD : va_D A [] := ⟨fun i j p q h => by simp at h, fun k q h => by simp at h⟩
  have hl := lv_entry ([.int x]) (n := 1) (Nat.le_of_ble_eq_true rfl)
  rw [lg_entry_eq]
  generalize (lg_sl ([.int x]) ++ List.replicate (1 - (lg_sl ([.int x])).length) Slot.unset).toArray = ls at hl ⊢
  have hl : lv_has ls 1 [(0, .int x)] := hl
  have hw_k265 := hts (.constant RJ6 265 (1431655765)) (by decide +kernel)
  have hw_k266 := hts (.constant RJ6 266 (858993459)) (by decide +kernel)
  have hw_k267 := hts (.constant RJ6 267 (252645135)) (by decide +kernel)
  refine lv_iload_n hx hb dJ6_bitCount_0f7a4_0 rfl (lv_at hl 0 rfl) ?_
  refine lv_iload_n hx hb dJ6_bitCount_0f7a4_1 rfl (lv_at hl 0 rfl) ?_
  refine lv_iconst (v := 1) hx hb dJ6_bitCount_0f7a4_2 (by decide) ?_
  refine lv_iushr hx hb dJ6_bitCount_0f7a4_3 rfl ?_
  refine lv_ldcw hx hb hown hw_k265 dJ6_bitCount_0f7a4_4 ?_
  refine lv_iand hx hb dJ6_bitCount_0f7a4_7 ?_
  refine lv_isub hx hb dJ6_bitCount_0f7a4_8 ?_
  refine lv_topi (fun x1 ex1 => ?_)
  refine lv_istore_n (lv' := [(0, .int x1)]) hx hb dJ6_bitCount_0f7a4_9 rfl hl (by decide) rfl (fun ls hl => ?_)
  refine lv_iload_n hx hb dJ6_bitCount_0f7a4_10 rfl (lv_at hl 0 rfl) ?_
  refine lv_ldcw hx hb hown hw_k266 dJ6_bitCount_0f7a4_11 ?_
  refine lv_iand hx hb dJ6_bitCount_0f7a4_14 ?_
  refine lv_iload_n hx hb dJ6_bitCount_0f7a4_15 rfl (lv_at hl 0 rfl) ?_
  refine lv_iconst (v := 2) hx hb dJ6_bitCount_0f7a4_16 (by decide) ?_
  refine lv_iushr hx hb dJ6_bitCount_0f7a4_17 rfl ?_
  refine lv_ldcw hx hb hown hw_k266 dJ6_bitCount_0f7a4_18 ?_
  refine lv_iand hx hb dJ6_bitCount_0f7a4_21 ?_
  refine lv_iadd hx hb dJ6_bitCount_0f7a4_22 ?_
  refine lv_topi (fun x2 ex2 => ?_)
  refine lv_istore_n (lv' := [(0, .int x2)]) hx hb dJ6_bitCount_0f7a4_23 rfl hl (by decide) rfl (fun ls hl => ?_)
  refine lv_iload_n hx hb dJ6_bitCount_0f7a4_24 rfl (lv_at hl 0 rfl) ?_
  refine lv_iload_n hx hb dJ6_bitCount_0f7a4_25 rfl (lv_at hl 0 rfl) ?_
  refine lv_iconst (v := 4) hx hb dJ6_bitCount_0f7a4_26 (by decide) ?_
  refine lv_iushr hx hb dJ6_bitCount_0f7a4_27 rfl ?_
  refine lv_iadd hx hb dJ6_bitCount_0f7a4_28 ?_
  refine lv_ldcw hx hb hown hw_k267 dJ6_bitCount_0f7a4_29 ?_
  refine lv_iand hx hb dJ6_bitCount_0f7a4_32 ?_
  refine lv_topi (fun x3 ex3 => ?_)
  refine lv_istore_n (lv' := [(0, .int x3)]) hx hb dJ6_bitCount_0f7a4_33 rfl hl (by decide) rfl (fun ls hl => ?_)
  refine lv_iload_n hx hb dJ6_bitCount_0f7a4_34 rfl (lv_at hl 0 rfl) ?_
  refine lv_iload_n hx hb dJ6_bitCount_0f7a4_35 rfl (lv_at hl 0 rfl) ?_
  refine lv_bipush (v := 8) hx hb dJ6_bitCount_0f7a4_36 (by decide) ?_
  refine lv_iushr hx hb dJ6_bitCount_0f7a4_38 rfl ?_
  refine lv_iadd hx hb dJ6_bitCount_0f7a4_39 ?_
  refine lv_topi (fun x4 ex4 => ?_)
  refine lv_istore_n (lv' := [(0, .int x4)]) hx hb dJ6_bitCount_0f7a4_40 rfl hl (by decide) rfl (fun ls hl => ?_)
  refine lv_iload_n hx hb dJ6_bitCount_0f7a4_41 rfl (lv_at hl 0 rfl) ?_
  refine lv_iload_n hx hb dJ6_bitCount_0f7a4_42 rfl (lv_at hl 0 rfl) ?_
  refine lv_bipush (v := 16) hx hb dJ6_bitCount_0f7a4_43 (by decide) ?_
  refine lv_iushr hx hb dJ6_bitCount_0f7a4_45 rfl ?_
  refine lv_iadd hx hb dJ6_bitCount_0f7a4_46 ?_
  refine lv_topi (fun x5 ex5 => ?_)
  refine lv_istore_n (lv' := [(0, .int x5)]) hx hb dJ6_bitCount_0f7a4_47 rfl hl (by decide) rfl (fun ls hl => ?_)
  refine lv_iload_n hx hb dJ6_bitCount_0f7a4_48 rfl (lv_at hl 0 rfl) ?_
  refine lv_bipush (v := 63) hx hb dJ6_bitCount_0f7a4_49 (by decide) ?_
  refine lv_iand hx hb dJ6_bitCount_0f7a4_51 ?_
  refine W.widen (k := 0) (n := 0) (by omega) (by omega) ?_
  exact W.iret (v := x5 &&& 63) hx hb hr (fun t ht hW => ⟨⟨x5 &&& 63, (), rfl, (by rw [ex5, ex4, ex3, ex2, ex1]; rfl), trivial⟩, hS.F ht⟩) hS.2.2 dJ6_bitCount_0f7a4_52

set_option maxHeartbeats 4000000 in
set_option maxRecDepth 100000 in
theorem c_X1_init (l : Launch) (dC : Nat → ClassId) (dI : Nat → Nat → Nat) (cI cF : ClassId) (tr : List (ClassId × FieldType)) (sz : Nat) (h : Nat) (x0 : Int64) (y0 : Int64) (x : Int64) (y : Int64) : Met l yX1_init wsX1_init ({ frames := 1, cells := 0, slots := 0, locals := 30 } : Room) (cPd dC dI ((cI, .int) :: (cF, .object RX1) :: tr) sz ([(h, .inr (iX1, [.long x0, .long y0]))]) [.ref h, .long x, .long y]) (va_Qv (fun _ : Unit => True) (fun _ t => va_P (dC, dI) vwCl ([(h, .inr (iX1, [.long (frU x y), .long (frL x y)]))]) t.heap ∧ va_D (va_A ([(h, .inr (iX1, [.long x0, .long y0]))]) sz) ([(h, .inr (iX1, [.long (frU x y), .long (frL x y)]))])) (va_A ([(h, .inr (iX1, [.long x0, .long y0]))]) sz)) 0 0 (va_A ([(h, .inr (iX1, [.long x0, .long y0]))]) sz) := by
  refine Met.ofW (cc := cX1_init) (maxL := 7) (ret := none) (by decide) rfl ?_
  intro p e s m args below meth c s₁ B hml hv
  obtain ⟨rfl, hsz, hP, hK, hN, hD0⟩ := hv
  have hx := B.exec
  have hb := B.bytes
  have hr := B.returns
  have hts := atoms_spec (ws := wsX1_init) B.pre
  have hown : s.vm.findClass RX1 = some m.cls := findClass_of_methodNamed B.named
  have hlocks := B.notSynchronized
  have hin : meth.name = "<init>" := (name_of_methodNamed B.named B.method).1
  subst hsz
  have hD := hD0.self (sz := s.heap.size)
  generalize hAe : va_A ([(h, .inr (iX1, [.long x0, .long y0]))]) s.heap.size = A at hD ⊢
  have hA : ∀ q : Nat, s.heap.size ≤ q → A q := fun q h => by rw [← hAe]; exact Or.inr h
  have hS : va_S A s.heap s.heap [] := va_S.rf
  have hP : va_P (dC, dI) vwCl ([(h, .inr (iX1, [.long x0, .long y0]))]) s.heap := hP
  have hl := lv_entry ([.ref h, .long x, .long y]) (n := 7) (Nat.le_of_ble_eq_true rfl)
  rw [lg_entry_eq]
  generalize (lg_sl ([.ref h, .long x, .long y]) ++ List.replicate (7 - (lg_sl ([.ref h, .long x, .long y])).length) Slot.unset).toArray = ls at hl ⊢
  have hl : lv_has ls 7 [(0, .ref h), (1, .long x), (3, .long y)] := hl
  have hw_oi_l := hts (.methodLink RX1 1 objectInit) (by decide +kernel)
  have hw_oi_i := hts (.instanceMethod objectInit) (by decide +kernel)
  have hw_oi_c := hts (.code objectInit ⟨#[0xb1]⟩ 1 none) (by decide +kernel)
  have hw_iniX5 := hts (.initialized RX5) (by decide +kernel)
  have hw_staX5_commonDivisor := hts (.static yX5_commonDivisor) (by decide +kernel)
  have hfl_13 := hts (.fieldLink RX1 13 "Greenwheels$Fraction" "upper" "J") (by decide +kernel)
  have hin_X1 : ∀ w ∈ u_ws RX1 TX1 2, w ∈ wsX1_init := by decide +kernel
  have hfl_19 := hts (.fieldLink RX1 19 "Greenwheels$Fraction" "lower" "J") (by decide +kernel)
  refine lv_aload_n hx hb dX1_init_0 rfl (lv_at hl 0 rfl) ?_
  refine W.objInit hx hb hown hw_oi_l hw_oi_i hw_oi_c rfl (by rw [hml]; exact hl.1) rfl dX1_init_1 (Nat.le_of_ble_eq_true rfl) (Nat.le_of_ble_eq_true rfl) ?_
  refine W.eq (g2 := F0 m 4 ls []) rfl ?_
  refine lv_lload_n hx hb dX1_init_4 rfl (lv_at hl 1 rfl) ?_
  refine lv_lload_n hx hb dX1_init_5 rfl (lv_at hl 2 rfl) ?_
  have hPc : va_P (dC, dI) vwCl [] s.heap := nilP
  have hFc := frZ hS hA
  refine va_calll (va_runSN (host := RX5) (As := [.long x, .long y]) (rest := []) ⟨hx, hb, hml, hown, hts⟩ (c_X5_commonDivisor l dC dI cI cF tr (s.heap).size x y) ⟨va_cnB 2 hts gX1_init_X5_commonDivisor_n7 rfl rfl rfl (nwAt hN (RX1, 7, yX5_commonDivisor) (by decide +kernel)) hw_iniX5 (by decide +kernel) ⟨Nat.le_of_ble_eq_true rfl, Nat.le_of_ble_eq_true rfl⟩, hw_staX5_commonDivisor, trivial⟩ ⟨cBl, (cPre hPc hK hN)⟩ rfl rfl hl.1 rfl (lv_room (Nat.le_of_ble_eq_true rfl)) dX1_init_6 ⟨(Nat.le_of_ble_eq_true rfl), (Nat.le_of_ble_eq_true rfl)⟩) hS (fun q _ h => hFc q h) hFc (fun r_1 u t H1 locs ht hvm hw_r_1 hB hz1 hk1 hS => ?_)
  refine W.widen (k := 0) (n := 0) (Nat.le_refl _) (Nat.le_refl _) ?_
  have hP := keepP hP hk1
  generalize H1 = H at hP hS ⊢
  have hP : va_P (dC, dI) vwCl ([(h, .inr (iX1, [.long x0, .long y0]))]) H := hP
  try dsimp only at hw_r_1
  subst hw_r_1
  refine lv_lstore (lv' := [(5, .long (cdF x y)), (0, .ref h), (1, .long x), (3, .long y)]) hx hb dX1_init_9 hl (by decide) rfl (fun ls hl => ?_)
  refine lv_aload_n hx hb dX1_init_11 rfl (lv_at hl 1 rfl) ?_
  refine lv_lload hx hb dX1_init_12 (lv_at hl 0 rfl) ?_
  refine lv_lconst (v := 1) hx hb dX1_init_14 (by decide) ?_
  refine W.lcmp hx hb dX1_init_15 ?_
  refine lv_if_le (tgt := 26) hx hb dX1_init_16 (by decide) (fun c_2 => ?_) (fun c_2 => ?_)
  · rw [lg_cmp_le] at c_2
    refine lv_lload_n hx hb dX1_init_26 rfl (lv_at hl 2 rfl) ?_
    refine va_putF (D := (dC, dI)) (ci := iX1) (v := .long x) (ty := .long) (C := RX1) (T := TX1) (N := 2) hx hb hts hin_X1 tyX1 tyX1_ok nmX1 hown hK hP hD hS 0 rfl rfl 0 (by decide) hfl_13 (fun _ h9 => h9) rfl hin rfl (by decide +kernel) rfl rfl (Nat.le_of_ble_eq_true rfl) dX1_init_27 (fun H locs hP hD hS => ?_)
    have hP : va_P (dC, dI) vwCl ([(h, .inr (iX1, [.long x, .long y0]))]) H := hP
    have hD : va_D A ([(h, .inr (iX1, [.long x, .long y0]))]) := hD
    refine lv_aload_n hx hb dX1_init_30 rfl (lv_at hl 1 rfl) ?_
    refine lv_lload hx hb dX1_init_31 (lv_at hl 0 rfl) ?_
    refine lv_lconst (v := 1) hx hb dX1_init_33 (by decide) ?_
    refine W.lcmp hx hb dX1_init_34 ?_
    refine lv_if_le (tgt := 45) hx hb dX1_init_35 (by decide) (fun c_3 => ?_) (fun c_3 => ?_)
    · rw [lg_cmp_le] at c_3
      refine lv_lload_n hx hb dX1_init_45 rfl (lv_at hl 3 rfl) ?_
      refine va_putF (D := (dC, dI)) (ci := iX1) (v := .long y) (ty := .long) (C := RX1) (T := TX1) (N := 2) hx hb hts hin_X1 tyX1 tyX1_ok nmX1 hown hK hP hD hS 0 rfl rfl 1 (by decide) hfl_19 (fun _ h9 => h9) rfl hin rfl (by decide +kernel) rfl rfl (Nat.le_of_ble_eq_true rfl) dX1_init_46 (fun H locs hP hD hS => ?_)
      have hP : va_P (dC, dI) vwCl ([(h, .inr (iX1, [.long x, .long y]))]) H := hP
      have hD : va_D A ([(h, .inr (iX1, [.long x, .long y]))]) := hD
      refine W.widen (k := 0) (n := 0) (by omega) (by omega) ?_
      have eq_4 : ([(h, .inr (iX1, [.long x, .long y]))] : va_W) = [(h, .inr (iX1, [.long (frU x y), .long (frL x y)]))] := (by first | rfl | (simp [frU, frL, c_2, c_3]; done) | contradiction)
      rw [eq_4] at hP hD
      exact W.vret hx hb hr (fun t ht hW => ⟨⟨(), rfl, trivial, ⟨by rw [ht]; exact hP, hAe ▸ hD⟩⟩, hS.F ht⟩) hS.2.2 dX1_init_49
    · rw [lg_cmp_le] at c_3
      refine lv_lload_n hx hb dX1_init_38 rfl (lv_at hl 3 rfl) ?_
      refine lv_lload hx hb dX1_init_39 (lv_at hl 0 rfl) ?_
      refine lv_ldiv hx hb dX1_init_41 (neOfLe c_3) ?_
      refine lv_goto (tgt := 46) hx hb dX1_init_42 (by decide) ?_
      refine va_putF (D := (dC, dI)) (ci := iX1) (v := .long (y / (cdF x y))) (ty := .long) (C := RX1) (T := TX1) (N := 2) hx hb hts hin_X1 tyX1 tyX1_ok nmX1 hown hK hP hD hS 0 rfl rfl 1 (by decide) hfl_19 (fun _ h9 => h9) rfl hin rfl (by decide +kernel) rfl rfl (Nat.le_of_ble_eq_true rfl) dX1_init_46 (fun H locs hP hD hS => ?_)
      have hP : va_P (dC, dI) vwCl ([(h, .inr (iX1, [.long x, .long (y / (cdF x y))]))]) H := hP
      have hD : va_D A ([(h, .inr (iX1, [.long x, .long (y / (cdF x y))]))]) := hD
      refine W.widen (k := 0) (n := 0) (by omega) (by omega) ?_
      have eq_5 : ([(h, .inr (iX1, [.long x, .long (y / (cdF x y))]))] : va_W) = [(h, .inr (iX1, [.long (frU x y), .long (frL x y)]))] := (by first | rfl | (simp [frU, frL, c_2, c_3]; done) | contradiction)
      rw [eq_5] at hP hD
      exact W.vret hx hb hr (fun t ht hW => ⟨⟨(), rfl, trivial, ⟨by rw [ht]; exact hP, hAe ▸ hD⟩⟩, hS.F ht⟩) hS.2.2 dX1_init_49
  · rw [lg_cmp_le] at c_2
    refine lv_lload_n hx hb dX1_init_19 rfl (lv_at hl 2 rfl) ?_
    refine lv_lload hx hb dX1_init_20 (lv_at hl 0 rfl) ?_
    refine lv_ldiv hx hb dX1_init_22 (neOfLe c_2) ?_
    refine lv_goto (tgt := 27) hx hb dX1_init_23 (by decide) ?_
    refine va_putF (D := (dC, dI)) (ci := iX1) (v := .long (x / (cdF x y))) (ty := .long) (C := RX1) (T := TX1) (N := 2) hx hb hts hin_X1 tyX1 tyX1_ok nmX1 hown hK hP hD hS 0 rfl rfl 0 (by decide) hfl_13 (fun _ h9 => h9) rfl hin rfl (by decide +kernel) rfl rfl (Nat.le_of_ble_eq_true rfl) dX1_init_27 (fun H locs hP hD hS => ?_)
    have hP : va_P (dC, dI) vwCl ([(h, .inr (iX1, [.long (x / (cdF x y)), .long y0]))]) H := hP
    have hD : va_D A ([(h, .inr (iX1, [.long (x / (cdF x y)), .long y0]))]) := hD
    refine lv_aload_n hx hb dX1_init_30 rfl (lv_at hl 1 rfl) ?_
    refine lv_lload hx hb dX1_init_31 (lv_at hl 0 rfl) ?_
    refine lv_lconst (v := 1) hx hb dX1_init_33 (by decide) ?_
    refine W.lcmp hx hb dX1_init_34 ?_
    refine lv_if_le (tgt := 45) hx hb dX1_init_35 (by decide) (fun c_6 => ?_) (fun c_6 => ?_)
    · rw [lg_cmp_le] at c_6
      refine lv_lload_n hx hb dX1_init_45 rfl (lv_at hl 3 rfl) ?_
      refine va_putF (D := (dC, dI)) (ci := iX1) (v := .long y) (ty := .long) (C := RX1) (T := TX1) (N := 2) hx hb hts hin_X1 tyX1 tyX1_ok nmX1 hown hK hP hD hS 0 rfl rfl 1 (by decide) hfl_19 (fun _ h9 => h9) rfl hin rfl (by decide +kernel) rfl rfl (Nat.le_of_ble_eq_true rfl) dX1_init_46 (fun H locs hP hD hS => ?_)
      have hP : va_P (dC, dI) vwCl ([(h, .inr (iX1, [.long (x / (cdF x y)), .long y]))]) H := hP
      have hD : va_D A ([(h, .inr (iX1, [.long (x / (cdF x y)), .long y]))]) := hD
      refine W.widen (k := 0) (n := 0) (by omega) (by omega) ?_
      have eq_7 : ([(h, .inr (iX1, [.long (x / (cdF x y)), .long y]))] : va_W) = [(h, .inr (iX1, [.long (frU x y), .long (frL x y)]))] := (by first | rfl | (simp [frU, frL, c_2, c_6]; done) | contradiction)
      rw [eq_7] at hP hD
      exact W.vret hx hb hr (fun t ht hW => ⟨⟨(), rfl, trivial, ⟨by rw [ht]; exact hP, hAe ▸ hD⟩⟩, hS.F ht⟩) hS.2.2 dX1_init_49
    · rw [lg_cmp_le] at c_6
      refine lv_lload_n hx hb dX1_init_38 rfl (lv_at hl 3 rfl) ?_
      refine lv_lload hx hb dX1_init_39 (lv_at hl 0 rfl) ?_
      refine lv_ldiv hx hb dX1_init_41 (neOfLe c_6) ?_
      refine lv_goto (tgt := 46) hx hb dX1_init_42 (by decide) ?_
      refine va_putF (D := (dC, dI)) (ci := iX1) (v := .long (y / (cdF x y))) (ty := .long) (C := RX1) (T := TX1) (N := 2) hx hb hts hin_X1 tyX1 tyX1_ok nmX1 hown hK hP hD hS 0 rfl rfl 1 (by decide) hfl_19 (fun _ h9 => h9) rfl hin rfl (by decide +kernel) rfl rfl (Nat.le_of_ble_eq_true rfl) dX1_init_46 (fun H locs hP hD hS => ?_)
      have hP : va_P (dC, dI) vwCl ([(h, .inr (iX1, [.long (x / (cdF x y)), .long (y / (cdF x y))]))]) H := hP
      have hD : va_D A ([(h, .inr (iX1, [.long (x / (cdF x y)), .long (y / (cdF x y))]))]) := hD
      refine W.widen (k := 0) (n := 0) (by omega) (by omega) ?_
      have eq_8 : ([(h, .inr (iX1, [.long (x / (cdF x y)), .long (y / (cdF x y))]))] : va_W) = [(h, .inr (iX1, [.long (frU x y), .long (frL x y)]))] := (by first | rfl | (simp [frU, frL, c_2, c_6]; done) | contradiction)
      rw [eq_8] at hP hD
      exact W.vret hx hb hr (fun t ht hW => ⟨⟨(), rfl, trivial, ⟨by rw [ht]; exact hP, hAe ▸ hD⟩⟩, hS.F ht⟩) hS.2.2 dX1_init_49

set_option maxHeartbeats 4000000 in
set_option maxRecDepth 100000 in
theorem c_X1_times (l : Launch) (dC : Nat → ClassId) (dI : Nat → Nat → Nat) (cI cF : ClassId) (tr : List (ClassId × FieldType)) (sz : Nat) (h : Nat) (x : Int64) (y : Int64) (z : Int64) (w : Int64) : Met l yX1_times wsX1_times ({ frames := 2, cells := 1, slots := 2, locals := 56 } : Room) (cPc dC dI ((cI, .int) :: (cF, .object RX1) :: tr) sz ([(h, .inr (iX1, [.long x, .long y]))]) [.ref h, .long z, .long w]) (va_Qr (fun _ : Unit => True) (fun _ a t => va_P (dC, dI) vwCl [(a, .inr (iX1, [.long (frU (x * z) (y * w)), .long (frL (x * z) (y * w))]))] t.heap ∧ sz ≤ a) (va_A ([]) sz)) 1 2 (va_A ([]) sz) := by
  refine Met.ofW (cc := cX1_times) (maxL := 5) (ret := (some (.object "Greenwheels$Fraction"))) (by decide) rfl ?_
  intro p e s m args below meth c s₁ B hml hv
  obtain ⟨rfl, hsz, hP, hK, hN⟩ := hv
  have hx := B.exec
  have hb := B.bytes
  have hr := B.returns
  have hts := atoms_spec (ws := wsX1_times) B.pre
  have hown : s.vm.findClass RX1 = some m.cls := findClass_of_methodNamed B.named
  have hlocks := B.notSynchronized
  subst hsz
  generalize hAe : va_A [] s.heap.size = A
  have hA : ∀ q : Nat, s.heap.size ≤ q → A q := fun q h => by rw [← hAe]; exact Or.inr h
  have hS : va_S A s.heap s.heap [] := va_S.rf
  have hAn : ∀ q : Nat, q < s.heap.size → ¬ A q := fun q h => by rw [← hAe]; exact notZ h
  have hAg : ∀ q : Nat, A q → s.heap.size ≤ q := fun q h => geZ (hAe ▸ h)
  have hR0 : va_P (dC, dI) vwCl ([(h, .inr (iX1, [.long x, .long y]))]) s.heap := hP
  have hR : va_P (dC, dI) vwCl ([(h, .inr (iX1, [.long x, .long y]))]) s.heap := hP
  have hP : va_P (dC, dI) vwCl [] s.heap := fun k q h => by simp at h
  have hD : va_D A [] := ⟨fun i j p q h => by simp at h, fun k q h => by simp at h⟩
  have hl := lv_entry ([.ref h, .long z, .long w]) (n := 5) (Nat.le_of_ble_eq_true rfl)
  rw [lg_entry_eq]
  generalize (lg_sl ([.ref h, .long z, .long w]) ++ List.replicate (5 - (lg_sl ([.ref h, .long z, .long w])).length) Slot.unset).toArray = ls at hl ⊢
  have hl : lv_has ls 5 [(0, .ref h), (1, .long z), (3, .long w)] := hl
  have hin_X1 : ∀ w ∈ u_ws RX1 TX1 2, w ∈ wsX1_times := by decide +kernel
  have hw_cl14 := hts (.classLink RX1 14 RX1) (by decide +kernel)
  have hw_insX1 := hts (.instantiable RX1 2) (by decide +kernel)
  have hw_iniX1 := hts (.initialized RX1) (by decide +kernel)
  have hfl_13 := hts (.fieldLink RX1 13 "Greenwheels$Fraction" "upper" "J") (by decide +kernel)
  have hfl_19 := hts (.fieldLink RX1 19 "Greenwheels$Fraction" "lower" "J") (by decide +kernel)
  have hw_ml22 := hts (.methodLink RX1 22 yX1_init) (by decide +kernel)
  have hw_imX1_init := hts (.instanceMethod yX1_init) (by decide +kernel)
  refine va_new (D := (dC, dI)) (ci := iX1) (fs := [.long 0, .long 0]) (C := RX1) (T := TX1) (N := 2) hx hb hts hin_X1 tyX1 tyX1_ok hown hw_cl14 hw_insX1 hw_iniX1 hK hP hD hS hA rfl (fun j hj => by rcases (show j = 0 ∨ j = 1 by omega) with rfl | rfl <;> rfl) (Nat.le_of_ble_eq_true rfl) (Nat.le_of_ble_eq_true rfl) dX1_times_0 (fun q_1 H hP hD hS => ?_)
  have hP : va_P (dC, dI) vwCl ([(q_1, .inr (iX1, [.long 0, .long 0]))]) H := hP
  have hD : va_D A ([(q_1, .inr (iX1, [.long 0, .long 0]))]) := hD
  have hR := keepR hR0 hS hAn
  refine lv_dup hx hb dX1_times_3 rfl ?_
  refine lv_aload_n hx hb dX1_times_4 rfl (lv_at hl 0 rfl) ?_
  refine va_get (D := (dC, dI)) (ci := iX1) (v := .long x) (C := RX1) (T := TX1) (N := 2) hx hb hts hin_X1 hown hK hR 0 rfl rfl 0 (by decide) hfl_13 (fun _ h9 => h9) rfl dX1_times_5 ?_
  refine lv_lload_n hx hb dX1_times_8 rfl (lv_at hl 1 rfl) ?_
  refine lv_lmul hx hb dX1_times_9 ?_
  refine lv_aload_n hx hb dX1_times_10 rfl (lv_at hl 0 rfl) ?_
  refine va_get (D := (dC, dI)) (ci := iX1) (v := .long y) (C := RX1) (T := TX1) (N := 2) hx hb hts hin_X1 hown hK hR 0 rfl rfl 1 (by decide) hfl_19 (fun _ h9 => h9) rfl dX1_times_11 ?_
  refine lv_lload_n hx hb dX1_times_14 rfl (lv_at hl 2 rfl) ?_
  refine lv_lmul hx hb dX1_times_15 ?_
  have hPc : va_P (dC, dI) vwCl ([(q_1, .inr (iX1, [.long 0, .long 0]))]) _ := hP.sub [0] rfl
  have hDc : va_D (fun _ => True) ([(q_1, .inr (iX1, [.long 0, .long 0]))]) := (hD.sub (ws' := [(q_1, .inr (iX1, [.long 0, .long 0]))]) [0] (by decide) rfl).weaken (fun _ _ _ _ => trivial)
  have hFc := va_free (wc := [(q_1, .inr (iX1, [.long 0, .long 0]))]) hD hS hA [0] rfl
  refine va_callv (va_runI (As := [.long (x * z), .long (y * w)]) (rest := [.ref q_1]) ⟨hx, hb, hml, hown, hts⟩ (c_X1_init l dC dI cI cF tr (H).size q_1 0 0 (x * z) (y * w)) (cwI 2 hts gX1_times_X1_init rfl rfl rfl hw_iniX1 hw_ml22 hw_imX1_init rfl (by decide +kernel) ⟨Nat.le_of_ble_eq_true rfl, Nat.le_of_ble_eq_true rfl⟩) ⟨cDbl, (cDpre hPc hK hN hDc)⟩ rfl rfl hl.1 rfl (lv_room (Nat.le_of_ble_eq_true rfl)) dX1_times_16 ⟨(Nat.le_of_ble_eq_true rfl), (Nat.le_of_ble_eq_true rfl)⟩) hS (fun q _ h => hFc q h) hFc (fun u t H1 locs ht hvm hw_r_2 hB hz1 hk1 hS => ?_)
  refine W.widen (k := 1) (n := 2) (Nat.le_refl _) (Nat.le_refl _) ?_
  obtain ⟨hP1, hD1⟩ := hB
  rw [ht] at hP1
  obtain ⟨hP, hD⟩ := va_join (wr := []) (w1 := [(q_1, .inr (iX1, [.long (frU (x * z) (y * w)), .long (frL (x * z) (y * w))]))]) hP hD [0] [] rfl rfl (by decide) (by decide) hk1 hFc hP1 hD1
  have hD := hD.sub (ws' := [(q_1, .inr (iX1, [.long (frU (x * z) (y * w)), .long (frL (x * z) (y * w))]))]) [0] (by decide) rfl
  have hP : va_P (dC, dI) vwCl ([(q_1, .inr (iX1, [.long (frU (x * z) (y * w)), .long (frL (x * z) (y * w))]))]) H1 := hP.sub [0] rfl
  have hR := keepR hR0 hS hAn
  generalize H1 = H at hP hR hS ⊢
  have hP : va_P (dC, dI) vwCl ([(q_1, .inr (iX1, [.long (frU (x * z) (y * w)), .long (frL (x * z) (y * w))]))]) H := hP
  have hD : va_D A ([(q_1, .inr (iX1, [.long (frU (x * z) (y * w)), .long (frL (x * z) (y * w))]))]) := hD
  try dsimp only at hw_r_2
  refine W.widen (k := 1) (n := 2) (by omega) (by omega) ?_
  exact W.aret (v := .ref q_1) hx hb hr (Or.inl ⟨_, rfl⟩) (Or.inr ⟨_, rfl⟩) (fun t ht hW => ⟨⟨(), q_1, rfl, trivial, (by show va_P (dC, dI) vwCl ([(q_1, .inr (iX1, [.long (frU (x * z) (y * w)), .long (frL (x * z) (y * w))]))]) t.heap; rw [ht]; exact hP.sub [0] rfl), hAg _ (hD.2 0 _ rfl)⟩, hS.F ht⟩) hS.2.2 dX1_times_19

set_option maxHeartbeats 4000000 in
set_option maxRecDepth 100000 in
theorem c_X1_withoutWhole (l : Launch) (dC : Nat → ClassId) (dI : Nat → Nat → Nat) (cI cF : ClassId) (tr : List (ClassId × FieldType)) (sz : Nat) (h : Nat) (x : Int64) (y : Int64) : Met l yX1_withoutWhole wsX1_withoutWhole ({ frames := 2, cells := 1, slots := 2, locals := 56 } : Room) (cPc dC dI ((cI, .int) :: (cF, .object RX1) :: tr) sz ([(h, .inr (iX1, [.long x, .long y]))]) [.ref h]) (va_Qr (fun _ : Unit => True) (fun _ a t => va_P (dC, dI) vwCl [(a, .inr (iX1, [.long (wwU x y), .long (wwL x y)]))] t.heap) (va_A ([]) sz)) 1 2 (va_A ([]) sz) := by
  refine Met.ofW (cc := cX1_withoutWhole) (maxL := 1) (ret := (some (.object "Greenwheels$Fraction"))) (by decide) rfl ?_
  intro p e s m args below meth c s₁ B hml hv
  obtain ⟨rfl, hsz, hP, hK, hN⟩ := hv
  have hx := B.exec
  have hb := B.bytes
  have hr := B.returns
  have hts := atoms_spec (ws := wsX1_withoutWhole) B.pre
  have hown : s.vm.findClass RX1 = some m.cls := findClass_of_methodNamed B.named
  have hlocks := B.notSynchronized
  subst hsz
  generalize hAe : va_A [] s.heap.size = A
  have hA : ∀ q : Nat, s.heap.size ≤ q → A q := fun q h => by rw [← hAe]; exact Or.inr h
  have hS : va_S A s.heap s.heap [] := va_S.rf
  have hAn : ∀ q : Nat, q < s.heap.size → ¬ A q := fun q h => by rw [← hAe]; exact notZ h
  have hAg : ∀ q : Nat, A q → s.heap.size ≤ q := fun q h => geZ (hAe ▸ h)
  have hR0 : va_P (dC, dI) vwCl ([(h, .inr (iX1, [.long x, .long y]))]) s.heap := hP
  have hR : va_P (dC, dI) vwCl ([(h, .inr (iX1, [.long x, .long y]))]) s.heap := hP
  have hP : va_P (dC, dI) vwCl [] s.heap := fun k q h => by simp at h
  have hD : va_D A [] := ⟨fun i j p q h => by simp at h, fun k q h => by simp at h⟩
  have hl := lv_entry ([.ref h]) (n := 1) (Nat.le_of_ble_eq_true rfl)
  rw [lg_entry_eq]
  generalize (lg_sl ([.ref h]) ++ List.replicate (1 - (lg_sl ([.ref h])).length) Slot.unset).toArray = ls at hl ⊢
  have hl : lv_has ls 1 [(0, .ref h)] := hl
  have hfl_19 := hts (.fieldLink RX1 19 "Greenwheels$Fraction" "lower" "J") (by decide +kernel)
  have hin_X1 : ∀ w ∈ u_ws RX1 TX1 2, w ∈ wsX1_withoutWhole := by decide +kernel
  have hw_cl14 := hts (.classLink RX1 14 RX1) (by decide +kernel)
  have hw_insX1 := hts (.instantiable RX1 2) (by decide +kernel)
  have hw_iniX1 := hts (.initialized RX1) (by decide +kernel)
  have hfl_13 := hts (.fieldLink RX1 13 "Greenwheels$Fraction" "upper" "J") (by decide +kernel)
  have hw_ml22 := hts (.methodLink RX1 22 yX1_init) (by decide +kernel)
  have hw_imX1_init := hts (.instanceMethod yX1_init) (by decide +kernel)
  refine lv_aload_n hx hb dX1_withoutWhole_0 rfl (lv_at hl 0 rfl) ?_
  refine va_get (D := (dC, dI)) (ci := iX1) (v := .long y) (C := RX1) (T := TX1) (N := 2) hx hb hts hin_X1 hown hK hR 0 rfl rfl 1 (by decide) hfl_19 (fun _ h9 => h9) rfl dX1_withoutWhole_1 ?_
  refine lv_lconst (v := 0) hx hb dX1_withoutWhole_4 (by decide) ?_
  refine W.lcmp hx hb dX1_withoutWhole_5 ?_
  refine lv_if_le (tgt := 34) hx hb dX1_withoutWhole_6 (by decide) (fun c_1 => ?_) (fun c_1 => ?_)
  · rw [lg_cmp_le] at c_1
    refine lv_aload_n hx hb dX1_withoutWhole_34 rfl (lv_at hl 0 rfl) ?_
    refine W.widen (k := 1) (n := 2) (by omega) (by omega) ?_
    have eq_2 : ([(h, .inr (iX1, [.long x, .long y]))] : va_W) = [(h, .inr (iX1, [.long (wwU x y), .long (wwL x y)]))] := (by simp [wwU, wwL, c_1])
    exact W.aret (v := .ref h) hx hb hr (Or.inl ⟨_, rfl⟩) (Or.inr ⟨_, rfl⟩) (fun t ht hW => ⟨⟨(), h, rfl, trivial, (by show va_P (dC, dI) vwCl ([(h, .inr (iX1, [.long (wwU x y), .long (wwL x y)]))]) t.heap; rw [ht]; exact eq_2 ▸ (hR.sub (ws' := [(h, .inr (iX1, [.long x, .long y]))]) [0] rfl))⟩, hS.F ht⟩) hS.2.2 dX1_withoutWhole_35
  · rw [lg_cmp_le] at c_1
    refine va_new (D := (dC, dI)) (ci := iX1) (fs := [.long 0, .long 0]) (C := RX1) (T := TX1) (N := 2) hx hb hts hin_X1 tyX1 tyX1_ok hown hw_cl14 hw_insX1 hw_iniX1 hK hP hD hS hA rfl (fun j hj => by rcases (show j = 0 ∨ j = 1 by omega) with rfl | rfl <;> rfl) (Nat.le_of_ble_eq_true rfl) (Nat.le_of_ble_eq_true rfl) dX1_withoutWhole_9 (fun q_3 H hP hD hS => ?_)
    have hP : va_P (dC, dI) vwCl ([(q_3, .inr (iX1, [.long 0, .long 0]))]) H := hP
    have hD : va_D A ([(q_3, .inr (iX1, [.long 0, .long 0]))]) := hD
    have hR := keepR hR0 hS hAn
    refine lv_dup hx hb dX1_withoutWhole_12 rfl ?_
    refine lv_aload_n hx hb dX1_withoutWhole_13 rfl (lv_at hl 0 rfl) ?_
    refine va_get (D := (dC, dI)) (ci := iX1) (v := .long x) (C := RX1) (T := TX1) (N := 2) hx hb hts hin_X1 hown hK hR 0 rfl rfl 0 (by decide) hfl_13 (fun _ h9 => h9) rfl dX1_withoutWhole_14 ?_
    refine lv_aload_n hx hb dX1_withoutWhole_17 rfl (lv_at hl 0 rfl) ?_
    refine va_get (D := (dC, dI)) (ci := iX1) (v := .long y) (C := RX1) (T := TX1) (N := 2) hx hb hts hin_X1 hown hK hR 0 rfl rfl 1 (by decide) hfl_19 (fun _ h9 => h9) rfl dX1_withoutWhole_18 ?_
    have hPc : va_P (dC, dI) vwCl [] H := nilP
    have hFc := frZ hS hA
    refine va_calll (va_runS (As := [.long x, .long y]) (rest := [.ref q_3, .ref q_3]) ⟨hx, hb, hml, hown, hts⟩ (c_J9_floorMod_f86c9 l dC dI cI cF tr (H).size x y (neOfLe0 c_1)) (va_cwS 2 hts gX1_withoutWhole_J9_floorMod_f86c9 rfl rfl rfl (by decide +kernel) ⟨Nat.le_of_ble_eq_true rfl, Nat.le_of_ble_eq_true rfl⟩) ⟨cBl, (cPre hPc hK hN)⟩ rfl rfl hl.1 rfl (lv_room (Nat.le_of_ble_eq_true rfl)) dX1_withoutWhole_21 ⟨(Nat.le_of_ble_eq_true rfl), (Nat.le_of_ble_eq_true rfl)⟩) hS (fun q _ h => hFc q h) hFc (fun r_4 u t H1 locs ht hvm hw_r_4 hB hz1 hk1 hS => ?_)
    refine W.widen (k := 1) (n := 2) (Nat.le_refl _) (Nat.le_refl _) ?_
    have hP := keepP hP hk1
    have hR := keepP hR hk1
    generalize H1 = H at hP hR hS ⊢
    have hP : va_P (dC, dI) vwCl ([(q_3, .inr (iX1, [.long 0, .long 0]))]) H := hP
    try dsimp only at hw_r_4
    subst hw_r_4
    refine lv_aload_n hx hb dX1_withoutWhole_24 rfl (lv_at hl 0 rfl) ?_
    refine va_get (D := (dC, dI)) (ci := iX1) (v := .long y) (C := RX1) (T := TX1) (N := 2) hx hb hts hin_X1 hown hK hR 0 rfl rfl 1 (by decide) hfl_19 (fun _ h9 => h9) rfl dX1_withoutWhole_25 ?_
    have hPc : va_P (dC, dI) vwCl ([(q_3, .inr (iX1, [.long 0, .long 0]))]) _ := hP.sub [0] rfl
    have hDc : va_D (fun _ => True) ([(q_3, .inr (iX1, [.long 0, .long 0]))]) := (hD.sub (ws' := [(q_3, .inr (iX1, [.long 0, .long 0]))]) [0] (by decide) rfl).weaken (fun _ _ _ _ => trivial)
    have hFc := va_free (wc := [(q_3, .inr (iX1, [.long 0, .long 0]))]) hD hS hA [0] rfl
    refine va_callv (va_runI (As := [.long (fmF x y), .long y]) (rest := [.ref q_3]) ⟨hx, hb, hml, hown, hts⟩ (c_X1_init l dC dI cI cF tr (H).size q_3 0 0 (fmF x y) y) (cwI 2 hts gX1_withoutWhole_X1_init rfl rfl rfl hw_iniX1 hw_ml22 hw_imX1_init rfl (by decide +kernel) ⟨Nat.le_of_ble_eq_true rfl, Nat.le_of_ble_eq_true rfl⟩) ⟨cDbl, (cDpre hPc hK hN hDc)⟩ rfl rfl hl.1 rfl (lv_room (Nat.le_of_ble_eq_true rfl)) dX1_withoutWhole_28 ⟨(Nat.le_of_ble_eq_true rfl), (Nat.le_of_ble_eq_true rfl)⟩) hS (fun q _ h => hFc q h) hFc (fun u t H1 locs ht hvm hw_r_5 hB hz1 hk1 hS => ?_)
    refine W.widen (k := 1) (n := 2) (Nat.le_refl _) (Nat.le_refl _) ?_
    obtain ⟨hP1, hD1⟩ := hB
    rw [ht] at hP1
    obtain ⟨hP, hD⟩ := va_join (wr := []) (w1 := [(q_3, .inr (iX1, [.long (frU (fmF x y) y), .long (frL (fmF x y) y)]))]) hP hD [0] [] rfl rfl (by decide) (by decide) hk1 hFc hP1 hD1
    have hD := hD.sub (ws' := [(q_3, .inr (iX1, [.long (frU (fmF x y) y), .long (frL (fmF x y) y)]))]) [0] (by decide) rfl
    have hP : va_P (dC, dI) vwCl ([(q_3, .inr (iX1, [.long (frU (fmF x y) y), .long (frL (fmF x y) y)]))]) H1 := hP.sub [0] rfl
    have hR := keepR hR0 hS hAn
    generalize H1 = H at hP hR hS ⊢
    have hP : va_P (dC, dI) vwCl ([(q_3, .inr (iX1, [.long (frU (fmF x y) y), .long (frL (fmF x y) y)]))]) H := hP
    have hD : va_D A ([(q_3, .inr (iX1, [.long (frU (fmF x y) y), .long (frL (fmF x y) y)]))]) := hD
    try dsimp only at hw_r_5
    refine lv_goto (tgt := 35) hx hb dX1_withoutWhole_31 (by decide) ?_
    refine W.widen (k := 1) (n := 2) (by omega) (by omega) ?_
    have eq_6 : ([(q_3, .inr (iX1, [.long (frU (fmF x y) y), .long (frL (fmF x y) y)]))] : va_W) = [(q_3, .inr (iX1, [.long (wwU x y), .long (wwL x y)]))] := (by simp [wwU, wwL, c_1])
    exact W.aret (v := .ref q_3) hx hb hr (Or.inl ⟨_, rfl⟩) (Or.inr ⟨_, rfl⟩) (fun t ht hW => ⟨⟨(), q_3, rfl, trivial, (by show va_P (dC, dI) vwCl ([(q_3, .inr (iX1, [.long (wwU x y), .long (wwL x y)]))]) t.heap; rw [ht]; exact eq_6 ▸ (hP.sub (ws' := [(q_3, .inr (iX1, [.long (frU (fmF x y) y), .long (frL (fmF x y) y)]))]) [0] rfl))⟩, hS.F ht⟩) hS.2.2 dX1_withoutWhole_35

set_option maxHeartbeats 4000000 in
set_option maxRecDepth 100000 in
theorem c_X1_cellOf (l : Launch) (dC : Nat → ClassId) (dI : Nat → Nat → Nat) (cI cF : ClassId) (tr : List (ClassId × FieldType)) (sz : Nat) (h : Nat) (x : Int64) (y : Int64) (k : Int32) : Met l yX1_cellOf wsX1_cellOf ({ frames := 0, cells := 0, slots := 0, locals := 0 } : Room) (cPc dC dI ((cI, .int) :: (cF, .object RX1) :: tr) sz ([(h, .inr (iX1, [.long x, .long y]))]) [.ref h, .int k]) (va_Qi (fun (r : Int32) (_ : Unit) => r = ceF x y k) (fun _ _ => True) (va_A ([]) sz)) 0 0 (va_A ([]) sz) := by
  refine Met.ofW (cc := cX1_cellOf) (maxL := 2) (ret := (some .int)) (by decide) rfl ?_
  intro p e s m args below meth c s₁ B hml hv
  obtain ⟨rfl, hsz, hP, hK, hN⟩ := hv
  have hx := B.exec
  have hb := B.bytes
  have hr := B.returns
  have hts := atoms_spec (ws := wsX1_cellOf) B.pre
  have hown : s.vm.findClass RX1 = some m.cls := findClass_of_methodNamed B.named
  have hlocks := B.notSynchronized
  subst hsz
  generalize hAe : va_A [] s.heap.size = A
  have hA : ∀ q : Nat, s.heap.size ≤ q → A q := fun q h => by rw [← hAe]; exact Or.inr h
  have hS : va_S A s.heap s.heap [] := va_S.rf
  have hAn : ∀ q : Nat, q < s.heap.size → ¬ A q := fun q h => by rw [← hAe]; exact notZ h
  have hAg : ∀ q : Nat, A q → s.heap.size ≤ q := fun q h => geZ (hAe ▸ h)
  have hR0 : va_P (dC, dI) vwCl ([(h, .inr (iX1, [.long x, .long y]))]) s.heap := hP
  have hR : va_P (dC, dI) vwCl ([(h, .inr (iX1, [.long x, .long y]))]) s.heap := hP
  have hP : va_P (dC, dI) vwCl [] s.heap := fun k q h => by simp at h
  have hD : va_D A [] := ⟨fun i j p q h => by simp at h, fun k q h => by simp at h⟩
  have hl := lv_entry ([.ref h, .int k]) (n := 2) (Nat.le_of_ble_eq_true rfl)
  rw [lg_entry_eq]
  generalize (lg_sl ([.ref h, .int k]) ++ List.replicate (2 - (lg_sl ([.ref h, .int k])).length) Slot.unset).toArray = ls at hl ⊢
  have hl : lv_has ls 2 [(0, .ref h), (1, .int k)] := hl
  have hfl_19 := hts (.fieldLink RX1 19 "Greenwheels$Fraction" "lower" "J") (by decide +kernel)
  have hin_X1 : ∀ w ∈ u_ws RX1 TX1 2, w ∈ wsX1_cellOf := by decide +kernel
  have hfl_13 := hts (.fieldLink RX1 13 "Greenwheels$Fraction" "upper" "J") (by decide +kernel)
  refine lv_aload_n hx hb dX1_cellOf_0 rfl (lv_at hl 0 rfl) ?_
  refine va_get (D := (dC, dI)) (ci := iX1) (v := .long y) (C := RX1) (T := TX1) (N := 2) hx hb hts hin_X1 hown hK hR 0 rfl rfl 1 (by decide) hfl_19 (fun _ h9 => h9) rfl dX1_cellOf_1 ?_
  refine lv_lconst (v := 0) hx hb dX1_cellOf_4 (by decide) ?_
  refine W.lcmp hx hb dX1_cellOf_5 ?_
  refine lv_if_le (tgt := 25) hx hb dX1_cellOf_6 (by decide) (fun c_1 => ?_) (fun c_1 => ?_)
  · rw [lg_cmp_le] at c_1
    refine lv_iconst (v := 0) hx hb dX1_cellOf_25 (by decide) ?_
    refine W.widen (k := 0) (n := 0) (by omega) (by omega) ?_
    exact W.iret (v := 0) hx hb hr (fun t ht hW => ⟨⟨0, (), rfl, (by first | (simp [ceF, c_1]; done) | contradiction), trivial⟩, hS.F ht⟩) hS.2.2 dX1_cellOf_26
  · rw [lg_cmp_le] at c_1
    refine lv_aload_n hx hb dX1_cellOf_9 rfl (lv_at hl 0 rfl) ?_
    refine va_get (D := (dC, dI)) (ci := iX1) (v := .long x) (C := RX1) (T := TX1) (N := 2) hx hb hts hin_X1 hown hK hR 0 rfl rfl 0 (by decide) hfl_13 (fun _ h9 => h9) rfl dX1_cellOf_10 ?_
    refine lv_iload_n hx hb dX1_cellOf_13 rfl (lv_at hl 1 rfl) ?_
    refine lv_i2l hx hb dX1_cellOf_14 rfl ?_
    refine lv_lmul hx hb dX1_cellOf_15 ?_
    refine lv_aload_n hx hb dX1_cellOf_16 rfl (lv_at hl 0 rfl) ?_
    refine va_get (D := (dC, dI)) (ci := iX1) (v := .long y) (C := RX1) (T := TX1) (N := 2) hx hb hts hin_X1 hown hK hR 0 rfl rfl 1 (by decide) hfl_19 (fun _ h9 => h9) rfl dX1_cellOf_17 ?_
    refine lv_ldiv hx hb dX1_cellOf_20 (neOfLe0 c_1) ?_
    refine lv_l2i hx hb dX1_cellOf_21 rfl ?_
    refine lv_goto (tgt := 26) hx hb dX1_cellOf_22 (by decide) ?_
    refine W.widen (k := 0) (n := 0) (by omega) (by omega) ?_
    exact W.iret (v := ((x * k.toInt64) / y).toInt32) hx hb hr (fun t ht hW => ⟨⟨((x * k.toInt64) / y).toInt32, (), rfl, (by first | (simp [ceF, c_1]; done) | contradiction), trivial⟩, hS.F ht⟩) hS.2.2 dX1_cellOf_26

set_option maxHeartbeats 4000000 in
set_option maxRecDepth 100000 in
theorem c_X1_isSameAs (l : Launch) (dC : Nat → ClassId) (dI : Nat → Nat → Nat) (cI cF : ClassId) (tr : List (ClassId × FieldType)) (sz : Nat) (h : Nat) (x : Int64) (y : Int64) (g : Nat) (z : Int64) (w : Int64) : Met l yX1_isSameAs wsX1_isSameAs ({ frames := 0, cells := 0, slots := 0, locals := 0 } : Room) (cPc dC dI ((cI, .int) :: (cF, .object RX1) :: tr) sz ([(h, .inr (iX1, [.long x, .long y])), (g, .inr (iX1, [.long z, .long w]))]) [.ref h, .ref g]) (va_Qi (fun (r : Int32) (_ : Unit) => r = if x = z ∧ y = w then 1 else 0) (fun _ _ => True) (va_A ([]) sz)) 0 0 (va_A ([]) sz) := by
  refine Met.ofW (cc := cX1_isSameAs) (maxL := 2) (ret := (some .boolean)) (by decide) rfl ?_
  intro p e s m args below meth c s₁ B hml hv
  obtain ⟨rfl, hsz, hP, hK, hN⟩ := hv
  have hx := B.exec
  have hb := B.bytes
  have hr := B.returns
  have hts := atoms_spec (ws := wsX1_isSameAs) B.pre
  have hown : s.vm.findClass RX1 = some m.cls := findClass_of_methodNamed B.named
  have hlocks := B.notSynchronized
  subst hsz
  generalize hAe : va_A [] s.heap.size = A
  have hA : ∀ q : Nat, s.heap.size ≤ q → A q := fun q h => by rw [← hAe]; exact Or.inr h
  have hS : va_S A s.heap s.heap [] := va_S.rf
  have hAn : ∀ q : Nat, q < s.heap.size → ¬ A q := fun q h => by rw [← hAe]; exact notZ h
  have hAg : ∀ q : Nat, A q → s.heap.size ≤ q := fun q h => geZ (hAe ▸ h)
  have hR0 : va_P (dC, dI) vwCl ([(h, .inr (iX1, [.long x, .long y])), (g, .inr (iX1, [.long z, .long w]))]) s.heap := hP
  have hR : va_P (dC, dI) vwCl ([(h, .inr (iX1, [.long x, .long y])), (g, .inr (iX1, [.long z, .long w]))]) s.heap := hP
  have hP : va_P (dC, dI) vwCl [] s.heap := fun k q h => by simp at h
  have hD : va_D A [] := ⟨fun i j p q h => by simp at h, fun k q h => by simp at h⟩
  have hl := lv_entry ([.ref h, .ref g]) (n := 2) (Nat.le_of_ble_eq_true rfl)
  rw [lg_entry_eq]
  generalize (lg_sl ([.ref h, .ref g]) ++ List.replicate (2 - (lg_sl ([.ref h, .ref g])).length) Slot.unset).toArray = ls at hl ⊢
  have hl : lv_has ls 2 [(0, .ref h), (1, .ref g)] := hl
  have hfl_13 := hts (.fieldLink RX1 13 "Greenwheels$Fraction" "upper" "J") (by decide +kernel)
  have hin_X1 : ∀ w ∈ u_ws RX1 TX1 2, w ∈ wsX1_isSameAs := by decide +kernel
  have hfl_19 := hts (.fieldLink RX1 19 "Greenwheels$Fraction" "lower" "J") (by decide +kernel)
  refine lv_aload_n hx hb dX1_isSameAs_0 rfl (lv_at hl 0 rfl) ?_
  refine va_get (D := (dC, dI)) (ci := iX1) (v := .long x) (C := RX1) (T := TX1) (N := 2) hx hb hts hin_X1 hown hK hR 0 rfl rfl 0 (by decide) hfl_13 (fun _ h9 => h9) rfl dX1_isSameAs_1 ?_
  refine lv_aload_n hx hb dX1_isSameAs_4 rfl (lv_at hl 1 rfl) ?_
  refine va_get (D := (dC, dI)) (ci := iX1) (v := .long z) (C := RX1) (T := TX1) (N := 2) hx hb hts hin_X1 hown hK hR 1 rfl rfl 0 (by decide) hfl_13 (fun _ h9 => h9) rfl dX1_isSameAs_5 ?_
  refine W.lcmp hx hb dX1_isSameAs_8 ?_
  refine lv_if_ne (tgt := 28) hx hb dX1_isSameAs_9 (by decide) (fun c_1 => ?_) (fun c_1 => ?_)
  · rw [lg_cmp_eq] at c_1
    refine lv_iconst (v := 0) hx hb dX1_isSameAs_28 (by decide) ?_
    refine W.widen (k := 0) (n := 0) (by omega) (by omega) ?_
    exact W.zret (v := 0) hx hb hr (by first | rfl | simp [narrow] | assumption) (fun t ht hW => ⟨⟨0, (), rfl, (by first | (simp [c_1]; done) | contradiction), trivial⟩, hS.F ht⟩) hS.2.2 dX1_isSameAs_29
  · rw [lg_cmp_eq] at c_1
    refine lv_aload_n hx hb dX1_isSameAs_12 rfl (lv_at hl 0 rfl) ?_
    refine va_get (D := (dC, dI)) (ci := iX1) (v := .long y) (C := RX1) (T := TX1) (N := 2) hx hb hts hin_X1 hown hK hR 0 rfl rfl 1 (by decide) hfl_19 (fun _ h9 => h9) rfl dX1_isSameAs_13 ?_
    refine lv_aload_n hx hb dX1_isSameAs_16 rfl (lv_at hl 1 rfl) ?_
    refine va_get (D := (dC, dI)) (ci := iX1) (v := .long w) (C := RX1) (T := TX1) (N := 2) hx hb hts hin_X1 hown hK hR 1 rfl rfl 1 (by decide) hfl_19 (fun _ h9 => h9) rfl dX1_isSameAs_17 ?_
    refine W.lcmp hx hb dX1_isSameAs_20 ?_
    refine lv_if_ne (tgt := 28) hx hb dX1_isSameAs_21 (by decide) (fun c_2 => ?_) (fun c_2 => ?_)
    · rw [lg_cmp_eq] at c_2
      refine lv_iconst (v := 0) hx hb dX1_isSameAs_28 (by decide) ?_
      refine W.widen (k := 0) (n := 0) (by omega) (by omega) ?_
      exact W.zret (v := 0) hx hb hr (by first | rfl | simp [narrow] | assumption) (fun t ht hW => ⟨⟨0, (), rfl, (by first | (simp [c_1, c_2]; done) | contradiction), trivial⟩, hS.F ht⟩) hS.2.2 dX1_isSameAs_29
    · rw [lg_cmp_eq] at c_2
      refine lv_iconst (v := 1) hx hb dX1_isSameAs_24 (by decide) ?_
      refine lv_goto (tgt := 29) hx hb dX1_isSameAs_25 (by decide) ?_
      refine W.widen (k := 0) (n := 0) (by omega) (by omega) ?_
      exact W.zret (v := 1) hx hb hr (by first | rfl | simp [narrow] | assumption) (fun t ht hW => ⟨⟨1, (), rfl, (by first | (simp [c_1, c_2]; done) | contradiction), trivial⟩, hS.F ht⟩) hS.2.2 dX1_isSameAs_29

set_option maxHeartbeats 4000000 in
set_option maxRecDepth 100000 in
theorem c_X1_isOppositeOf (l : Launch) (dC : Nat → ClassId) (dI : Nat → Nat → Nat) (cI cF : ClassId) (tr : List (ClassId × FieldType)) (sz : Nat) (h : Nat) (x : Int64) (y : Int64) (g : Nat) (z : Int64) (w : Int64) : Met l yX1_isOppositeOf wsX1_isOppositeOf ({ frames := 0, cells := 0, slots := 0, locals := 0 } : Room) (cPc dC dI ((cI, .int) :: (cF, .object RX1) :: tr) sz ([(h, .inr (iX1, [.long x, .long y])), (g, .inr (iX1, [.long z, .long w]))]) [.ref h, .ref g]) (va_Qi (fun (r : Int32) (_ : Unit) => r = if x = -z ∧ y = w then 1 else 0) (fun _ _ => True) (va_A ([]) sz)) 0 0 (va_A ([]) sz) := by
  refine Met.ofW (cc := cX1_isOppositeOf) (maxL := 2) (ret := (some .boolean)) (by decide) rfl ?_
  intro p e s m args below meth c s₁ B hml hv
  obtain ⟨rfl, hsz, hP, hK, hN⟩ := hv
  have hx := B.exec
  have hb := B.bytes
  have hr := B.returns
  have hts := atoms_spec (ws := wsX1_isOppositeOf) B.pre
  have hown : s.vm.findClass RX1 = some m.cls := findClass_of_methodNamed B.named
  have hlocks := B.notSynchronized
  subst hsz
  generalize hAe : va_A [] s.heap.size = A
  have hA : ∀ q : Nat, s.heap.size ≤ q → A q := fun q h => by rw [← hAe]; exact Or.inr h
  have hS : va_S A s.heap s.heap [] := va_S.rf
  have hAn : ∀ q : Nat, q < s.heap.size → ¬ A q := fun q h => by rw [← hAe]; exact notZ h
  have hAg : ∀ q : Nat, A q → s.heap.size ≤ q := fun q h => geZ (hAe ▸ h)
  have hR0 : va_P (dC, dI) vwCl ([(h, .inr (iX1, [.long x, .long y])), (g, .inr (iX1, [.long z, .long w]))]) s.heap := hP
  have hR : va_P (dC, dI) vwCl ([(h, .inr (iX1, [.long x, .long y])), (g, .inr (iX1, [.long z, .long w]))]) s.heap := hP
  have hP : va_P (dC, dI) vwCl [] s.heap := fun k q h => by simp at h
  have hD : va_D A [] := ⟨fun i j p q h => by simp at h, fun k q h => by simp at h⟩
  have hl := lv_entry ([.ref h, .ref g]) (n := 2) (Nat.le_of_ble_eq_true rfl)
  rw [lg_entry_eq]
  generalize (lg_sl ([.ref h, .ref g]) ++ List.replicate (2 - (lg_sl ([.ref h, .ref g])).length) Slot.unset).toArray = ls at hl ⊢
  have hl : lv_has ls 2 [(0, .ref h), (1, .ref g)] := hl
  have hfl_13 := hts (.fieldLink RX1 13 "Greenwheels$Fraction" "upper" "J") (by decide +kernel)
  have hin_X1 : ∀ w ∈ u_ws RX1 TX1 2, w ∈ wsX1_isOppositeOf := by decide +kernel
  have hfl_19 := hts (.fieldLink RX1 19 "Greenwheels$Fraction" "lower" "J") (by decide +kernel)
  refine lv_aload_n hx hb dX1_isOppositeOf_0 rfl (lv_at hl 0 rfl) ?_
  refine va_get (D := (dC, dI)) (ci := iX1) (v := .long x) (C := RX1) (T := TX1) (N := 2) hx hb hts hin_X1 hown hK hR 0 rfl rfl 0 (by decide) hfl_13 (fun _ h9 => h9) rfl dX1_isOppositeOf_1 ?_
  refine lv_aload_n hx hb dX1_isOppositeOf_4 rfl (lv_at hl 1 rfl) ?_
  refine va_get (D := (dC, dI)) (ci := iX1) (v := .long z) (C := RX1) (T := TX1) (N := 2) hx hb hts hin_X1 hown hK hR 1 rfl rfl 0 (by decide) hfl_13 (fun _ h9 => h9) rfl dX1_isOppositeOf_5 ?_
  refine lv_lneg hx hb dX1_isOppositeOf_8 ?_
  refine W.lcmp hx hb dX1_isOppositeOf_9 ?_
  refine lv_if_ne (tgt := 29) hx hb dX1_isOppositeOf_10 (by decide) (fun c_1 => ?_) (fun c_1 => ?_)
  · rw [lg_cmp_eq] at c_1
    refine lv_iconst (v := 0) hx hb dX1_isOppositeOf_29 (by decide) ?_
    refine W.widen (k := 0) (n := 0) (by omega) (by omega) ?_
    exact W.zret (v := 0) hx hb hr (by first | rfl | simp [narrow] | assumption) (fun t ht hW => ⟨⟨0, (), rfl, (by first | (simp [c_1]; done) | contradiction), trivial⟩, hS.F ht⟩) hS.2.2 dX1_isOppositeOf_30
  · rw [lg_cmp_eq] at c_1
    refine lv_aload_n hx hb dX1_isOppositeOf_13 rfl (lv_at hl 0 rfl) ?_
    refine va_get (D := (dC, dI)) (ci := iX1) (v := .long y) (C := RX1) (T := TX1) (N := 2) hx hb hts hin_X1 hown hK hR 0 rfl rfl 1 (by decide) hfl_19 (fun _ h9 => h9) rfl dX1_isOppositeOf_14 ?_
    refine lv_aload_n hx hb dX1_isOppositeOf_17 rfl (lv_at hl 1 rfl) ?_
    refine va_get (D := (dC, dI)) (ci := iX1) (v := .long w) (C := RX1) (T := TX1) (N := 2) hx hb hts hin_X1 hown hK hR 1 rfl rfl 1 (by decide) hfl_19 (fun _ h9 => h9) rfl dX1_isOppositeOf_18 ?_
    refine W.lcmp hx hb dX1_isOppositeOf_21 ?_
    refine lv_if_ne (tgt := 29) hx hb dX1_isOppositeOf_22 (by decide) (fun c_2 => ?_) (fun c_2 => ?_)
    · rw [lg_cmp_eq] at c_2
      refine lv_iconst (v := 0) hx hb dX1_isOppositeOf_29 (by decide) ?_
      refine W.widen (k := 0) (n := 0) (by omega) (by omega) ?_
      exact W.zret (v := 0) hx hb hr (by first | rfl | simp [narrow] | assumption) (fun t ht hW => ⟨⟨0, (), rfl, (by first | (simp [c_1, c_2]; done) | contradiction), trivial⟩, hS.F ht⟩) hS.2.2 dX1_isOppositeOf_30
    · rw [lg_cmp_eq] at c_2
      refine lv_iconst (v := 1) hx hb dX1_isOppositeOf_25 (by decide) ?_
      refine lv_goto (tgt := 30) hx hb dX1_isOppositeOf_26 (by decide) ?_
      refine W.widen (k := 0) (n := 0) (by omega) (by omega) ?_
      exact W.zret (v := 1) hx hb hr (by first | rfl | simp [narrow] | assumption) (fun t ht hW => ⟨⟨1, (), rfl, (by first | (simp [c_1, c_2]; done) | contradiction), trivial⟩, hS.F ht⟩) hS.2.2 dX1_isOppositeOf_30

set_option maxHeartbeats 4000000 in
set_option maxRecDepth 100000 in
theorem c_X1_told (l : Launch) (dC : Nat → ClassId) (dI : Nat → Nat → Nat) (cI cF : ClassId) (tr : List (ClassId × FieldType)) (sz : Nat) (h : Nat) (x : Int64) (y : Int64) (b : Int32) : Met l yX1_told wsX1_told ({ frames := 0, cells := 0, slots := 0, locals := 0 } : Room) (cPc dC dI ((cI, .int) :: (cF, .object RX1) :: tr) sz ([(h, .inr (iX1, [.long x, .long y]))]) [.ref h, .int b]) (va_Ql (fun (r : Int64) (_ : Unit) => r = if b = 0 then y else x) (fun _ _ => True) (va_A ([]) sz)) 0 0 (va_A ([]) sz) := by
  refine Met.ofW (cc := cX1_told) (maxL := 2) (ret := (some .long)) (by decide) rfl ?_
  intro p e s m args below meth c s₁ B hml hv
  obtain ⟨rfl, hsz, hP, hK, hN⟩ := hv
  have hx := B.exec
  have hb := B.bytes
  have hr := B.returns
  have hts := atoms_spec (ws := wsX1_told) B.pre
  have hown : s.vm.findClass RX1 = some m.cls := findClass_of_methodNamed B.named
  have hlocks := B.notSynchronized
  subst hsz
  generalize hAe : va_A [] s.heap.size = A
  have hA : ∀ q : Nat, s.heap.size ≤ q → A q := fun q h => by rw [← hAe]; exact Or.inr h
  have hS : va_S A s.heap s.heap [] := va_S.rf
  have hAn : ∀ q : Nat, q < s.heap.size → ¬ A q := fun q h => by rw [← hAe]; exact notZ h
  have hAg : ∀ q : Nat, A q → s.heap.size ≤ q := fun q h => geZ (hAe ▸ h)
  have hR0 : va_P (dC, dI) vwCl ([(h, .inr (iX1, [.long x, .long y]))]) s.heap := hP
  have hR : va_P (dC, dI) vwCl ([(h, .inr (iX1, [.long x, .long y]))]) s.heap := hP
  have hP : va_P (dC, dI) vwCl [] s.heap := fun k q h => by simp at h
  have hD : va_D A [] := ⟨fun i j p q h => by simp at h, fun k q h => by simp at h⟩
  have hl := lv_entry ([.ref h, .int b]) (n := 2) (Nat.le_of_ble_eq_true rfl)
  rw [lg_entry_eq]
  generalize (lg_sl ([.ref h, .int b]) ++ List.replicate (2 - (lg_sl ([.ref h, .int b])).length) Slot.unset).toArray = ls at hl ⊢
  have hl : lv_has ls 2 [(0, .ref h), (1, .int b)] := hl
  have hfl_19 := hts (.fieldLink RX1 19 "Greenwheels$Fraction" "lower" "J") (by decide +kernel)
  have hin_X1 : ∀ w ∈ u_ws RX1 TX1 2, w ∈ wsX1_told := by decide +kernel
  have hfl_13 := hts (.fieldLink RX1 13 "Greenwheels$Fraction" "upper" "J") (by decide +kernel)
  refine lv_iload_n hx hb dX1_told_0 rfl (lv_at hl 1 rfl) ?_
  refine lv_if_eq (tgt := 11) hx hb dX1_told_1 (by decide) (fun c_1 => ?_) (fun c_1 => ?_)
  · refine lv_aload_n hx hb dX1_told_11 rfl (lv_at hl 0 rfl) ?_
    refine va_get (D := (dC, dI)) (ci := iX1) (v := .long y) (C := RX1) (T := TX1) (N := 2) hx hb hts hin_X1 hown hK hR 0 rfl rfl 1 (by decide) hfl_19 (fun _ h9 => h9) rfl dX1_told_12 ?_
    refine W.widen (k := 0) (n := 0) (by omega) (by omega) ?_
    exact W.lret (v := y) hx hb hr (fun t ht hW => ⟨⟨y, (), rfl, (by first | (simp [c_1]; done) | contradiction), trivial⟩, hS.F ht⟩) hS.2.2 dX1_told_15
  · refine lv_aload_n hx hb dX1_told_4 rfl (lv_at hl 0 rfl) ?_
    refine va_get (D := (dC, dI)) (ci := iX1) (v := .long x) (C := RX1) (T := TX1) (N := 2) hx hb hts hin_X1 hown hK hR 0 rfl rfl 0 (by decide) hfl_13 (fun _ h9 => h9) rfl dX1_told_5 ?_
    refine lv_goto (tgt := 15) hx hb dX1_told_8 (by decide) ?_
    refine W.widen (k := 0) (n := 0) (by omega) (by omega) ?_
    exact W.lret (v := x) hx hb hr (fun t ht hW => ⟨⟨x, (), rfl, (by first | (simp [c_1]; done) | contradiction), trivial⟩, hS.F ht⟩) hS.2.2 dX1_told_15
end
section
/-! the gearing: what is asked -/
def rinF (n : Nat) (f : Nat → Option Nat) (i : Int32) : Option Nat := if i < 0 then none else if nI n ≤ i then none else f i.toNatClampNeg
def rtA (st : Nat) (bc : Nat → Option Nat) (i : Int32) : Nat := (rinF 7 bc i).getD st
def cmL (me : Nat → Int32) : Nat → Int32
  | 0 => 0
  | k + 1 => cmL me k + bcF (atF 12 me (nI k))
def cvL (bc : Nat → Option Nat) : Nat → Int32
  | 0 => 0
  | k + 1 => if rinF 7 bc (nI k) = none then cvL bc k else cvL bc k + 1
def ptL (st : Nat) (bc : Nat → Option Nat) (v : Nat → Int64 × Int64) : Nat → Int64
  | 0 => 1
  | k + 1 => if cdF (ptL st bc v k) (v (rtA st bc (nI k))).2 ≤ 0 then ptL st bc v k else ptL st bc v k / cdF (ptL st bc v k) (v (rtA st bc (nI k))).2 * (v (rtA st bc (nI k))).2
def iprL (p : Int64) (st : Nat) (bc : Nat → Option Nat) (v : Nat → Int64 × Int64) : Nat → Nat → Int32
  | 0, _ => if p ≤ 0 then 0 else 1
  | r + 1, k => if (v (rtA st bc (nI k))).2 ≤ 0 then iprL p st bc v r (k + 1) else if p - p / (v (rtA st bc (nI k))).2 * (v (rtA st bc (nI k))).2 = 0 then iprL p st bc v r (k + 1) else 0
theorem rinF_mem {LP : List Nat} {bc : Nat → Option Nat} (hbc : ∀ k, k < 7 → ∀ a, bc k = some a → a ∈ LP) {i : Int32} {a : Nat} (h : rinF 7 bc i = some a) : a ∈ LP := by
  unfold rinF at h
  split at h
  · cases h
  · split at h
    · cases h
    · rename_i h0 h1
      obtain ⟨j, hj, rfl⟩ := nI_of h0
      rw [nI_clamp hj] at h
      exact hbc j (Nat.lt_of_not_le fun z => h1 ((nI_leI (by decide) hj).mpr z)) a h
theorem rtA_mem {LP : List Nat} {bc : Nat → Option Nat} {st : Nat} (hst : st ∈ LP) (hbc : ∀ k, k < 7 → ∀ a, bc k = some a → a ∈ LP) (i : Int32) : rtA st bc i ∈ LP := by
  unfold rtA
  cases h : rinF 7 bc i with
  | none => exact hst
  | some a => exact rinF_mem hbc h

set_option maxHeartbeats 4000000 in
set_option maxRecDepth 100000 in
theorem c_X2_axleOf (l : Launch) (dC : Nat → ClassId) (dI : Nat → Nat → Nat) (cI cF : ClassId) (tr : List (ClassId × FieldType)) (sz : Nat) (g : Nat) (n : Nat) (xa : Nat) (xt : Nat) (xm : Nat) (wh : Nat) (st : Nat) (xb : Nat) (xc : Nat) (ax : Nat → Int32) (i : Int32) : Met l yX2_axleOf wsX2_axleOf ({ frames := 1, cells := 0, slots := 0, locals := 21 } : Room) (cPc dC dI ((cI, .int) :: (cF, .object RX1) :: tr) sz ([(g, .inr (iX2, [.int (nI n), .ref xa, .ref xt, .ref xm, .ref wh, .ref st, .ref xb, .ref xc])), (xa, .inl (cI, 12, .inl (ax)))]) [.ref g, .int i]) (va_Qi (fun (r : Int32) (_ : Unit) => r = atF 12 ax i) (fun _ _ => True) (va_A ([]) sz)) 0 0 (va_A ([]) sz) := by
  refine Met.ofW (cc := cX2_axleOf) (maxL := 2) (ret := (some .int)) (by decide) rfl ?_
  intro p e s m args below meth c s₁ B hml hv
  obtain ⟨rfl, hsz, hP, hK, hN⟩ := hv
  have hx := B.exec
  have hb := B.bytes
  have hr := B.returns
  have hts := atoms_spec (ws := wsX2_axleOf) B.pre
  have hown : s.vm.findClass RX2 = some m.cls := findClass_of_methodNamed B.named
  have hlocks := B.notSynchronized
  subst hsz
  generalize hAe : va_A [] s.heap.size = A
  have hA : ∀ q : Nat, s.heap.size ≤ q → A q := fun q h => by rw [← hAe]; exact Or.inr h
  have hS : va_S A s.heap s.heap [] := va_S.rf
  have hAn : ∀ q : Nat, q < s.heap.size → ¬ A q := fun q h => by rw [← hAe]; exact notZ h
  have hAg : ∀ q : Nat, A q → s.heap.size ≤ q := fun q h => geZ (hAe ▸ h)
  have hR0 : va_P (dC, dI) vwCl ([(g, .inr (iX2, [.int (nI n), .ref xa, .ref xt, .ref xm, .ref wh, .ref st, .ref xb, .ref xc])), (xa, .inl (cI, 12, .inl (ax)))]) s.heap := hP
  have hR : va_P (dC, dI) vwCl ([(g, .inr (iX2, [.int (nI n), .ref xa, .ref xt, .ref xm, .ref wh, .ref st, .ref xb, .ref xc])), (xa, .inl (cI, 12, .inl (ax)))]) s.heap := hP
  have hP : va_P (dC, dI) vwCl [] s.heap := fun k q h => by simp at h
  have hD : va_D A [] := ⟨fun i j p q h => by simp at h, fun k q h => by simp at h⟩
  have hl := lv_entry ([.ref g, .int i]) (n := 2) (Nat.le_of_ble_eq_true rfl)
  rw [lg_entry_eq]
  generalize (lg_sl ([.ref g, .int i]) ++ List.replicate (2 - (lg_sl ([.ref g, .int i])).length) Slot.unset).toArray = ls at hl ⊢
  have hl : lv_has ls 2 [(0, .ref g), (1, .int i)] := hl
  have hfl_9 := hts (.fieldLink RX2 9 "Greenwheels$Gearing" "axles" "[I") (by decide +kernel)
  have hin_X2 : ∀ w ∈ u_ws RX2 TX2 8, w ∈ wsX2_axleOf := by decide +kernel
  have hw_iniX5 := hts (.initialized RX5) (by decide +kernel)
  have hw_staX5_at := hts (.static yX5_at) (by decide +kernel)
  refine lv_aload_n hx hb dX2_axleOf_0 rfl (lv_at hl 0 rfl) ?_
  refine va_get (D := (dC, dI)) (ci := iX2) (v := .ref xa) (C := RX2) (T := TX2) (N := 8) hx hb hts hin_X2 hown hK hR 0 rfl rfl 1 (by decide) hfl_9 (fun _ h9 => h9) rfl dX2_axleOf_1 ?_
  refine lv_iload_n hx hb dX2_axleOf_4 rfl (lv_at hl 1 rfl) ?_
  have hPc : va_P (dC, dI) vwCl ([(xa, .inl (cI, 12, .inl (ax)))]) _ := hR.sub [1] rfl
  have hFc := frZ hS hA
  refine va_calli (va_runSN (host := RX5) (As := [.ref xa, .int i]) (rest := []) ⟨hx, hb, hml, hown, hts⟩ (c_X5_at l dC dI cI cF tr (s.heap).size xa 12 ax i (by decide)) ⟨va_cnB 2 hts gX2_axleOf_X5_at_n52 rfl rfl rfl (nwAt hN (RX2, 52, yX5_at) (by decide +kernel)) hw_iniX5 (by decide +kernel) ⟨Nat.le_of_ble_eq_true rfl, Nat.le_of_ble_eq_true rfl⟩, hw_staX5_at, trivial⟩ ⟨cBl, (cPre hPc hK hN)⟩ rfl rfl hl.1 rfl (lv_room (Nat.le_of_ble_eq_true rfl)) dX2_axleOf_5 ⟨(Nat.le_of_ble_eq_true rfl), (Nat.le_of_ble_eq_true rfl)⟩) hS (fun q _ h => hFc q h) hFc (fun r_1 u t H1 locs ht hvm hw_r_1 hB hz1 hk1 hS => ?_)
  refine W.widen (k := 0) (n := 0) (Nat.le_refl _) (Nat.le_refl _) ?_
  have hP := keepP hP hk1
  have hR := keepP hR hk1
  generalize H1 = H at hP hR hS ⊢
  have hP : va_P (dC, dI) vwCl ([]) H := hP
  try dsimp only at hw_r_1
  subst hw_r_1
  refine W.widen (k := 0) (n := 0) (by omega) (by omega) ?_
  exact W.iret (v := atF 12 ax i) hx hb hr (fun t ht hW => ⟨⟨atF 12 ax i, (), rfl, (by first | (simp []; done) | contradiction), trivial⟩, hS.F ht⟩) hS.2.2 dX2_axleOf_8

set_option maxHeartbeats 4000000 in
set_option maxRecDepth 100000 in
theorem c_X2_teethOf (l : Launch) (dC : Nat → ClassId) (dI : Nat → Nat → Nat) (cI cF : ClassId) (tr : List (ClassId × FieldType)) (sz : Nat) (g : Nat) (n : Nat) (xa : Nat) (xt : Nat) (xm : Nat) (wh : Nat) (st : Nat) (xb : Nat) (xc : Nat) (te : Nat → Int32) (i : Int32) : Met l yX2_teethOf wsX2_teethOf ({ frames := 1, cells := 0, slots := 0, locals := 21 } : Room) (cPc dC dI ((cI, .int) :: (cF, .object RX1) :: tr) sz ([(g, .inr (iX2, [.int (nI n), .ref xa, .ref xt, .ref xm, .ref wh, .ref st, .ref xb, .ref xc])), (xt, .inl (cI, 12, .inl (te)))]) [.ref g, .int i]) (va_Qi (fun (r : Int32) (_ : Unit) => r = atF 12 te i) (fun _ _ => True) (va_A ([]) sz)) 0 0 (va_A ([]) sz) := by
  refine Met.ofW (cc := cX2_teethOf) (maxL := 2) (ret := (some .int)) (by decide) rfl ?_
  intro p e s m args below meth c s₁ B hml hv
  obtain ⟨rfl, hsz, hP, hK, hN⟩ := hv
  have hx := B.exec
  have hb := B.bytes
  have hr := B.returns
  have hts := atoms_spec (ws := wsX2_teethOf) B.pre
  have hown : s.vm.findClass RX2 = some m.cls := findClass_of_methodNamed B.named
  have hlocks := B.notSynchronized
  subst hsz
  generalize hAe : va_A [] s.heap.size = A
  have hA : ∀ q : Nat, s.heap.size ≤ q → A q := fun q h => by rw [← hAe]; exact Or.inr h
  have hS : va_S A s.heap s.heap [] := va_S.rf
  have hAn : ∀ q : Nat, q < s.heap.size → ¬ A q := fun q h => by rw [← hAe]; exact notZ h
  have hAg : ∀ q : Nat, A q → s.heap.size ≤ q := fun q h => geZ (hAe ▸ h)
  have hR0 : va_P (dC, dI) vwCl ([(g, .inr (iX2, [.int (nI n), .ref xa, .ref xt, .ref xm, .ref wh, .ref st, .ref xb, .ref xc])), (xt, .inl (cI, 12, .inl (te)))]) s.heap := hP
  have hR : va_P (dC, dI) vwCl ([(g, .inr (iX2, [.int (nI n), .ref xa, .ref xt, .ref xm, .ref wh, .ref st, .ref xb, .ref xc])), (xt, .inl (cI, 12, .inl (te)))]) s.heap := hP
  have hP : va_P (dC, dI) vwCl [] s.heap := fun k q h => by simp at h
  have hD : va_D A [] := ⟨fun i j p q h => by simp at h, fun k q h => by simp at h⟩
  have hl := lv_entry ([.ref g, .int i]) (n := 2) (Nat.le_of_ble_eq_true rfl)
  rw [lg_entry_eq]
  generalize (lg_sl ([.ref g, .int i]) ++ List.replicate (2 - (lg_sl ([.ref g, .int i])).length) Slot.unset).toArray = ls at hl ⊢
  have hl : lv_has ls 2 [(0, .ref g), (1, .int i)] := hl
  have hfl_15 := hts (.fieldLink RX2 15 "Greenwheels$Gearing" "teeth" "[I") (by decide +kernel)
  have hin_X2 : ∀ w ∈ u_ws RX2 TX2 8, w ∈ wsX2_teethOf := by decide +kernel
  have hw_iniX5 := hts (.initialized RX5) (by decide +kernel)
  have hw_staX5_at := hts (.static yX5_at) (by decide +kernel)
  refine lv_aload_n hx hb dX2_teethOf_0 rfl (lv_at hl 0 rfl) ?_
  refine va_get (D := (dC, dI)) (ci := iX2) (v := .ref xt) (C := RX2) (T := TX2) (N := 8) hx hb hts hin_X2 hown hK hR 0 rfl rfl 2 (by decide) hfl_15 (fun _ h9 => h9) rfl dX2_teethOf_1 ?_
  refine lv_iload_n hx hb dX2_teethOf_4 rfl (lv_at hl 1 rfl) ?_
  have hPc : va_P (dC, dI) vwCl ([(xt, .inl (cI, 12, .inl (te)))]) _ := hR.sub [1] rfl
  have hFc := frZ hS hA
  refine va_calli (va_runSN (host := RX5) (As := [.ref xt, .int i]) (rest := []) ⟨hx, hb, hml, hown, hts⟩ (c_X5_at l dC dI cI cF tr (s.heap).size xt 12 te i (by decide)) ⟨va_cnB 2 hts gX2_teethOf_X5_at_n52 rfl rfl rfl (nwAt hN (RX2, 52, yX5_at) (by decide +kernel)) hw_iniX5 (by decide +kernel) ⟨Nat.le_of_ble_eq_true rfl, Nat.le_of_ble_eq_true rfl⟩, hw_staX5_at, trivial⟩ ⟨cBl, (cPre hPc hK hN)⟩ rfl rfl hl.1 rfl (lv_room (Nat.le_of_ble_eq_true rfl)) dX2_teethOf_5 ⟨(Nat.le_of_ble_eq_true rfl), (Nat.le_of_ble_eq_true rfl)⟩) hS (fun q _ h => hFc q h) hFc (fun r_1 u t H1 locs ht hvm hw_r_1 hB hz1 hk1 hS => ?_)
  refine W.widen (k := 0) (n := 0) (Nat.le_refl _) (Nat.le_refl _) ?_
  have hP := keepP hP hk1
  have hR := keepP hR hk1
  generalize H1 = H at hP hR hS ⊢
  have hP : va_P (dC, dI) vwCl ([]) H := hP
  try dsimp only at hw_r_1
  subst hw_r_1
  refine W.widen (k := 0) (n := 0) (by omega) (by omega) ?_
  exact W.iret (v := atF 12 te i) hx hb hr (fun t ht hW => ⟨⟨atF 12 te i, (), rfl, (by first | (simp []; done) | contradiction), trivial⟩, hS.F ht⟩) hS.2.2 dX2_teethOf_8

set_option maxHeartbeats 4000000 in
set_option maxRecDepth 100000 in
theorem c_X2_meshedWith (l : Launch) (dC : Nat → ClassId) (dI : Nat → Nat → Nat) (cI cF : ClassId) (tr : List (ClassId × FieldType)) (sz : Nat) (g : Nat) (n : Nat) (xa : Nat) (xt : Nat) (xm : Nat) (wh : Nat) (st : Nat) (xb : Nat) (xc : Nat) (me : Nat → Int32) (i : Int32) : Met l yX2_meshedWith wsX2_meshedWith ({ frames := 1, cells := 0, slots := 0, locals := 21 } : Room) (cPc dC dI ((cI, .int) :: (cF, .object RX1) :: tr) sz ([(g, .inr (iX2, [.int (nI n), .ref xa, .ref xt, .ref xm, .ref wh, .ref st, .ref xb, .ref xc])), (xm, .inl (cI, 12, .inl (me)))]) [.ref g, .int i]) (va_Qi (fun (r : Int32) (_ : Unit) => r = atF 12 me i) (fun _ _ => True) (va_A ([]) sz)) 0 0 (va_A ([]) sz) := by
  refine Met.ofW (cc := cX2_meshedWith) (maxL := 2) (ret := (some .int)) (by decide) rfl ?_
  intro p e s m args below meth c s₁ B hml hv
  obtain ⟨rfl, hsz, hP, hK, hN⟩ := hv
  have hx := B.exec
  have hb := B.bytes
  have hr := B.returns
  have hts := atoms_spec (ws := wsX2_meshedWith) B.pre
  have hown : s.vm.findClass RX2 = some m.cls := findClass_of_methodNamed B.named
  have hlocks := B.notSynchronized
  subst hsz
  generalize hAe : va_A [] s.heap.size = A
  have hA : ∀ q : Nat, s.heap.size ≤ q → A q := fun q h => by rw [← hAe]; exact Or.inr h
  have hS : va_S A s.heap s.heap [] := va_S.rf
  have hAn : ∀ q : Nat, q < s.heap.size → ¬ A q := fun q h => by rw [← hAe]; exact notZ h
  have hAg : ∀ q : Nat, A q → s.heap.size ≤ q := fun q h => geZ (hAe ▸ h)
  have hR0 : va_P (dC, dI) vwCl ([(g, .inr (iX2, [.int (nI n), .ref xa, .ref xt, .ref xm, .ref wh, .ref st, .ref xb, .ref xc])), (xm, .inl (cI, 12, .inl (me)))]) s.heap := hP
  have hR : va_P (dC, dI) vwCl ([(g, .inr (iX2, [.int (nI n), .ref xa, .ref xt, .ref xm, .ref wh, .ref st, .ref xb, .ref xc])), (xm, .inl (cI, 12, .inl (me)))]) s.heap := hP
  have hP : va_P (dC, dI) vwCl [] s.heap := fun k q h => by simp at h
  have hD : va_D A [] := ⟨fun i j p q h => by simp at h, fun k q h => by simp at h⟩
  have hl := lv_entry ([.ref g, .int i]) (n := 2) (Nat.le_of_ble_eq_true rfl)
  rw [lg_entry_eq]
  generalize (lg_sl ([.ref g, .int i]) ++ List.replicate (2 - (lg_sl ([.ref g, .int i])).length) Slot.unset).toArray = ls at hl ⊢
  have hl : lv_has ls 2 [(0, .ref g), (1, .int i)] := hl
  have hfl_18 := hts (.fieldLink RX2 18 "Greenwheels$Gearing" "meshSets" "[I") (by decide +kernel)
  have hin_X2 : ∀ w ∈ u_ws RX2 TX2 8, w ∈ wsX2_meshedWith := by decide +kernel
  have hw_iniX5 := hts (.initialized RX5) (by decide +kernel)
  have hw_staX5_at := hts (.static yX5_at) (by decide +kernel)
  refine lv_aload_n hx hb dX2_meshedWith_0 rfl (lv_at hl 0 rfl) ?_
  refine va_get (D := (dC, dI)) (ci := iX2) (v := .ref xm) (C := RX2) (T := TX2) (N := 8) hx hb hts hin_X2 hown hK hR 0 rfl rfl 3 (by decide) hfl_18 (fun _ h9 => h9) rfl dX2_meshedWith_1 ?_
  refine lv_iload_n hx hb dX2_meshedWith_4 rfl (lv_at hl 1 rfl) ?_
  have hPc : va_P (dC, dI) vwCl ([(xm, .inl (cI, 12, .inl (me)))]) _ := hR.sub [1] rfl
  have hFc := frZ hS hA
  refine va_calli (va_runSN (host := RX5) (As := [.ref xm, .int i]) (rest := []) ⟨hx, hb, hml, hown, hts⟩ (c_X5_at l dC dI cI cF tr (s.heap).size xm 12 me i (by decide)) ⟨va_cnB 2 hts gX2_meshedWith_X5_at_n52 rfl rfl rfl (nwAt hN (RX2, 52, yX5_at) (by decide +kernel)) hw_iniX5 (by decide +kernel) ⟨Nat.le_of_ble_eq_true rfl, Nat.le_of_ble_eq_true rfl⟩, hw_staX5_at, trivial⟩ ⟨cBl, (cPre hPc hK hN)⟩ rfl rfl hl.1 rfl (lv_room (Nat.le_of_ble_eq_true rfl)) dX2_meshedWith_5 ⟨(Nat.le_of_ble_eq_true rfl), (Nat.le_of_ble_eq_true rfl)⟩) hS (fun q _ h => hFc q h) hFc (fun r_1 u t H1 locs ht hvm hw_r_1 hB hz1 hk1 hS => ?_)
  refine W.widen (k := 0) (n := 0) (Nat.le_refl _) (Nat.le_refl _) ?_
  have hP := keepP hP hk1
  have hR := keepP hR hk1
  generalize H1 = H at hP hR hS ⊢
  have hP : va_P (dC, dI) vwCl ([]) H := hP
  try dsimp only at hw_r_1
  subst hw_r_1
  refine W.widen (k := 0) (n := 0) (by omega) (by omega) ?_
  exact W.iret (v := atF 12 me i) hx hb hr (fun t ht hW => ⟨⟨atF 12 me i, (), rfl, (by first | (simp []; done) | contradiction), trivial⟩, hS.F ht⟩) hS.2.2 dX2_meshedWith_8

set_option maxHeartbeats 4000000 in
set_option maxRecDepth 100000 in
theorem c_X2_areOnOneAxle (l : Launch) (dC : Nat → ClassId) (dI : Nat → Nat → Nat) (cI cF : ClassId) (tr : List (ClassId × FieldType)) (sz : Nat) (g : Nat) (n : Nat) (xa : Nat) (xt : Nat) (xm : Nat) (wh : Nat) (st : Nat) (xb : Nat) (xc : Nat) (ax : Nat → Int32) (i : Int32) (j : Int32) : Met l yX2_areOnOneAxle wsX2_areOnOneAxle ({ frames := 2, cells := 0, slots := 0, locals := 42 } : Room) (cPc dC dI ((cI, .int) :: (cF, .object RX1) :: tr) sz ([(g, .inr (iX2, [.int (nI n), .ref xa, .ref xt, .ref xm, .ref wh, .ref st, .ref xb, .ref xc])), (xa, .inl (cI, 12, .inl (ax)))]) [.ref g, .int i, .int j]) (va_Qi (fun (r : Int32) (_ : Unit) => r = if atF 12 ax i = atF 12 ax j then 1 else 0) (fun _ _ => True) (va_A ([]) sz)) 0 0 (va_A ([]) sz) := by
  refine Met.ofW (cc := cX2_areOnOneAxle) (maxL := 3) (ret := (some .boolean)) (by decide) rfl ?_
  intro p e s m args below meth c s₁ B hml hv
  obtain ⟨rfl, hsz, hP, hK, hN⟩ := hv
  have hx := B.exec
  have hb := B.bytes
  have hr := B.returns
  have hts := atoms_spec (ws := wsX2_areOnOneAxle) B.pre
  have hown : s.vm.findClass RX2 = some m.cls := findClass_of_methodNamed B.named
  have hlocks := B.notSynchronized
  subst hsz
  generalize hAe : va_A [] s.heap.size = A
  have hA : ∀ q : Nat, s.heap.size ≤ q → A q := fun q h => by rw [← hAe]; exact Or.inr h
  have hS : va_S A s.heap s.heap [] := va_S.rf
  have hAn : ∀ q : Nat, q < s.heap.size → ¬ A q := fun q h => by rw [← hAe]; exact notZ h
  have hAg : ∀ q : Nat, A q → s.heap.size ≤ q := fun q h => geZ (hAe ▸ h)
  have hR0 : va_P (dC, dI) vwCl ([(g, .inr (iX2, [.int (nI n), .ref xa, .ref xt, .ref xm, .ref wh, .ref st, .ref xb, .ref xc])), (xa, .inl (cI, 12, .inl (ax)))]) s.heap := hP
  have hR : va_P (dC, dI) vwCl ([(g, .inr (iX2, [.int (nI n), .ref xa, .ref xt, .ref xm, .ref wh, .ref st, .ref xb, .ref xc])), (xa, .inl (cI, 12, .inl (ax)))]) s.heap := hP
  have hP : va_P (dC, dI) vwCl [] s.heap := fun k q h => by simp at h
  have hD : va_D A [] := ⟨fun i j p q h => by simp at h, fun k q h => by simp at h⟩
  have hl := lv_entry ([.ref g, .int i, .int j]) (n := 3) (Nat.le_of_ble_eq_true rfl)
  rw [lg_entry_eq]
  generalize (lg_sl ([.ref g, .int i, .int j]) ++ List.replicate (3 - (lg_sl ([.ref g, .int i, .int j])).length) Slot.unset).toArray = ls at hl ⊢
  have hl : lv_has ls 3 [(0, .ref g), (1, .int i), (2, .int j)] := hl
  refine lv_aload_n hx hb dX2_areOnOneAxle_0 rfl (lv_at hl 0 rfl) ?_
  refine lv_iload_n hx hb dX2_areOnOneAxle_1 rfl (lv_at hl 1 rfl) ?_
  have hPc : va_P (dC, dI) vwCl ([(g, .inr (iX2, [.int (nI n), .ref xa, .ref xt, .ref xm, .ref wh, .ref st, .ref xb, .ref xc])), (xa, .inl (cI, 12, .inl (ax)))]) _ := hR.sub [0, 1] rfl
  have hFc := frZ hS hA
  refine va_calli (va_runV (As := [.int i]) (rest := []) ⟨hx, hb, hml, hown, hts⟩ (c_X2_axleOf l dC dI cI cF tr (s.heap).size g n xa xt xm wh st xb xc ax i) (cwV 1 hts gX2_areOnOneAxle_X2_axleOf rfl rfl rfl (by decide +kernel) ⟨Nat.le_of_ble_eq_true rfl, Nat.le_of_ble_eq_true rfl⟩) ⟨cBl, (va_recv hK hPc (ci := iX2) (q0 := 0) rfl rfl), (cPre hPc hK hN)⟩ rfl rfl hl.1 rfl (lv_room (Nat.le_of_ble_eq_true rfl)) dX2_areOnOneAxle_2 ⟨(Nat.le_of_ble_eq_true rfl), (Nat.le_of_ble_eq_true rfl)⟩) hS (fun q _ h => hFc q h) hFc (fun r_1 u t H1 locs ht hvm hw_r_1 hB hz1 hk1 hS => ?_)
  refine W.widen (k := 0) (n := 0) (Nat.le_refl _) (Nat.le_refl _) ?_
  have hP := keepP hP hk1
  have hR := keepP hR hk1
  generalize H1 = H at hP hR hS ⊢
  have hP : va_P (dC, dI) vwCl ([]) H := hP
  try dsimp only at hw_r_1
  subst hw_r_1
  refine lv_aload_n hx hb dX2_areOnOneAxle_5 rfl (lv_at hl 0 rfl) ?_
  refine lv_iload_n hx hb dX2_areOnOneAxle_6 rfl (lv_at hl 2 rfl) ?_
  have hPc : va_P (dC, dI) vwCl ([(g, .inr (iX2, [.int (nI n), .ref xa, .ref xt, .ref xm, .ref wh, .ref st, .ref xb, .ref xc])), (xa, .inl (cI, 12, .inl (ax)))]) _ := hR.sub [0, 1] rfl
  have hFc := frZ hS hA
  refine va_calli (va_runV (As := [.int j]) (rest := [.int (atF 12 ax i)]) ⟨hx, hb, hml, hown, hts⟩ (c_X2_axleOf l dC dI cI cF tr (H).size g n xa xt xm wh st xb xc ax j) (cwV 1 hts gX2_areOnOneAxle_X2_axleOf rfl rfl rfl (by decide +kernel) ⟨Nat.le_of_ble_eq_true rfl, Nat.le_of_ble_eq_true rfl⟩) ⟨cBl, (va_recv hK hPc (ci := iX2) (q0 := 0) rfl rfl), (cPre hPc hK hN)⟩ rfl rfl hl.1 rfl (lv_room (Nat.le_of_ble_eq_true rfl)) dX2_areOnOneAxle_7 ⟨(Nat.le_of_ble_eq_true rfl), (Nat.le_of_ble_eq_true rfl)⟩) hS (fun q _ h => hFc q h) hFc (fun r_2 u t H1 locs ht hvm hw_r_2 hB hz1 hk1 hS => ?_)
  refine W.widen (k := 0) (n := 0) (Nat.le_refl _) (Nat.le_refl _) ?_
  have hP := keepP hP hk1
  have hR := keepP hR hk1
  generalize H1 = H at hP hR hS ⊢
  have hP : va_P (dC, dI) vwCl ([]) H := hP
  try dsimp only at hw_r_2
  subst hw_r_2
  refine lv_icmp_ne (tgt := 17) hx hb dX2_areOnOneAxle_10 (by decide) (fun c_3 => ?_) (fun c_3 => ?_)
  · refine lv_iconst (v := 0) hx hb dX2_areOnOneAxle_17 (by decide) ?_
    refine W.widen (k := 0) (n := 0) (by omega) (by omega) ?_
    exact W.zret (v := 0) hx hb hr (by first | rfl | simp [narrow] | assumption) (fun t ht hW => ⟨⟨0, (), rfl, (by first | (simp [c_3]; done) | contradiction), trivial⟩, hS.F ht⟩) hS.2.2 dX2_areOnOneAxle_18
  · refine lv_iconst (v := 1) hx hb dX2_areOnOneAxle_13 (by decide) ?_
    refine lv_goto (tgt := 18) hx hb dX2_areOnOneAxle_14 (by decide) ?_
    refine W.widen (k := 0) (n := 0) (by omega) (by omega) ?_
    exact W.zret (v := 1) hx hb hr (by first | rfl | simp [narrow] | assumption) (fun t ht hW => ⟨⟨1, (), rfl, (by first | (simp [c_3]; done) | contradiction), trivial⟩, hS.F ht⟩) hS.2.2 dX2_areOnOneAxle_18

set_option maxHeartbeats 4000000 in
set_option maxRecDepth 100000 in
theorem c_X2_areMeshed (l : Launch) (dC : Nat → ClassId) (dI : Nat → Nat → Nat) (cI cF : ClassId) (tr : List (ClassId × FieldType)) (sz : Nat) (g : Nat) (n : Nat) (xa : Nat) (xt : Nat) (xm : Nat) (wh : Nat) (st : Nat) (xb : Nat) (xc : Nat) (me : Nat → Int32) (i : Int32) (j : Int32) : Met l yX2_areMeshed wsX2_areMeshed ({ frames := 2, cells := 0, slots := 0, locals := 42 } : Room) (cPc dC dI ((cI, .int) :: (cF, .object RX1) :: tr) sz ([(g, .inr (iX2, [.int (nI n), .ref xa, .ref xt, .ref xm, .ref wh, .ref st, .ref xb, .ref xc])), (xm, .inl (cI, 12, .inl (me)))]) [.ref g, .int i, .int j]) (va_Qi (fun (r : Int32) (_ : Unit) => r = isInF (atF 12 me i) j) (fun _ _ => True) (va_A ([]) sz)) 0 0 (va_A ([]) sz) := by
  refine Met.ofW (cc := cX2_areMeshed) (maxL := 3) (ret := (some .boolean)) (by decide) rfl ?_
  intro p e s m args below meth c s₁ B hml hv
  obtain ⟨rfl, hsz, hP, hK, hN⟩ := hv
  have hx := B.exec
  have hb := B.bytes
  have hr := B.returns
  have hts := atoms_spec (ws := wsX2_areMeshed) B.pre
  have hown : s.vm.findClass RX2 = some m.cls := findClass_of_methodNamed B.named
  have hlocks := B.notSynchronized
  subst hsz
  generalize hAe : va_A [] s.heap.size = A
  have hA : ∀ q : Nat, s.heap.size ≤ q → A q := fun q h => by rw [← hAe]; exact Or.inr h
  have hS : va_S A s.heap s.heap [] := va_S.rf
  have hAn : ∀ q : Nat, q < s.heap.size → ¬ A q := fun q h => by rw [← hAe]; exact notZ h
  have hAg : ∀ q : Nat, A q → s.heap.size ≤ q := fun q h => geZ (hAe ▸ h)
  have hR0 : va_P (dC, dI) vwCl ([(g, .inr (iX2, [.int (nI n), .ref xa, .ref xt, .ref xm, .ref wh, .ref st, .ref xb, .ref xc])), (xm, .inl (cI, 12, .inl (me)))]) s.heap := hP
  have hR : va_P (dC, dI) vwCl ([(g, .inr (iX2, [.int (nI n), .ref xa, .ref xt, .ref xm, .ref wh, .ref st, .ref xb, .ref xc])), (xm, .inl (cI, 12, .inl (me)))]) s.heap := hP
  have hP : va_P (dC, dI) vwCl [] s.heap := fun k q h => by simp at h
  have hD : va_D A [] := ⟨fun i j p q h => by simp at h, fun k q h => by simp at h⟩
  have hl := lv_entry ([.ref g, .int i, .int j]) (n := 3) (Nat.le_of_ble_eq_true rfl)
  rw [lg_entry_eq]
  generalize (lg_sl ([.ref g, .int i, .int j]) ++ List.replicate (3 - (lg_sl ([.ref g, .int i, .int j])).length) Slot.unset).toArray = ls at hl ⊢
  have hl : lv_has ls 3 [(0, .ref g), (1, .int i), (2, .int j)] := hl
  have hw_iniX5 := hts (.initialized RX5) (by decide +kernel)
  have hw_staX5_isIn := hts (.static yX5_isIn) (by decide +kernel)
  refine lv_aload_n hx hb dX2_areMeshed_0 rfl (lv_at hl 0 rfl) ?_
  refine lv_iload_n hx hb dX2_areMeshed_1 rfl (lv_at hl 1 rfl) ?_
  have hPc : va_P (dC, dI) vwCl ([(g, .inr (iX2, [.int (nI n), .ref xa, .ref xt, .ref xm, .ref wh, .ref st, .ref xb, .ref xc])), (xm, .inl (cI, 12, .inl (me)))]) _ := hR.sub [0, 1] rfl
  have hFc := frZ hS hA
  refine va_calli (va_runV (As := [.int i]) (rest := []) ⟨hx, hb, hml, hown, hts⟩ (c_X2_meshedWith l dC dI cI cF tr (s.heap).size g n xa xt xm wh st xb xc me i) (cwV 1 hts gX2_areMeshed_X2_meshedWith rfl rfl rfl (by decide +kernel) ⟨Nat.le_of_ble_eq_true rfl, Nat.le_of_ble_eq_true rfl⟩) ⟨cBl, (va_recv hK hPc (ci := iX2) (q0 := 0) rfl rfl), (cPre hPc hK hN)⟩ rfl rfl hl.1 rfl (lv_room (Nat.le_of_ble_eq_true rfl)) dX2_areMeshed_2 ⟨(Nat.le_of_ble_eq_true rfl), (Nat.le_of_ble_eq_true rfl)⟩) hS (fun q _ h => hFc q h) hFc (fun r_1 u t H1 locs ht hvm hw_r_1 hB hz1 hk1 hS => ?_)
  refine W.widen (k := 0) (n := 0) (Nat.le_refl _) (Nat.le_refl _) ?_
  have hP := keepP hP hk1
  have hR := keepP hR hk1
  generalize H1 = H at hP hR hS ⊢
  have hP : va_P (dC, dI) vwCl ([]) H := hP
  try dsimp only at hw_r_1
  subst hw_r_1
  refine lv_iload_n hx hb dX2_areMeshed_5 rfl (lv_at hl 2 rfl) ?_
  have hPc : va_P (dC, dI) vwCl [] H := nilP
  have hFc := frZ hS hA
  refine va_calli (va_runSN (host := RX5) (As := [.int (atF 12 me i), .int j]) (rest := []) ⟨hx, hb, hml, hown, hts⟩ (c_X5_isIn l dC dI cI cF tr (H).size (atF 12 me i) j) ⟨va_cnB 2 hts gX2_areMeshed_X5_isIn_n63 rfl rfl rfl (nwAt hN (RX2, 63, yX5_isIn) (by decide +kernel)) hw_iniX5 (by decide +kernel) ⟨Nat.le_of_ble_eq_true rfl, Nat.le_of_ble_eq_true rfl⟩, hw_staX5_isIn, trivial⟩ ⟨cBl, (cPre hPc hK hN)⟩ rfl rfl hl.1 rfl (lv_room (Nat.le_of_ble_eq_true rfl)) dX2_areMeshed_6 ⟨(Nat.le_of_ble_eq_true rfl), (Nat.le_of_ble_eq_true rfl)⟩) hS (fun q _ h => hFc q h) hFc (fun r_2 u t H1 locs ht hvm hw_r_2 hB hz1 hk1 hS => ?_)
  refine W.widen (k := 0) (n := 0) (Nat.le_refl _) (Nat.le_refl _) ?_
  have hP := keepP hP hk1
  have hR := keepP hR hk1
  generalize H1 = H at hP hR hS ⊢
  have hP : va_P (dC, dI) vwCl ([]) H := hP
  try dsimp only at hw_r_2
  subst hw_r_2
  refine W.widen (k := 0) (n := 0) (by omega) (by omega) ?_
  exact W.zret (v := isInF (atF 12 me i) j) hx hb hr (isInF_01 _ _) (fun t ht hW => ⟨⟨isInF (atF 12 me i) j, (), rfl, (by first | (simp []; done) | contradiction), trivial⟩, hS.F ht⟩) hS.2.2 dX2_areMeshed_9

set_option maxHeartbeats 4000000 in
set_option maxRecDepth 100000 in
theorem c_X2_rateIn (l : Launch) (dC : Nat → ClassId) (dI : Nat → Nat → Nat) (cI cF : ClassId) (tr : List (ClassId × FieldType)) (sz : Nat) (h : Nat) (f : Nat → Option Nat) (i : Int32) : Met l yX2_rateIn wsX2_rateIn ({ frames := 0, cells := 0, slots := 0, locals := 0 } : Room) (cPc dC dI ((cI, .int) :: (cF, .object RX1) :: tr) sz ([(h, .inl (cF, 7, .inr (.inr (.inr (.inr (f))))))]) [.ref h, .int i]) (va_Qq (fun (r : Option Nat) (_ : Unit) => r = rinF 7 f i) (fun _ _ => True) (va_A ([]) sz)) 0 0 (va_A ([]) sz) := by
  refine Met.ofW (cc := cX2_rateIn) (maxL := 2) (ret := (some (.object "Greenwheels$Fraction"))) (by decide) rfl ?_
  intro p e s m args below meth c s₁ B hml hv
  obtain ⟨rfl, hsz, hP, hK, hN⟩ := hv
  have hx := B.exec
  have hb := B.bytes
  have hr := B.returns
  have hts := atoms_spec (ws := wsX2_rateIn) B.pre
  have hown : s.vm.findClass RX2 = some m.cls := findClass_of_methodNamed B.named
  have hlocks := B.notSynchronized
  subst hsz
  generalize hAe : va_A [] s.heap.size = A
  have hA : ∀ q : Nat, s.heap.size ≤ q → A q := fun q h => by rw [← hAe]; exact Or.inr h
  have hS : va_S A s.heap s.heap [] := va_S.rf
  have hAn : ∀ q : Nat, q < s.heap.size → ¬ A q := fun q h => by rw [← hAe]; exact notZ h
  have hAg : ∀ q : Nat, A q → s.heap.size ≤ q := fun q h => geZ (hAe ▸ h)
  have hR0 : va_P (dC, dI) vwCl ([(h, .inl (cF, 7, .inr (.inr (.inr (.inr (f))))))]) s.heap := hP
  have hR : va_P (dC, dI) vwCl ([(h, .inl (cF, 7, .inr (.inr (.inr (.inr (f))))))]) s.heap := hP
  have hP : va_P (dC, dI) vwCl [] s.heap := fun k q h => by simp at h
  have hD : va_D A [] := ⟨fun i j p q h => by simp at h, fun k q h => by simp at h⟩
  have hl := lv_entry ([.ref h, .int i]) (n := 2) (Nat.le_of_ble_eq_true rfl)
  rw [lg_entry_eq]
  generalize (lg_sl ([.ref h, .int i]) ++ List.replicate (2 - (lg_sl ([.ref h, .int i])).length) Slot.unset).toArray = ls at hl ⊢
  have hl : lv_has ls 2 [(0, .ref h), (1, .int i)] := hl
  refine lv_iload_n hx hb dX2_rateIn_0 rfl (lv_at hl 1 rfl) ?_
  refine lv_if_lt (tgt := 16) hx hb dX2_rateIn_1 (by decide) (fun c_1 => ?_) (fun c_1 => ?_)
  · refine lv_null hx hb dX2_rateIn_16 ?_
    refine W.widen (k := 0) (n := 0) (by omega) (by omega) ?_
    exact W.aret (v := .null) hx hb hr (Or.inl ⟨_, rfl⟩) (Or.inl rfl) (fun t ht hW => ⟨⟨none, (), rfl, (by first | (simp [rinF, c_1]; done) | contradiction), trivial⟩, hS.F ht⟩) hS.2.2 dX2_rateIn_17
  · refine lv_iload_n hx hb dX2_rateIn_4 rfl (lv_at hl 1 rfl) ?_
    refine lv_aload_n hx hb dX2_rateIn_5 rfl (lv_at hl 0 rfl) ?_
    refine va_alen (D := (dC, dI)) (v := nI 7) hx hb hK hR 0 1 rfl rfl rfl dX2_rateIn_6 ?_
    refine lv_icmp_ge (tgt := 16) hx hb dX2_rateIn_7 (by decide) (fun c_2 => ?_) (fun c_2 => ?_)
    · refine lv_null hx hb dX2_rateIn_16 ?_
      refine W.widen (k := 0) (n := 0) (by omega) (by omega) ?_
      exact W.aret (v := .null) hx hb hr (Or.inl ⟨_, rfl⟩) (Or.inl rfl) (fun t ht hW => ⟨⟨none, (), rfl, (by first | (simp [rinF, c_1, c_2]; done) | contradiction), trivial⟩, hS.F ht⟩) hS.2.2 dX2_rateIn_17
    · refine lv_aload_n hx hb dX2_rateIn_10 rfl (lv_at hl 0 rfl) ?_
      refine lv_iload_n hx hb dX2_rateIn_11 rfl (lv_at hl 1 rfl) ?_
      refine va_aldq (D := (dC, dI)) hx hb hK hR 0 1 rfl rfl (vpin_of (by decide) c_1 c_2) dX2_rateIn_12 ?_
      refine lv_goto (tgt := 17) hx hb dX2_rateIn_13 (by decide) ?_
      refine W.widen (k := 0) (n := 0) (by omega) (by omega) ?_
      exact W.aret (v := va_rf (f (i).toNatClampNeg)) hx hb hr (Or.inl ⟨_, rfl⟩) (rfOr _) (fun t ht hW => ⟨⟨f (i).toNatClampNeg, (), rfl, (by first | (simp [rinF, c_1, c_2]; done) | contradiction), trivial⟩, hS.F ht⟩) hS.2.2 dX2_rateIn_17

set_option maxHeartbeats 4000000 in
set_option maxRecDepth 100000 in
theorem c_X2_isMoved (l : Launch) (dC : Nat → ClassId) (dI : Nat → Nat → Nat) (cI cF : ClassId) (tr : List (ClassId × FieldType)) (sz : Nat) (g : Nat) (n : Nat) (xa : Nat) (xt : Nat) (xm : Nat) (wh : Nat) (st : Nat) (xb : Nat) (xc : Nat) (bc : Nat → Option Nat) (i : Int32) : Met l yX2_isMoved wsX2_isMoved ({ frames := 1, cells := 0, slots := 0, locals := 21 } : Room) (cPc dC dI ((cI, .int) :: (cF, .object RX1) :: tr) sz ([(g, .inr (iX2, [.int (nI n), .ref xa, .ref xt, .ref xm, .ref wh, .ref st, .ref xb, .ref xc])), (xb, .inl (cF, 7, .inr (.inr (.inr (.inr (bc))))))]) [.ref g, .int i]) (va_Qi (fun (r : Int32) (_ : Unit) => r = if rinF 7 bc i = none then 0 else 1) (fun _ _ => True) (va_A ([]) sz)) 0 0 (va_A ([]) sz) := by
  refine Met.ofW (cc := cX2_isMoved) (maxL := 2) (ret := (some .boolean)) (by decide) rfl ?_
  intro p e s m args below meth c s₁ B hml hv
  obtain ⟨rfl, hsz, hP, hK, hN⟩ := hv
  have hx := B.exec
  have hb := B.bytes
  have hr := B.returns
  have hts := atoms_spec (ws := wsX2_isMoved) B.pre
  have hown : s.vm.findClass RX2 = some m.cls := findClass_of_methodNamed B.named
  have hlocks := B.notSynchronized
  subst hsz
  generalize hAe : va_A [] s.heap.size = A
  have hA : ∀ q : Nat, s.heap.size ≤ q → A q := fun q h => by rw [← hAe]; exact Or.inr h
  have hS : va_S A s.heap s.heap [] := va_S.rf
  have hAn : ∀ q : Nat, q < s.heap.size → ¬ A q := fun q h => by rw [← hAe]; exact notZ h
  have hAg : ∀ q : Nat, A q → s.heap.size ≤ q := fun q h => geZ (hAe ▸ h)
  have hR0 : va_P (dC, dI) vwCl ([(g, .inr (iX2, [.int (nI n), .ref xa, .ref xt, .ref xm, .ref wh, .ref st, .ref xb, .ref xc])), (xb, .inl (cF, 7, .inr (.inr (.inr (.inr (bc))))))]) s.heap := hP
  have hR : va_P (dC, dI) vwCl ([(g, .inr (iX2, [.int (nI n), .ref xa, .ref xt, .ref xm, .ref wh, .ref st, .ref xb, .ref xc])), (xb, .inl (cF, 7, .inr (.inr (.inr (.inr (bc))))))]) s.heap := hP
  have hP : va_P (dC, dI) vwCl [] s.heap := fun k q h => by simp at h
  have hD : va_D A [] := ⟨fun i j p q h => by simp at h, fun k q h => by simp at h⟩
  have hl := lv_entry ([.ref g, .int i]) (n := 2) (Nat.le_of_ble_eq_true rfl)
  rw [lg_entry_eq]
  generalize (lg_sl ([.ref g, .int i]) ++ List.replicate (2 - (lg_sl ([.ref g, .int i])).length) Slot.unset).toArray = ls at hl ⊢
  have hl : lv_has ls 2 [(0, .ref g), (1, .int i)] := hl
  have hfl_33 := hts (.fieldLink RX2 33 "Greenwheels$Gearing" "byCrank" "[LGreenwheels$Fraction;") (by decide +kernel)
  have hin_X2 : ∀ w ∈ u_ws RX2 TX2 8, w ∈ wsX2_isMoved := by decide +kernel
  refine lv_aload_n hx hb dX2_isMoved_0 rfl (lv_at hl 0 rfl) ?_
  refine va_get (D := (dC, dI)) (ci := iX2) (v := .ref xb) (C := RX2) (T := TX2) (N := 8) hx hb hts hin_X2 hown hK hR 0 rfl rfl 6 (by decide) hfl_33 (fun _ h9 => h9) rfl dX2_isMoved_1 ?_
  refine lv_iload_n hx hb dX2_isMoved_4 rfl (lv_at hl 1 rfl) ?_
  have hPc : va_P (dC, dI) vwCl ([(xb, .inl (cF, 7, .inr (.inr (.inr (.inr (bc))))))]) _ := hR.sub [1] rfl
  have hFc := frZ hS hA
  refine va_callq (va_runS (As := [.ref xb, .int i]) (rest := []) ⟨hx, hb, hml, hown, hts⟩ (c_X2_rateIn l dC dI cI cF tr (s.heap).size xb bc i) (va_cwS 2 hts gX2_isMoved_X2_rateIn rfl rfl rfl (by decide +kernel) ⟨Nat.le_of_ble_eq_true rfl, Nat.le_of_ble_eq_true rfl⟩) ⟨cBl, (cPre hPc hK hN)⟩ rfl rfl hl.1 rfl (lv_room (Nat.le_of_ble_eq_true rfl)) dX2_isMoved_5 ⟨(Nat.le_of_ble_eq_true rfl), (Nat.le_of_ble_eq_true rfl)⟩) hS (fun q _ h => hFc q h) hFc (fun r_1 u t H1 locs ht hvm hw_r_1 hB hz1 hk1 hS => ?_)
  refine W.widen (k := 0) (n := 0) (Nat.le_refl _) (Nat.le_refl _) ?_
  have hP := keepP hP hk1
  have hR := keepP hR hk1
  generalize H1 = H at hP hR hS ⊢
  have hP : va_P (dC, dI) vwCl ([]) H := hP
  try dsimp only at hw_r_1
  subst hw_r_1
  rcases hq_3 : rinF 7 bc i with _ | a_2
  · refine lv_ifnullN (tgt := 15) hx hb dX2_isMoved_8 (by decide) ?_
    refine lv_iconst (v := 0) hx hb dX2_isMoved_15 (by decide) ?_
    refine W.widen (k := 0) (n := 0) (by omega) (by omega) ?_
    exact W.zret (v := 0) hx hb hr (by first | rfl | simp [narrow] | assumption) (fun t ht hW => ⟨⟨0, (), rfl, (by first | (simp [hq_3]; done) | contradiction), trivial⟩, hS.F ht⟩) hS.2.2 dX2_isMoved_16
  · refine lv_ifnull hx hb dX2_isMoved_8 ?_
    refine lv_iconst (v := 1) hx hb dX2_isMoved_11 (by decide) ?_
    refine lv_goto (tgt := 16) hx hb dX2_isMoved_12 (by decide) ?_
    refine W.widen (k := 0) (n := 0) (by omega) (by omega) ?_
    exact W.zret (v := 1) hx hb hr (by first | rfl | simp [narrow] | assumption) (fun t ht hW => ⟨⟨1, (), rfl, (by first | (simp [hq_3]; done) | contradiction), trivial⟩, hS.F ht⟩) hS.2.2 dX2_isMoved_16

set_option maxHeartbeats 4000000 in
set_option maxRecDepth 100000 in
theorem c_X2_rateOf (l : Launch) (dC : Nat → ClassId) (dI : Nat → Nat → Nat) (cI cF : ClassId) (tr : List (ClassId × FieldType)) (sz : Nat) (g : Nat) (n : Nat) (xa : Nat) (xt : Nat) (xm : Nat) (wh : Nat) (st : Nat) (xb : Nat) (xc : Nat) (bc : Nat → Option Nat) (i : Int32) : Met l yX2_rateOf wsX2_rateOf ({ frames := 1, cells := 0, slots := 0, locals := 21 } : Room) (cPc dC dI ((cI, .int) :: (cF, .object RX1) :: tr) sz ([(g, .inr (iX2, [.int (nI n), .ref xa, .ref xt, .ref xm, .ref wh, .ref st, .ref xb, .ref xc])), (xb, .inl (cF, 7, .inr (.inr (.inr (.inr (bc))))))]) [.ref g, .int i]) (va_Qr (fun _ : Unit => True) (fun _ a _ => a = rtA st bc i) (va_A ([]) sz)) 0 0 (va_A ([]) sz) := by
  refine Met.ofW (cc := cX2_rateOf) (maxL := 3) (ret := (some (.object "Greenwheels$Fraction"))) (by decide) rfl ?_
  intro p e s m args below meth c s₁ B hml hv
  obtain ⟨rfl, hsz, hP, hK, hN⟩ := hv
  have hx := B.exec
  have hb := B.bytes
  have hr := B.returns
  have hts := atoms_spec (ws := wsX2_rateOf) B.pre
  have hown : s.vm.findClass RX2 = some m.cls := findClass_of_methodNamed B.named
  have hlocks := B.notSynchronized
  subst hsz
  generalize hAe : va_A [] s.heap.size = A
  have hA : ∀ q : Nat, s.heap.size ≤ q → A q := fun q h => by rw [← hAe]; exact Or.inr h
  have hS : va_S A s.heap s.heap [] := va_S.rf
  have hAn : ∀ q : Nat, q < s.heap.size → ¬ A q := fun q h => by rw [← hAe]; exact notZ h
  have hAg : ∀ q : Nat, A q → s.heap.size ≤ q := fun q h => geZ (hAe ▸ h)
  have hR0 : va_P (dC, dI) vwCl ([(g, .inr (iX2, [.int (nI n), .ref xa, .ref xt, .ref xm, .ref wh, .ref st, .ref xb, .ref xc])), (xb, .inl (cF, 7, .inr (.inr (.inr (.inr (bc))))))]) s.heap := hP
  have hR : va_P (dC, dI) vwCl ([(g, .inr (iX2, [.int (nI n), .ref xa, .ref xt, .ref xm, .ref wh, .ref st, .ref xb, .ref xc])), (xb, .inl (cF, 7, .inr (.inr (.inr (.inr (bc))))))]) s.heap := hP
  have hP : va_P (dC, dI) vwCl [] s.heap := fun k q h => by simp at h
  have hD : va_D A [] := ⟨fun i j p q h => by simp at h, fun k q h => by simp at h⟩
  have hl := lv_entry ([.ref g, .int i]) (n := 3) (Nat.le_of_ble_eq_true rfl)
  rw [lg_entry_eq]
  generalize (lg_sl ([.ref g, .int i]) ++ List.replicate (3 - (lg_sl ([.ref g, .int i])).length) Slot.unset).toArray = ls at hl ⊢
  have hl : lv_has ls 3 [(0, .ref g), (1, .int i)] := hl
  have hfl_33 := hts (.fieldLink RX2 33 "Greenwheels$Gearing" "byCrank" "[LGreenwheels$Fraction;") (by decide +kernel)
  have hin_X2 : ∀ w ∈ u_ws RX2 TX2 8, w ∈ wsX2_rateOf := by decide +kernel
  have hfl_30 := hts (.fieldLink RX2 30 "Greenwheels$Gearing" "still" "LGreenwheels$Fraction;") (by decide +kernel)
  refine lv_aload_n hx hb dX2_rateOf_0 rfl (lv_at hl 0 rfl) ?_
  refine va_get (D := (dC, dI)) (ci := iX2) (v := .ref xb) (C := RX2) (T := TX2) (N := 8) hx hb hts hin_X2 hown hK hR 0 rfl rfl 6 (by decide) hfl_33 (fun _ h9 => h9) rfl dX2_rateOf_1 ?_
  refine lv_iload_n hx hb dX2_rateOf_4 rfl (lv_at hl 1 rfl) ?_
  have hPc : va_P (dC, dI) vwCl ([(xb, .inl (cF, 7, .inr (.inr (.inr (.inr (bc))))))]) _ := hR.sub [1] rfl
  have hFc := frZ hS hA
  refine va_callq (va_runS (As := [.ref xb, .int i]) (rest := []) ⟨hx, hb, hml, hown, hts⟩ (c_X2_rateIn l dC dI cI cF tr (s.heap).size xb bc i) (va_cwS 2 hts gX2_rateOf_X2_rateIn rfl rfl rfl (by decide +kernel) ⟨Nat.le_of_ble_eq_true rfl, Nat.le_of_ble_eq_true rfl⟩) ⟨cBl, (cPre hPc hK hN)⟩ rfl rfl hl.1 rfl (lv_room (Nat.le_of_ble_eq_true rfl)) dX2_rateOf_5 ⟨(Nat.le_of_ble_eq_true rfl), (Nat.le_of_ble_eq_true rfl)⟩) hS (fun q _ h => hFc q h) hFc (fun r_1 u t H1 locs ht hvm hw_r_1 hB hz1 hk1 hS => ?_)
  refine W.widen (k := 0) (n := 0) (Nat.le_refl _) (Nat.le_refl _) ?_
  have hP := keepP hP hk1
  have hR := keepP hR hk1
  generalize H1 = H at hP hR hS ⊢
  have hP : va_P (dC, dI) vwCl ([]) H := hP
  try dsimp only at hw_r_1
  subst hw_r_1
  rcases hq_3 : rinF 7 bc i with _ | a_2
  · refine W.eq (g2 := F0 m 8 ls [.null]) rfl ?_
    refine lv_astore_nN (lv' := [(2, .null), (0, .ref g), (1, .int i)]) hx hb dX2_rateOf_8 rfl hl (by decide) rfl (fun ls hl => ?_)
    refine lv_aload_nN hx hb dX2_rateOf_9 rfl (lv_at hl 0 rfl) ?_
    refine lv_ifnonnullN hx hb dX2_rateOf_10 ?_
    refine lv_aload_n hx hb dX2_rateOf_13 rfl (lv_at hl 1 rfl) ?_
    refine va_get (D := (dC, dI)) (ci := iX2) (v := .ref st) (C := RX2) (T := TX2) (N := 8) hx hb hts hin_X2 hown hK hR 0 rfl rfl 5 (by decide) hfl_30 (fun _ h9 => h9) rfl dX2_rateOf_14 ?_
    refine lv_goto (tgt := 21) hx hb dX2_rateOf_17 (by decide) ?_
    refine W.widen (k := 0) (n := 0) (by omega) (by omega) ?_
    exact W.aret (v := .ref st) hx hb hr (Or.inl ⟨_, rfl⟩) (Or.inr ⟨_, rfl⟩) (fun t ht hW => ⟨⟨(), st, rfl, trivial, (by first | rfl | (simp [rtA, hq_3]; done))⟩, hS.F ht⟩) hS.2.2 dX2_rateOf_21
  · refine W.eq (g2 := F0 m 8 ls [.ref a_2]) rfl ?_
    refine lv_astore_n (lv' := [(2, .ref a_2), (0, .ref g), (1, .int i)]) hx hb dX2_rateOf_8 rfl hl (by decide) rfl (fun ls hl => ?_)
    refine lv_aload_n hx hb dX2_rateOf_9 rfl (lv_at hl 0 rfl) ?_
    refine lv_ifnonnull (tgt := 20) hx hb dX2_rateOf_10 (by decide) ?_
    refine lv_aload_n hx hb dX2_rateOf_20 rfl (lv_at hl 0 rfl) ?_
    refine W.widen (k := 0) (n := 0) (by omega) (by omega) ?_
    exact W.aret (v := .ref a_2) hx hb hr (Or.inl ⟨_, rfl⟩) (Or.inr ⟨_, rfl⟩) (fun t ht hW => ⟨⟨(), a_2, rfl, trivial, (by first | rfl | (simp [rtA, hq_3]; done))⟩, hS.F ht⟩) hS.2.2 dX2_rateOf_21

set_option maxHeartbeats 4000000 in
set_option maxRecDepth 100000 in
theorem c_X2_turnedAt (l : Launch) (dC : Nat → ClassId) (dI : Nat → Nat → Nat) (cI cF : ClassId) (tr : List (ClassId × FieldType)) (sz : Nat) (g : Nat) (n : Nat) (xa : Nat) (xt : Nat) (xm : Nat) (wh : Nat) (st : Nat) (xb : Nat) (xc : Nat) (bc : Nat → Option Nat) (LP : List Nat) (v : Nat → Int64 × Int64) (i : Int32) (j : Int32) (hst : st ∈ LP) (hbc : ∀ k, k < 7 → ∀ a, bc k = some a → a ∈ LP) : Met l yX2_turnedAt wsX2_turnedAt ({ frames := 3, cells := 1, slots := 2, locals := 80 } : Room) (cPc dC dI ((cI, .int) :: (cF, .object RX1) :: tr) sz ([(g, .inr (iX2, [.int (nI n), .ref xa, .ref xt, .ref xm, .ref wh, .ref st, .ref xb, .ref xc])), (xb, .inl (cF, 7, .inr (.inr (.inr (.inr (bc))))))] ++ va_pl LP (fe v)) [.ref g, .int i, .int j]) (va_Qr (fun _ : Unit => True) (fun _ a t => va_P (dC, dI) vwCl [(a, .inr (iX1, [.long (frU ((v (rtA st bc i)).1 * j.toInt64) ((v (rtA st bc i)).2 * 1)), .long (frL ((v (rtA st bc i)).1 * j.toInt64) ((v (rtA st bc i)).2 * 1))]))] t.heap ∧ sz ≤ a) (va_A ([]) sz)) 1 2 (va_A ([]) sz) := by
  refine Met.ofW (cc := cX2_turnedAt) (maxL := 3) (ret := (some (.object "Greenwheels$Fraction"))) (by decide) rfl ?_
  intro p e s m args below meth c s₁ B hml hv
  obtain ⟨rfl, hsz, hP, hK, hN⟩ := hv
  have hx := B.exec
  have hb := B.bytes
  have hr := B.returns
  have hts := atoms_spec (ws := wsX2_turnedAt) B.pre
  have hown : s.vm.findClass RX2 = some m.cls := findClass_of_methodNamed B.named
  have hlocks := B.notSynchronized
  subst hsz
  generalize hAe : va_A [] s.heap.size = A
  have hA : ∀ q : Nat, s.heap.size ≤ q → A q := fun q h => by rw [← hAe]; exact Or.inr h
  have hS : va_S A s.heap s.heap [] := va_S.rf
  have hAn : ∀ q : Nat, q < s.heap.size → ¬ A q := fun q h => by rw [← hAe]; exact notZ h
  have hAg : ∀ q : Nat, A q → s.heap.size ≤ q := fun q h => geZ (hAe ▸ h)
  have hR0 : va_P (dC, dI) vwCl ([(g, .inr (iX2, [.int (nI n), .ref xa, .ref xt, .ref xm, .ref wh, .ref st, .ref xb, .ref xc])), (xb, .inl (cF, 7, .inr (.inr (.inr (.inr (bc))))))] ++ va_pl LP (fe v)) s.heap := hP
  have hR : va_P (dC, dI) vwCl ([(g, .inr (iX2, [.int (nI n), .ref xa, .ref xt, .ref xm, .ref wh, .ref st, .ref xb, .ref xc])), (xb, .inl (cF, 7, .inr (.inr (.inr (.inr (bc))))))] ++ va_pl LP (fe v)) s.heap := hP
  have hP : va_P (dC, dI) vwCl [] s.heap := fun k q h => by simp at h
  have hD : va_D A [] := ⟨fun i j p q h => by simp at h, fun k q h => by simp at h⟩
  have hl := lv_entry ([.ref g, .int i, .int j]) (n := 3) (Nat.le_of_ble_eq_true rfl)
  rw [lg_entry_eq]
  generalize (lg_sl ([.ref g, .int i, .int j]) ++ List.replicate (3 - (lg_sl ([.ref g, .int i, .int j])).length) Slot.unset).toArray = ls at hl ⊢
  have hl : lv_has ls 3 [(0, .ref g), (1, .int i), (2, .int j)] := hl
  refine lv_aload_n hx hb dX2_turnedAt_0 rfl (lv_at hl 0 rfl) ?_
  refine lv_iload_n hx hb dX2_turnedAt_1 rfl (lv_at hl 1 rfl) ?_
  have hPc : va_P (dC, dI) vwCl ([(g, .inr (iX2, [.int (nI n), .ref xa, .ref xt, .ref xm, .ref wh, .ref st, .ref xb, .ref xc])), (xb, .inl (cF, 7, .inr (.inr (.inr (.inr (bc))))))]) _ := hR.sub [0, 1] rfl
  have hFc := frZ hS hA
  refine va_callr (va_runV (As := [.int i]) (rest := []) ⟨hx, hb, hml, hown, hts⟩ (c_X2_rateOf l dC dI cI cF tr (s.heap).size g n xa xt xm wh st xb xc bc i) (cwV 1 hts gX2_turnedAt_X2_rateOf rfl rfl rfl (by decide +kernel) ⟨Nat.le_of_ble_eq_true rfl, Nat.le_of_ble_eq_true rfl⟩) ⟨cBl, (va_recv hK hPc (ci := iX2) (q0 := 0) rfl rfl), (cPre hPc hK hN)⟩ rfl rfl hl.1 rfl (lv_room (Nat.le_of_ble_eq_true rfl)) dX2_turnedAt_2 ⟨(Nat.le_of_ble_eq_true rfl), (Nat.le_of_ble_eq_true rfl)⟩) hS (fun q _ h => hFc q h) hFc (fun u r_1 t H1 locs ht hvm hw_r_1 hB hz1 hk1 hS => ?_)
  refine W.widen (k := 0) (n := 0) (Nat.le_refl _) (Nat.le_refl _) ?_
  have hP := keepP hP hk1
  have hR := keepP hR hk1
  generalize H1 = H at hP hR hS ⊢
  have hP : va_P (dC, dI) vwCl ([]) H := hP
  try dsimp only at hB
  subst hB
  refine lv_iload_n hx hb dX2_turnedAt_5 rfl (lv_at hl 2 rfl) ?_
  refine lv_i2l hx hb dX2_turnedAt_6 rfl ?_
  refine lv_lconst (v := 1) hx hb dX2_turnedAt_7 (by decide) ?_
  have hPc : va_P (dC, dI) vwCl ([(rtA st bc i, .inr (iX1, [.long ((v (rtA st bc i)).1), .long ((v (rtA st bc i)).2)]))]) _ := poolP hR (rtA_mem hst hbc i)
  have hFc := frZ hS hA
  have hz0 := hS.1
  refine va_callr (va_runV (As := [.long (j.toInt64), .long 1]) (rest := []) ⟨hx, hb, hml, hown, hts⟩ (c_X1_times l dC dI cI cF tr (H).size (rtA st bc i) ((v (rtA st bc i)).1) ((v (rtA st bc i)).2) j.toInt64 1) (cwV 2 hts gX2_turnedAt_X1_times rfl rfl rfl (by decide +kernel) ⟨Nat.le_of_ble_eq_true rfl, Nat.le_of_ble_eq_true rfl⟩) ⟨cBl, (va_recv hK hPc (ci := iX1) (q0 := 0) rfl rfl), (cPre hPc hK hN)⟩ rfl rfl hl.1 rfl (lv_room (Nat.le_of_ble_eq_true rfl)) dX2_turnedAt_8 ⟨(Nat.le_of_ble_eq_true rfl), (Nat.le_of_ble_eq_true rfl)⟩) hS (fun q _ h => hFc q h) hFc (fun u r_2 t H1 locs ht hvm hw_r_2 hB hz1 hk1 hS => ?_)
  refine W.widen (k := 1) (n := 2) (by omega) (by omega) ?_
  have hP := keepP hP hk1
  have hR := keepP hR hk1
  obtain ⟨hB, hBn⟩ := hB
  rw [ht] at hB
  have hGe_r_2 : s.heap.size ≤ r_2 := Nat.le_trans hz0 hBn
  have hT : va_P (dC, dI) vwCl ([(r_2, .inr (iX1, [.long (frU (((v (rtA st bc i)).1) * j.toInt64) (((v (rtA st bc i)).2) * 1)), .long (frL (((v (rtA st bc i)).1) * j.toInt64) (((v (rtA st bc i)).2) * 1))]))]) H1 := hB
  generalize H1 = H at hP hR hT hS ⊢
  have hP : va_P (dC, dI) vwCl ([]) H := hP
  try dsimp only at hw_r_2
  refine W.widen (k := 1) (n := 2) (by omega) (by omega) ?_
  have eq_3 : ([(r_2, .inr (iX1, [.long (frU (((v (rtA st bc i)).1) * j.toInt64) (((v (rtA st bc i)).2) * 1)), .long (frL (((v (rtA st bc i)).1) * j.toInt64) (((v (rtA st bc i)).2) * 1))]))] : va_W) = [(r_2, .inr (iX1, [.long (frU ((v (rtA st bc i)).1 * j.toInt64) ((v (rtA st bc i)).2 * 1)), .long (frL ((v (rtA st bc i)).1 * j.toInt64) ((v (rtA st bc i)).2 * 1))]))] := (by simp [])
  exact W.aret (v := .ref r_2) hx hb hr (Or.inl ⟨_, rfl⟩) (Or.inr ⟨_, rfl⟩) (fun t ht hW => ⟨⟨(), r_2, rfl, trivial, (by show va_P (dC, dI) vwCl ([(r_2, .inr (iX1, [.long (frU ((v (rtA st bc i)).1 * j.toInt64) ((v (rtA st bc i)).2 * 1)), .long (frL ((v (rtA st bc i)).1 * j.toInt64) ((v (rtA st bc i)).2 * 1))]))]) t.heap; rw [ht]; exact eq_3 ▸ (hT.sub (ws' := [(r_2, .inr (iX1, [.long (frU (((v (rtA st bc i)).1) * j.toInt64) (((v (rtA st bc i)).2) * 1)), .long (frL (((v (rtA st bc i)).1) * j.toInt64) (((v (rtA st bc i)).2) * 1))]))]) [0] rfl)), hGe_r_2⟩, hS.F ht⟩) hS.2.2 dX2_turnedAt_11

set_option maxHeartbeats 4000000 in
set_option maxRecDepth 100000 in
theorem c_X2_countMeshes (l : Launch) (dC : Nat → ClassId) (dI : Nat → Nat → Nat) (cI cF : ClassId) (tr : List (ClassId × FieldType)) (sz : Nat) (g : Nat) (n : Nat) (xa : Nat) (xt : Nat) (xm : Nat) (wh : Nat) (st : Nat) (xb : Nat) (xc : Nat) (me : Nat → Int32) (hn : n ≤ 12) : Met l yX2_countMeshes wsX2_countMeshes ({ frames := 2, cells := 0, slots := 0, locals := 42 } : Room) (cPc dC dI ((cI, .int) :: (cF, .object RX1) :: tr) sz ([(g, .inr (iX2, [.int (nI n), .ref xa, .ref xt, .ref xm, .ref wh, .ref st, .ref xb, .ref xc])), (xm, .inl (cI, 12, .inl (me)))]) [.ref g]) (va_Qi (fun (r : Int32) (_ : Unit) => r = cmL me n / 2) (fun _ _ => True) (va_A ([]) sz)) 0 0 (va_A ([]) sz) := by
  refine Met.ofW (cc := cX2_countMeshes) (maxL := 3) (ret := (some .int)) (by decide) rfl ?_
  intro p e s m args below meth c s₁ B hml hv
  obtain ⟨rfl, hsz, hP, hK, hN⟩ := hv
  have hx := B.exec
  have hb := B.bytes
  have hr := B.returns
  have hts := atoms_spec (ws := wsX2_countMeshes) B.pre
  have hown : s.vm.findClass RX2 = some m.cls := findClass_of_methodNamed B.named
  have hlocks := B.notSynchronized
  subst hsz
  generalize hAe : va_A [] s.heap.size = A
  have hA : ∀ q : Nat, s.heap.size ≤ q → A q := fun q h => by rw [← hAe]; exact Or.inr h
  have hS : va_S A s.heap s.heap [] := va_S.rf
  have hAn : ∀ q : Nat, q < s.heap.size → ¬ A q := fun q h => by rw [← hAe]; exact notZ h
  have hAg : ∀ q : Nat, A q → s.heap.size ≤ q := fun q h => geZ (hAe ▸ h)
  have hR0 : va_P (dC, dI) vwCl ([(g, .inr (iX2, [.int (nI n), .ref xa, .ref xt, .ref xm, .ref wh, .ref st, .ref xb, .ref xc])), (xm, .inl (cI, 12, .inl (me)))]) s.heap := hP
  have hR : va_P (dC, dI) vwCl ([(g, .inr (iX2, [.int (nI n), .ref xa, .ref xt, .ref xm, .ref wh, .ref st, .ref xb, .ref xc])), (xm, .inl (cI, 12, .inl (me)))]) s.heap := hP
  have hP : va_P (dC, dI) vwCl [] s.heap := fun k q h => by simp at h
  have hD : va_D A [] := ⟨fun i j p q h => by simp at h, fun k q h => by simp at h⟩
  have hl := lv_entry ([.ref g]) (n := 3) (Nat.le_of_ble_eq_true rfl)
  rw [lg_entry_eq]
  generalize (lg_sl ([.ref g]) ++ List.replicate (3 - (lg_sl ([.ref g])).length) Slot.unset).toArray = ls at hl ⊢
  have hl : lv_has ls 3 [(0, .ref g)] := hl
  have hfl_44 := hts (.fieldLink RX2 44 "Greenwheels$Gearing" "wheels" "I") (by decide +kernel)
  have hin_X2 : ∀ w ∈ u_ws RX2 TX2 8, w ∈ wsX2_countMeshes := by decide +kernel
  refine lv_iconst (v := 0) hx hb dX2_countMeshes_0 (by decide) ?_
  refine lv_istore_n (lv' := [(1, .int 0), (0, .ref g)]) hx hb dX2_countMeshes_1 rfl hl (by decide) rfl (fun ls hl => ?_)
  refine lv_iconst (v := 0) hx hb dX2_countMeshes_2 (by decide) ?_
  refine lv_istore_n (lv' := [(2, .int 0), (1, .int 0), (0, .ref g)]) hx hb dX2_countMeshes_3 rfl hl (by decide) rfl (fun ls hl => ?_)
  have K4 : ∀ (NN : Nat), ∀ (k : Nat) (acc : Int32), (n - k) < NN → (k ≤ n) → (acc = cmL me k) → ∀ (H : Heap) (locs : List Loc) (ls : Array Slot), va_P (dC, dI) vwCl ([]) H → va_S A s.heap H locs → lv_has ls 3 [(0, .ref g), (1, .int acc), (2, .int (nI k))] → W p l e (headSpec wsX2_countMeshes ({ frames := 2, cells := 0, slots := 0, locals := 42 } : Room)).room s m #[Value.ref g] below meth c H locs (0) (0) (MQ below (va_Qi (fun (r : Int32) (_ : Unit) => r = cmL me n / 2) (fun _ _ => True) A) #[Value.ref g] s 0 0 A) (F0 m 4 ls []) := by
    intro NN
    induction NN with
    | zero =>
      intro k acc hmu hk hacc H locs ls hP hS hl
      exact absurd hmu (Nat.not_lt_zero _)
    | succ NN ih4 =>
      intro k acc hmu hk hacc H locs ls hP hS hl
      have hR := keepR hR0 hS hAn
      refine lv_iload_n hx hb dX2_countMeshes_4 rfl (lv_at hl 2 rfl) ?_
      refine lv_aload_n hx hb dX2_countMeshes_5 rfl (lv_at hl 0 rfl) ?_
      refine va_get (D := (dC, dI)) (ci := iX2) (v := .int (nI n)) (C := RX2) (T := TX2) (N := 8) hx hb hts hin_X2 hown hK hR 0 rfl rfl 0 (by decide) hfl_44 (fun _ h9 => h9) rfl dX2_countMeshes_6 ?_
      refine lv_icmp_ge (tgt := 29) hx hb dX2_countMeshes_9 (by decide) (fun c_1 => ?_) (fun c_1 => ?_)
      · have hke : n ≤ k := leK (by omega) (by omega) c_1
        obtain rfl : k = n := by omega
        refine lv_iload_n hx hb dX2_countMeshes_29 rfl (lv_at hl 1 rfl) ?_
        refine lv_iconst (v := 2) hx hb dX2_countMeshes_30 (by decide) ?_
        refine lv_idiv hx hb dX2_countMeshes_31 (by decide) ?_
        refine W.widen (k := 0) (n := 0) (by omega) (by omega) ?_
        exact W.iret (v := acc / 2) hx hb hr (fun t ht hW => ⟨⟨acc / 2, (), rfl, (by rw [hacc]), trivial⟩, hS.F ht⟩) hS.2.2 dX2_countMeshes_32
      · have hkl : k < n := ltK (by omega) (by omega) c_1
        refine lv_iload_n hx hb dX2_countMeshes_12 rfl (lv_at hl 1 rfl) ?_
        refine lv_aload_n hx hb dX2_countMeshes_13 rfl (lv_at hl 0 rfl) ?_
        refine lv_iload_n hx hb dX2_countMeshes_14 rfl (lv_at hl 2 rfl) ?_
        have hPc : va_P (dC, dI) vwCl ([(g, .inr (iX2, [.int (nI n), .ref xa, .ref xt, .ref xm, .ref wh, .ref st, .ref xb, .ref xc])), (xm, .inl (cI, 12, .inl (me)))]) _ := hR.sub [0, 1] rfl
        have hFc := frZ hS hA
        refine va_calli (va_runV (As := [.int (nI k)]) (rest := [.int acc]) ⟨hx, hb, hml, hown, hts⟩ (c_X2_meshedWith l dC dI cI cF tr (H).size g n xa xt xm wh st xb xc me (nI k)) (cwV 1 hts gX2_countMeshes_X2_meshedWith rfl rfl rfl (by decide +kernel) ⟨Nat.le_of_ble_eq_true rfl, Nat.le_of_ble_eq_true rfl⟩) ⟨cBl, (va_recv hK hPc (ci := iX2) (q0 := 0) rfl rfl), (cPre hPc hK hN)⟩ rfl rfl hl.1 rfl (lv_room (Nat.le_of_ble_eq_true rfl)) dX2_countMeshes_15 ⟨(Nat.le_of_ble_eq_true rfl), (Nat.le_of_ble_eq_true rfl)⟩) hS (fun q _ h => hFc q h) hFc (fun r_2 u t H1 locs ht hvm hw_r_2 hB hz1 hk1 hS => ?_)
        refine W.widen (k := 0) (n := 0) (Nat.le_refl _) (Nat.le_refl _) ?_
        have hP := keepP hP hk1
        have hR := keepP hR hk1
        generalize H1 = H at hP hR hS ⊢
        have hP : va_P (dC, dI) vwCl ([]) H := hP
        try dsimp only at hw_r_2
        subst hw_r_2
        have hPc : va_P (dC, dI) vwCl [] H := nilP
        have hFc := frZ hS hA
        refine va_calli (va_runS (As := [.int (atF 12 me (nI k))]) (rest := [.int acc]) ⟨hx, hb, hml, hown, hts⟩ (c_J6_bitCount_0f7a4 l dC dI cI cF tr (H).size (atF 12 me (nI k))) (va_cwS 1 hts gX2_countMeshes_J6_bitCount_0f7a4 rfl rfl rfl (by decide +kernel) ⟨Nat.le_of_ble_eq_true rfl, Nat.le_of_ble_eq_true rfl⟩) ⟨cBl, (cPre hPc hK hN)⟩ rfl rfl hl.1 rfl (lv_room (Nat.le_of_ble_eq_true rfl)) dX2_countMeshes_18 ⟨(Nat.le_of_ble_eq_true rfl), (Nat.le_of_ble_eq_true rfl)⟩) hS (fun q _ h => hFc q h) hFc (fun r_3 u t H1 locs ht hvm hw_r_3 hB hz1 hk1 hS => ?_)
        refine W.widen (k := 0) (n := 0) (Nat.le_refl _) (Nat.le_refl _) ?_
        have hP := keepP hP hk1
        have hR := keepP hR hk1
        generalize H1 = H at hP hR hS ⊢
        have hP : va_P (dC, dI) vwCl ([]) H := hP
        try dsimp only at hw_r_3
        subst hw_r_3
        refine lv_iadd hx hb dX2_countMeshes_21 ?_
        refine lv_istore_n (lv' := [(1, .int (acc + (bcF (atF 12 me (nI k))))), (0, .ref g), (2, .int (nI k))]) hx hb dX2_countMeshes_22 rfl hl (by decide) rfl (fun ls hl => ?_)
        refine lv_iinc (v := nI (k + 1)) (lv' := [(2, .int (nI (k + 1))), (1, .int (acc + (bcF (atF 12 me (nI k))))), (0, .ref g)]) hx hb dX2_countMeshes_23 hl (k := 2) rfl (nI_1 k) (by decide) rfl (fun ls hl => ?_)
        refine lv_goto (tgt := 4) hx hb dX2_countMeshes_26 (by decide) ?_
        refine W.widen (k := 0) (n := 0) (by omega) (by omega) ?_
        exact ih4 (k + 1) (acc + (bcF (atF 12 me (nI k)))) (by omega) hkl (by rw [hacc]; rfl) _ _ ls hP hS (lv_sub hl [2, 1, 0] rfl)
  refine W.widen (k := 0) (n := 0) (by omega) (by omega) ?_
  exact K4 (n - 0 + 1) 0 0 (by omega) (Nat.zero_le _) rfl _ _ ls hP hS (lv_sub hl [2, 1, 0] rfl)

set_option maxHeartbeats 4000000 in
set_option maxRecDepth 100000 in
theorem c_X2_countMoved (l : Launch) (dC : Nat → ClassId) (dI : Nat → Nat → Nat) (cI cF : ClassId) (tr : List (ClassId × FieldType)) (sz : Nat) (g : Nat) (n : Nat) (xa : Nat) (xt : Nat) (xm : Nat) (wh : Nat) (st : Nat) (xb : Nat) (xc : Nat) (bc : Nat → Option Nat) : Met l yX2_countMoved wsX2_countMoved ({ frames := 2, cells := 0, slots := 0, locals := 42 } : Room) (cPc dC dI ((cI, .int) :: (cF, .object RX1) :: tr) sz ([(g, .inr (iX2, [.int (nI n), .ref xa, .ref xt, .ref xm, .ref wh, .ref st, .ref xb, .ref xc])), (xb, .inl (cF, 7, .inr (.inr (.inr (.inr (bc))))))]) [.ref g]) (va_Qi (fun (r : Int32) (_ : Unit) => r = cvL bc 7) (fun _ _ => True) (va_A ([]) sz)) 0 0 (va_A ([]) sz) := by
  refine Met.ofW (cc := cX2_countMoved) (maxL := 3) (ret := (some .int)) (by decide) rfl ?_
  intro p e s m args below meth c s₁ B hml hv
  obtain ⟨rfl, hsz, hP, hK, hN⟩ := hv
  have hx := B.exec
  have hb := B.bytes
  have hr := B.returns
  have hts := atoms_spec (ws := wsX2_countMoved) B.pre
  have hown : s.vm.findClass RX2 = some m.cls := findClass_of_methodNamed B.named
  have hlocks := B.notSynchronized
  subst hsz
  generalize hAe : va_A [] s.heap.size = A
  have hA : ∀ q : Nat, s.heap.size ≤ q → A q := fun q h => by rw [← hAe]; exact Or.inr h
  have hS : va_S A s.heap s.heap [] := va_S.rf
  have hAn : ∀ q : Nat, q < s.heap.size → ¬ A q := fun q h => by rw [← hAe]; exact notZ h
  have hAg : ∀ q : Nat, A q → s.heap.size ≤ q := fun q h => geZ (hAe ▸ h)
  have hR0 : va_P (dC, dI) vwCl ([(g, .inr (iX2, [.int (nI n), .ref xa, .ref xt, .ref xm, .ref wh, .ref st, .ref xb, .ref xc])), (xb, .inl (cF, 7, .inr (.inr (.inr (.inr (bc))))))]) s.heap := hP
  have hR : va_P (dC, dI) vwCl ([(g, .inr (iX2, [.int (nI n), .ref xa, .ref xt, .ref xm, .ref wh, .ref st, .ref xb, .ref xc])), (xb, .inl (cF, 7, .inr (.inr (.inr (.inr (bc))))))]) s.heap := hP
  have hP : va_P (dC, dI) vwCl [] s.heap := fun k q h => by simp at h
  have hD : va_D A [] := ⟨fun i j p q h => by simp at h, fun k q h => by simp at h⟩
  have hl := lv_entry ([.ref g]) (n := 3) (Nat.le_of_ble_eq_true rfl)
  rw [lg_entry_eq]
  generalize (lg_sl ([.ref g]) ++ List.replicate (3 - (lg_sl ([.ref g])).length) Slot.unset).toArray = ls at hl ⊢
  have hl : lv_has ls 3 [(0, .ref g)] := hl
  refine lv_iconst (v := 0) hx hb dX2_countMoved_0 (by decide) ?_
  refine lv_istore_n (lv' := [(1, .int 0), (0, .ref g)]) hx hb dX2_countMoved_1 rfl hl (by decide) rfl (fun ls hl => ?_)
  refine lv_iconst (v := 0) hx hb dX2_countMoved_2 (by decide) ?_
  refine lv_istore_n (lv' := [(2, .int 0), (1, .int 0), (0, .ref g)]) hx hb dX2_countMoved_3 rfl hl (by decide) rfl (fun ls hl => ?_)
  have K4 : ∀ (NN : Nat), ∀ (k : Nat) (acc : Int32), (7 - k) < NN → (k ≤ 7) → (acc = cvL bc k) → ∀ (H : Heap) (locs : List Loc) (ls : Array Slot), va_P (dC, dI) vwCl ([]) H → va_S A s.heap H locs → lv_has ls 3 [(0, .ref g), (1, .int acc), (2, .int (nI k))] → W p l e (headSpec wsX2_countMoved ({ frames := 2, cells := 0, slots := 0, locals := 42 } : Room)).room s m #[Value.ref g] below meth c H locs (0) (0) (MQ below (va_Qi (fun (r : Int32) (_ : Unit) => r = cvL bc 7) (fun _ _ => True) A) #[Value.ref g] s 0 0 A) (F0 m 4 ls []) := by
    intro NN
    induction NN with
    | zero =>
      intro k acc hmu hk hacc H locs ls hP hS hl
      exact absurd hmu (Nat.not_lt_zero _)
    | succ NN ih4 =>
      intro k acc hmu hk hacc H locs ls hP hS hl
      have hR := keepR hR0 hS hAn
      refine lv_iload_n hx hb dX2_countMoved_4 rfl (lv_at hl 2 rfl) ?_
      refine lv_bipush (v := 7) hx hb dX2_countMoved_5 (by decide) ?_
      refine lv_icmp_ge (tgt := 27) hx hb dX2_countMoved_7 (by decide) (fun c_1 => ?_) (fun c_1 => ?_)
      · have hke : 7 ≤ k := leK (by omega) (by omega) c_1
        obtain rfl : k = 7 := by omega
        refine lv_iload_n hx hb dX2_countMoved_27 rfl (lv_at hl 1 rfl) ?_
        refine W.widen (k := 0) (n := 0) (by omega) (by omega) ?_
        exact W.iret (v := acc) hx hb hr (fun t ht hW => ⟨⟨acc, (), rfl, hacc, trivial⟩, hS.F ht⟩) hS.2.2 dX2_countMoved_28
      · have hkl : k < 7 := ltK (by omega) (by omega) c_1
        refine lv_aload_n hx hb dX2_countMoved_10 rfl (lv_at hl 0 rfl) ?_
        refine lv_iload_n hx hb dX2_countMoved_11 rfl (lv_at hl 2 rfl) ?_
        have hPc : va_P (dC, dI) vwCl ([(g, .inr (iX2, [.int (nI n), .ref xa, .ref xt, .ref xm, .ref wh, .ref st, .ref xb, .ref xc])), (xb, .inl (cF, 7, .inr (.inr (.inr (.inr (bc))))))]) _ := hR.sub [0, 1] rfl
        have hFc := frZ hS hA
        refine va_calli (va_runV (As := [.int (nI k)]) (rest := []) ⟨hx, hb, hml, hown, hts⟩ (c_X2_isMoved l dC dI cI cF tr (H).size g n xa xt xm wh st xb xc bc (nI k)) (cwV 1 hts gX2_countMoved_X2_isMoved rfl rfl rfl (by decide +kernel) ⟨Nat.le_of_ble_eq_true rfl, Nat.le_of_ble_eq_true rfl⟩) ⟨cBl, (va_recv hK hPc (ci := iX2) (q0 := 0) rfl rfl), (cPre hPc hK hN)⟩ rfl rfl hl.1 rfl (lv_room (Nat.le_of_ble_eq_true rfl)) dX2_countMoved_12 ⟨(Nat.le_of_ble_eq_true rfl), (Nat.le_of_ble_eq_true rfl)⟩) hS (fun q _ h => hFc q h) hFc (fun r_2 u t H1 locs ht hvm hw_r_2 hB hz1 hk1 hS => ?_)
        refine W.widen (k := 0) (n := 0) (Nat.le_refl _) (Nat.le_refl _) ?_
        have hP := keepP hP hk1
        have hR := keepP hR hk1
        generalize H1 = H at hP hR hS ⊢
        have hP : va_P (dC, dI) vwCl ([]) H := hP
        try dsimp only at hw_r_2
        subst hw_r_2
        refine lv_if_eq (tgt := 21) hx hb dX2_countMoved_15 (by decide) (fun c_3 => ?_) (fun c_3 => ?_)
        · refine lv_iinc (v := nI (k + 1)) (lv' := [(2, .int (nI (k + 1))), (0, .ref g), (1, .int acc)]) hx hb dX2_countMoved_21 hl (k := 2) rfl (nI_1 k) (by decide) rfl (fun ls hl => ?_)
          refine lv_goto (tgt := 4) hx hb dX2_countMoved_24 (by decide) ?_
          refine W.widen (k := 0) (n := 0) (by omega) (by omega) ?_
          exact ih4 (k + 1) acc (by omega) hkl (by rw [hacc]; simp [cvL] at *; simp [c_3]) _ _ ls hP hS (lv_sub hl [1, 2, 0] rfl)
        · refine lv_iinc (v := acc + 1) (lv' := [(1, .int (acc + 1)), (0, .ref g), (2, .int (nI k))]) hx hb dX2_countMoved_18 hl (k := 1) rfl rfl (by decide) rfl (fun ls hl => ?_)
          refine lv_iinc (v := nI (k + 1)) (lv' := [(2, .int (nI (k + 1))), (1, .int (acc + 1)), (0, .ref g)]) hx hb dX2_countMoved_21 hl (k := 2) rfl (nI_1 k) (by decide) rfl (fun ls hl => ?_)
          refine lv_goto (tgt := 4) hx hb dX2_countMoved_24 (by decide) ?_
          refine W.widen (k := 0) (n := 0) (by omega) (by omega) ?_
          exact ih4 (k + 1) (acc + 1) (by omega) hkl (by rw [hacc]; simp [cvL] at *; simp [c_3]) _ _ ls hP hS (lv_sub hl [2, 1, 0] rfl)
  refine W.widen (k := 0) (n := 0) (by omega) (by omega) ?_
  exact K4 (7 - 0 + 1) 0 0 (by omega) (Nat.zero_le _) rfl _ _ ls hP hS (lv_sub hl [2, 1, 0] rfl)

set_option maxHeartbeats 4000000 in
set_option maxRecDepth 100000 in
theorem c_X2_turnsToReturn (l : Launch) (dC : Nat → ClassId) (dI : Nat → Nat → Nat) (cI cF : ClassId) (tr : List (ClassId × FieldType)) (sz : Nat) (g : Nat) (n : Nat) (xa : Nat) (xt : Nat) (xm : Nat) (wh : Nat) (st : Nat) (xb : Nat) (xc : Nat) (bc : Nat → Option Nat) (LP : List Nat) (v : Nat → Int64 × Int64) (hst : st ∈ LP) (hbc : ∀ k, k < 7 → ∀ a, bc k = some a → a ∈ LP) : Met l yX2_turnsToReturn wsX2_turnsToReturn ({ frames := 2, cells := 0, slots := 0, locals := 43 } : Room) (cPc dC dI ((cI, .int) :: (cF, .object RX1) :: tr) sz ([(g, .inr (iX2, [.int (nI n), .ref xa, .ref xt, .ref xm, .ref wh, .ref st, .ref xb, .ref xc])), (xb, .inl (cF, 7, .inr (.inr (.inr (.inr (bc))))))] ++ va_pl LP (fe v)) [.ref g]) (va_Ql (fun (r : Int64) (_ : Unit) => r = ptL st bc v 7) (fun _ _ => True) (va_A ([]) sz)) 0 0 (va_A ([]) sz) := by
  refine Met.ofW (cc := cX2_turnsToReturn) (maxL := 8) (ret := (some .long)) (by decide) rfl ?_
  intro p e s m args below meth c s₁ B hml hv
  obtain ⟨rfl, hsz, hP, hK, hN⟩ := hv
  have hx := B.exec
  have hb := B.bytes
  have hr := B.returns
  have hts := atoms_spec (ws := wsX2_turnsToReturn) B.pre
  have hown : s.vm.findClass RX2 = some m.cls := findClass_of_methodNamed B.named
  have hlocks := B.notSynchronized
  subst hsz
  generalize hAe : va_A [] s.heap.size = A
  have hA : ∀ q : Nat, s.heap.size ≤ q → A q := fun q h => by rw [← hAe]; exact Or.inr h
  have hS : va_S A s.heap s.heap [] := va_S.rf
  have hAn : ∀ q : Nat, q < s.heap.size → ¬ A q := fun q h => by rw [← hAe]; exact notZ h
  have hAg : ∀ q : Nat, A q → s.heap.size ≤ q := fun q h => geZ (hAe ▸ h)
  have hR0 : va_P (dC, dI) vwCl ([(g, .inr (iX2, [.int (nI n), .ref xa, .ref xt, .ref xm, .ref wh, .ref st, .ref xb, .ref xc])), (xb, .inl (cF, 7, .inr (.inr (.inr (.inr (bc))))))] ++ va_pl LP (fe v)) s.heap := hP
  have hR : va_P (dC, dI) vwCl ([(g, .inr (iX2, [.int (nI n), .ref xa, .ref xt, .ref xm, .ref wh, .ref st, .ref xb, .ref xc])), (xb, .inl (cF, 7, .inr (.inr (.inr (.inr (bc))))))] ++ va_pl LP (fe v)) s.heap := hP
  have hP : va_P (dC, dI) vwCl [] s.heap := fun k q h => by simp at h
  have hD : va_D A [] := ⟨fun i j p q h => by simp at h, fun k q h => by simp at h⟩
  have hl := lv_entry ([.ref g]) (n := 8) (Nat.le_of_ble_eq_true rfl)
  rw [lg_entry_eq]
  generalize (lg_sl ([.ref g]) ++ List.replicate (8 - (lg_sl ([.ref g])).length) Slot.unset).toArray = ls at hl ⊢
  have hl : lv_has ls 8 [(0, .ref g)] := hl
  have hfl_95 := hts (.fieldLink RX2 95 "Greenwheels$Fraction" "lower" "J") (by decide +kernel)
  have hin_X1 : ∀ w ∈ u_ws RX1 TX1 2, w ∈ wsX2_turnsToReturn := by decide +kernel
  have hw_iniX5 := hts (.initialized RX5) (by decide +kernel)
  have hw_staX5_commonDivisor := hts (.static yX5_commonDivisor) (by decide +kernel)
  refine lv_lconst (v := 1) hx hb dX2_turnsToReturn_0 (by decide) ?_
  refine lv_lstore_n (lv' := [(1, .long 1), (0, .ref g)]) hx hb dX2_turnsToReturn_1 rfl hl (by decide) rfl (fun ls hl => ?_)
  refine lv_iconst (v := 0) hx hb dX2_turnsToReturn_2 (by decide) ?_
  refine lv_istore_n (lv' := [(3, .int 0), (1, .long 1), (0, .ref g)]) hx hb dX2_turnsToReturn_3 rfl hl (by decide) rfl (fun ls hl => ?_)
  have K4 : ∀ (NN : Nat), ∀ (k : Nat) (acc : Int64), (7 - k) < NN → (k ≤ 7) → (acc = ptL st bc v k) → ∀ (H : Heap) (locs : List Loc) (ls : Array Slot), va_P (dC, dI) vwCl ([]) H → va_S A s.heap H locs → lv_has ls 8 [(0, .ref g), (1, .long acc), (3, .int (nI k))] → W p l e (headSpec wsX2_turnsToReturn ({ frames := 2, cells := 0, slots := 0, locals := 43 } : Room)).room s m #[Value.ref g] below meth c H locs (0) (0) (MQ below (va_Ql (fun (r : Int64) (_ : Unit) => r = ptL st bc v 7) (fun _ _ => True) A) #[Value.ref g] s 0 0 A) (F0 m 4 ls []) := by
    intro NN
    induction NN with
    | zero =>
      intro k acc hmu hk hacc H locs ls hP hS hl
      exact absurd hmu (Nat.not_lt_zero _)
    | succ NN ih4 =>
      intro k acc hmu hk hacc H locs ls hP hS hl
      have hR := keepR hR0 hS hAn
      refine lv_iload_n hx hb dX2_turnsToReturn_4 rfl (lv_at hl 2 rfl) ?_
      refine lv_bipush (v := 7) hx hb dX2_turnsToReturn_5 (by decide) ?_
      refine lv_icmp_ge (tgt := 49) hx hb dX2_turnsToReturn_7 (by decide) (fun c_1 => ?_) (fun c_1 => ?_)
      · have hke : 7 ≤ k := leK (by omega) (by omega) c_1
        obtain rfl : k = 7 := by omega
        refine lv_lload_n hx hb dX2_turnsToReturn_49 rfl (lv_at hl 1 rfl) ?_
        refine W.widen (k := 0) (n := 0) (by omega) (by omega) ?_
        exact W.lret (v := acc) hx hb hr (fun t ht hW => ⟨⟨acc, (), rfl, hacc, trivial⟩, hS.F ht⟩) hS.2.2 dX2_turnsToReturn_50
      · have hkl : k < 7 := ltK (by omega) (by omega) c_1
        refine lv_aload_n hx hb dX2_turnsToReturn_10 rfl (lv_at hl 0 rfl) ?_
        refine lv_iload_n hx hb dX2_turnsToReturn_11 rfl (lv_at hl 2 rfl) ?_
        have hPc : va_P (dC, dI) vwCl ([(g, .inr (iX2, [.int (nI n), .ref xa, .ref xt, .ref xm, .ref wh, .ref st, .ref xb, .ref xc])), (xb, .inl (cF, 7, .inr (.inr (.inr (.inr (bc))))))]) _ := hR.sub [0, 1] rfl
        have hFc := frZ hS hA
        refine va_callr (va_runV (As := [.int (nI k)]) (rest := []) ⟨hx, hb, hml, hown, hts⟩ (c_X2_rateOf l dC dI cI cF tr (H).size g n xa xt xm wh st xb xc bc (nI k)) (cwV 1 hts gX2_turnsToReturn_X2_rateOf rfl rfl rfl (by decide +kernel) ⟨Nat.le_of_ble_eq_true rfl, Nat.le_of_ble_eq_true rfl⟩) ⟨cBl, (va_recv hK hPc (ci := iX2) (q0 := 0) rfl rfl), (cPre hPc hK hN)⟩ rfl rfl hl.1 rfl (lv_room (Nat.le_of_ble_eq_true rfl)) dX2_turnsToReturn_12 ⟨(Nat.le_of_ble_eq_true rfl), (Nat.le_of_ble_eq_true rfl)⟩) hS (fun q _ h => hFc q h) hFc (fun u r_2 t H1 locs ht hvm hw_r_2 hB hz1 hk1 hS => ?_)
        refine W.widen (k := 0) (n := 0) (Nat.le_refl _) (Nat.le_refl _) ?_
        have hP := keepP hP hk1
        have hR := keepP hR hk1
        generalize H1 = H at hP hR hS ⊢
        have hP : va_P (dC, dI) vwCl ([]) H := hP
        try dsimp only at hB
        subst hB
        refine va_get (D := (dC, dI)) (ci := iX1) (v := .long ((v (rtA st bc (nI k))).2)) (C := RX1) (T := TX1) (N := 2) hx hb hts hin_X1 hown hK (poolP hR (rtA_mem hst hbc (nI k))) 0 rfl rfl 1 (by decide) hfl_95 (fun _ h9 => h9) rfl dX2_turnsToReturn_15 ?_
        refine lv_lstore (lv' := [(4, .long ((v (rtA st bc (nI k))).2)), (0, .ref g), (1, .long acc), (3, .int (nI k))]) hx hb dX2_turnsToReturn_18 hl (by decide) rfl (fun ls hl => ?_)
        refine lv_lload_n hx hb dX2_turnsToReturn_20 rfl (lv_at hl 2 rfl) ?_
        refine lv_lload hx hb dX2_turnsToReturn_21 (lv_at hl 0 rfl) ?_
        have hPc : va_P (dC, dI) vwCl [] H := nilP
        have hFc := frZ hS hA
        refine va_calll (va_runSN (host := RX5) (As := [.long acc, .long ((v (rtA st bc (nI k))).2)]) (rest := []) ⟨hx, hb, hml, hown, hts⟩ (c_X5_commonDivisor l dC dI cI cF tr (H).size acc ((v (rtA st bc (nI k))).2)) ⟨va_cnB 2 hts gX2_turnsToReturn_X5_commonDivisor_n99 rfl rfl rfl (nwAt hN (RX2, 99, yX5_commonDivisor) (by decide +kernel)) hw_iniX5 (by decide +kernel) ⟨Nat.le_of_ble_eq_true rfl, Nat.le_of_ble_eq_true rfl⟩, hw_staX5_commonDivisor, trivial⟩ ⟨cBl, (cPre hPc hK hN)⟩ rfl rfl hl.1 rfl (lv_room (Nat.le_of_ble_eq_true rfl)) dX2_turnsToReturn_23 ⟨(Nat.le_of_ble_eq_true rfl), (Nat.le_of_ble_eq_true rfl)⟩) hS (fun q _ h => hFc q h) hFc (fun r_3 u t H1 locs ht hvm hw_r_3 hB hz1 hk1 hS => ?_)
        refine W.widen (k := 0) (n := 0) (Nat.le_refl _) (Nat.le_refl _) ?_
        have hP := keepP hP hk1
        have hR := keepP hR hk1
        generalize H1 = H at hP hR hS ⊢
        have hP : va_P (dC, dI) vwCl ([]) H := hP
        try dsimp only at hw_r_3
        subst hw_r_3
        refine lv_lstore (lv' := [(6, .long (cdF acc ((v (rtA st bc (nI k))).2))), (4, .long ((v (rtA st bc (nI k))).2)), (0, .ref g), (1, .long acc), (3, .int (nI k))]) hx hb dX2_turnsToReturn_26 hl (by decide) rfl (fun ls hl => ?_)
        refine lv_lload hx hb dX2_turnsToReturn_28 (lv_at hl 0 rfl) ?_
        refine lv_lconst (v := 0) hx hb dX2_turnsToReturn_30 (by decide) ?_
        refine W.lcmp hx hb dX2_turnsToReturn_31 ?_
        refine lv_if_le (tgt := 43) hx hb dX2_turnsToReturn_32 (by decide) (fun c_4 => ?_) (fun c_4 => ?_)
        · rw [lg_cmp_le] at c_4
          refine lv_iinc (v := nI (k + 1)) (lv' := [(3, .int (nI (k + 1))), (6, .long (cdF acc ((v (rtA st bc (nI k))).2))), (4, .long ((v (rtA st bc (nI k))).2)), (0, .ref g), (1, .long acc)]) hx hb dX2_turnsToReturn_43 hl (k := 4) rfl (nI_1 k) (by decide) rfl (fun ls hl => ?_)
          refine lv_goto (tgt := 4) hx hb dX2_turnsToReturn_46 (by decide) ?_
          refine W.widen (k := 0) (n := 0) (by omega) (by omega) ?_
          exact ih4 (k + 1) acc (by omega) hkl (by rw [hacc] at *; simp [ptL, c_4]) _ _ ls hP hS (lv_sub hl [3, 4, 0] rfl)
        · rw [lg_cmp_le] at c_4
          refine lv_lload_n hx hb dX2_turnsToReturn_35 rfl (lv_at hl 3 rfl) ?_
          refine lv_lload hx hb dX2_turnsToReturn_36 (lv_at hl 0 rfl) ?_
          refine lv_ldiv hx hb dX2_turnsToReturn_38 (neOfLe0 c_4) ?_
          refine lv_lload hx hb dX2_turnsToReturn_39 (lv_at hl 1 rfl) ?_
          refine lv_lmul hx hb dX2_turnsToReturn_41 ?_
          refine lv_lstore_n (lv' := [(1, .long ((acc / (cdF acc ((v (rtA st bc (nI k))).2))) * ((v (rtA st bc (nI k))).2))), (6, .long (cdF acc ((v (rtA st bc (nI k))).2))), (4, .long ((v (rtA st bc (nI k))).2)), (0, .ref g), (3, .int (nI k))]) hx hb dX2_turnsToReturn_42 rfl hl (by decide) rfl (fun ls hl => ?_)
          refine lv_iinc (v := nI (k + 1)) (lv' := [(3, .int (nI (k + 1))), (1, .long ((acc / (cdF acc ((v (rtA st bc (nI k))).2))) * ((v (rtA st bc (nI k))).2))), (6, .long (cdF acc ((v (rtA st bc (nI k))).2))), (4, .long ((v (rtA st bc (nI k))).2)), (0, .ref g)]) hx hb dX2_turnsToReturn_43 hl (k := 4) rfl (nI_1 k) (by decide) rfl (fun ls hl => ?_)
          refine lv_goto (tgt := 4) hx hb dX2_turnsToReturn_46 (by decide) ?_
          refine W.widen (k := 0) (n := 0) (by omega) (by omega) ?_
          exact ih4 (k + 1) ((acc / (cdF acc ((v (rtA st bc (nI k))).2))) * ((v (rtA st bc (nI k))).2)) (by omega) hkl (by rw [hacc] at *; simp [ptL, c_4]) _ _ ls hP hS (lv_sub hl [4, 1, 0] rfl)
  refine W.widen (k := 0) (n := 0) (by omega) (by omega) ?_
  exact K4 (7 - 0 + 1) 0 1 (by omega) (Nat.zero_le _) rfl _ _ ls hP hS (lv_sub hl [2, 1, 0] rfl)

set_option maxHeartbeats 4000000 in
set_option maxRecDepth 100000 in
theorem c_X2_isPeriodRight (l : Launch) (dC : Nat → ClassId) (dI : Nat → Nat → Nat) (cI cF : ClassId) (tr : List (ClassId × FieldType)) (sz : Nat) (g : Nat) (n : Nat) (xa : Nat) (xt : Nat) (xm : Nat) (wh : Nat) (st : Nat) (xb : Nat) (xc : Nat) (bc : Nat → Option Nat) (LP : List Nat) (v : Nat → Int64 × Int64) (hst : st ∈ LP) (hbc : ∀ k, k < 7 → ∀ a, bc k = some a → a ∈ LP) : Met l yX2_isPeriodRight wsX2_isPeriodRight ({ frames := 3, cells := 0, slots := 0, locals := 70 } : Room) (cPc dC dI ((cI, .int) :: (cF, .object RX1) :: tr) sz ([(g, .inr (iX2, [.int (nI n), .ref xa, .ref xt, .ref xm, .ref wh, .ref st, .ref xb, .ref xc])), (xb, .inl (cF, 7, .inr (.inr (.inr (.inr (bc))))))] ++ va_pl LP (fe v)) [.ref g]) (va_Qi (fun (r : Int32) (_ : Unit) => r = iprL (ptL st bc v 7) st bc v 7 0) (fun _ _ => True) (va_A ([]) sz)) 0 0 (va_A ([]) sz) := by
  refine Met.ofW (cc := cX2_isPeriodRight) (maxL := 6) (ret := (some .boolean)) (by decide) rfl ?_
  intro p e s m args below meth c s₁ B hml hv
  obtain ⟨rfl, hsz, hP, hK, hN⟩ := hv
  have hx := B.exec
  have hb := B.bytes
  have hr := B.returns
  have hts := atoms_spec (ws := wsX2_isPeriodRight) B.pre
  have hown : s.vm.findClass RX2 = some m.cls := findClass_of_methodNamed B.named
  have hlocks := B.notSynchronized
  subst hsz
  generalize hAe : va_A [] s.heap.size = A
  have hA : ∀ q : Nat, s.heap.size ≤ q → A q := fun q h => by rw [← hAe]; exact Or.inr h
  have hS : va_S A s.heap s.heap [] := va_S.rf
  have hAn : ∀ q : Nat, q < s.heap.size → ¬ A q := fun q h => by rw [← hAe]; exact notZ h
  have hAg : ∀ q : Nat, A q → s.heap.size ≤ q := fun q h => geZ (hAe ▸ h)
  have hR0 : va_P (dC, dI) vwCl ([(g, .inr (iX2, [.int (nI n), .ref xa, .ref xt, .ref xm, .ref wh, .ref st, .ref xb, .ref xc])), (xb, .inl (cF, 7, .inr (.inr (.inr (.inr (bc))))))] ++ va_pl LP (fe v)) s.heap := hP
  have hR : va_P (dC, dI) vwCl ([(g, .inr (iX2, [.int (nI n), .ref xa, .ref xt, .ref xm, .ref wh, .ref st, .ref xb, .ref xc])), (xb, .inl (cF, 7, .inr (.inr (.inr (.inr (bc))))))] ++ va_pl LP (fe v)) s.heap := hP
  have hP : va_P (dC, dI) vwCl [] s.heap := fun k q h => by simp at h
  have hD : va_D A [] := ⟨fun i j p q h => by simp at h, fun k q h => by simp at h⟩
  have hl := lv_entry ([.ref g]) (n := 6) (Nat.le_of_ble_eq_true rfl)
  rw [lg_entry_eq]
  generalize (lg_sl ([.ref g]) ++ List.replicate (6 - (lg_sl ([.ref g])).length) Slot.unset).toArray = ls at hl ⊢
  have hl : lv_has ls 6 [(0, .ref g)] := hl
  have hfl_95 := hts (.fieldLink RX2 95 "Greenwheels$Fraction" "lower" "J") (by decide +kernel)
  have hin_X1 : ∀ w ∈ u_ws RX1 TX1 2, w ∈ wsX2_isPeriodRight := by decide +kernel
  refine lv_aload_n hx hb dX2_isPeriodRight_0 rfl (lv_at hl 0 rfl) ?_
  have hPc : va_P (dC, dI) vwCl ([(g, .inr (iX2, [.int (nI n), .ref xa, .ref xt, .ref xm, .ref wh, .ref st, .ref xb, .ref xc])), (xb, .inl (cF, 7, .inr (.inr (.inr (.inr (bc))))))] ++ va_pl LP (fe v)) _ := hR.part [0, 1] rfl
  have hFc := frZ hS hA
  refine va_calll (va_runV (As := []) (rest := []) ⟨hx, hb, hml, hown, hts⟩ (c_X2_turnsToReturn l dC dI cI cF tr (s.heap).size g n xa xt xm wh st xb xc bc LP v (by assumption) (by assumption)) (cwV 0 hts gX2_isPeriodRight_X2_turnsToReturn rfl rfl rfl (by decide +kernel) ⟨Nat.le_of_ble_eq_true rfl, Nat.le_of_ble_eq_true rfl⟩) ⟨cBl, (va_recv hK hPc (ci := iX2) (q0 := 0) rfl rfl), (cPre hPc hK hN)⟩ rfl rfl hl.1 rfl (lv_room (Nat.le_of_ble_eq_true rfl)) dX2_isPeriodRight_1 ⟨(Nat.le_of_ble_eq_true rfl), (Nat.le_of_ble_eq_true rfl)⟩) hS (fun q _ h => hFc q h) hFc (fun r_1 u t H1 locs ht hvm hw_r_1 hB hz1 hk1 hS => ?_)
  refine W.widen (k := 0) (n := 0) (Nat.le_refl _) (Nat.le_refl _) ?_
  have hP := keepP hP hk1
  have hR := keepP hR hk1
  generalize H1 = H at hP hR hS ⊢
  have hP : va_P (dC, dI) vwCl ([]) H := hP
  try dsimp only at hw_r_1
  subst hw_r_1
  refine lv_lstore_n (lv' := [(1, .long (ptL st bc v 7)), (0, .ref g)]) hx hb dX2_isPeriodRight_4 rfl hl (by decide) rfl (fun ls hl => ?_)
  refine lv_iconst (v := 0) hx hb dX2_isPeriodRight_5 (by decide) ?_
  refine lv_istore_n (lv' := [(3, .int 0), (1, .long (ptL st bc v 7)), (0, .ref g)]) hx hb dX2_isPeriodRight_6 rfl hl (by decide) rfl (fun ls hl => ?_)
  have K7 : ∀ (NN : Nat), ∀ (k : Nat), (7 - k) < NN → (k ≤ 7) → (iprL (ptL st bc v 7) st bc v (7 - k) k = iprL (ptL st bc v 7) st bc v 7 0) → ∀ (H : Heap) (locs : List Loc) (ls : Array Slot), va_P (dC, dI) vwCl ([]) H → va_S A s.heap H locs → lv_has ls 6 [(0, .ref g), (1, .long (ptL st bc v 7)), (3, .int (nI k))] → W p l e (headSpec wsX2_isPeriodRight ({ frames := 3, cells := 0, slots := 0, locals := 70 } : Room)).room s m #[Value.ref g] below meth c H locs (0) (0) (MQ below (va_Qi (fun (r : Int32) (_ : Unit) => r = iprL (ptL st bc v 7) st bc v 7 0) (fun _ _ => True) A) #[Value.ref g] s 0 0 A) (F0 m 7 ls []) := by
    intro NN
    induction NN with
    | zero =>
      intro k hmu hk hacc H locs ls hP hS hl
      exact absurd hmu (Nat.not_lt_zero _)
    | succ NN ih7 =>
      intro k hmu hk hacc H locs ls hP hS hl
      have hR := keepR hR0 hS hAn
      refine lv_iload_n hx hb dX2_isPeriodRight_7 rfl (lv_at hl 2 rfl) ?_
      refine lv_bipush (v := 7) hx hb dX2_isPeriodRight_8 (by decide) ?_
      refine lv_icmp_ge (tgt := 47) hx hb dX2_isPeriodRight_10 (by decide) (fun c_2 => ?_) (fun c_2 => ?_)
      · have hke : 7 ≤ k := leK (by omega) (by omega) c_2
        obtain rfl : k = 7 := by omega
        refine lv_lload_n hx hb dX2_isPeriodRight_47 rfl (lv_at hl 1 rfl) ?_
        refine lv_lconst (v := 0) hx hb dX2_isPeriodRight_48 (by decide) ?_
        refine W.lcmp hx hb dX2_isPeriodRight_49 ?_
        refine lv_if_le (tgt := 57) hx hb dX2_isPeriodRight_50 (by decide) (fun c_3 => ?_) (fun c_3 => ?_)
        · rw [lg_cmp_le] at c_3
          refine lv_iconst (v := 0) hx hb dX2_isPeriodRight_57 (by decide) ?_
          refine W.widen (k := 0) (n := 0) (by omega) (by omega) ?_
          exact W.zret (v := 0) hx hb hr (by first | rfl | simp [narrow] | assumption) (fun t ht hW => ⟨⟨0, (), rfl, (by rw [← hacc]; simp [iprL, c_3]), trivial⟩, hS.F ht⟩) hS.2.2 dX2_isPeriodRight_58
        · rw [lg_cmp_le] at c_3
          refine lv_iconst (v := 1) hx hb dX2_isPeriodRight_53 (by decide) ?_
          refine lv_goto (tgt := 58) hx hb dX2_isPeriodRight_54 (by decide) ?_
          refine W.widen (k := 0) (n := 0) (by omega) (by omega) ?_
          exact W.zret (v := 1) hx hb hr (by first | rfl | simp [narrow] | assumption) (fun t ht hW => ⟨⟨1, (), rfl, (by rw [← hacc]; simp [iprL, c_3]), trivial⟩, hS.F ht⟩) hS.2.2 dX2_isPeriodRight_58
      · have hkl : k < 7 := ltK (by omega) (by omega) c_2
        refine lv_aload_n hx hb dX2_isPeriodRight_13 rfl (lv_at hl 0 rfl) ?_
        refine lv_iload_n hx hb dX2_isPeriodRight_14 rfl (lv_at hl 2 rfl) ?_
        have hPc : va_P (dC, dI) vwCl ([(g, .inr (iX2, [.int (nI n), .ref xa, .ref xt, .ref xm, .ref wh, .ref st, .ref xb, .ref xc])), (xb, .inl (cF, 7, .inr (.inr (.inr (.inr (bc))))))]) _ := hR.sub [0, 1] rfl
        have hFc := frZ hS hA
        refine va_callr (va_runV (As := [.int (nI k)]) (rest := []) ⟨hx, hb, hml, hown, hts⟩ (c_X2_rateOf l dC dI cI cF tr (H).size g n xa xt xm wh st xb xc bc (nI k)) (cwV 1 hts gX2_isPeriodRight_X2_rateOf rfl rfl rfl (by decide +kernel) ⟨Nat.le_of_ble_eq_true rfl, Nat.le_of_ble_eq_true rfl⟩) ⟨cBl, (va_recv hK hPc (ci := iX2) (q0 := 0) rfl rfl), (cPre hPc hK hN)⟩ rfl rfl hl.1 rfl (lv_room (Nat.le_of_ble_eq_true rfl)) dX2_isPeriodRight_15 ⟨(Nat.le_of_ble_eq_true rfl), (Nat.le_of_ble_eq_true rfl)⟩) hS (fun q _ h => hFc q h) hFc (fun u r_4 t H1 locs ht hvm hw_r_4 hB hz1 hk1 hS => ?_)
        refine W.widen (k := 0) (n := 0) (Nat.le_refl _) (Nat.le_refl _) ?_
        have hP := keepP hP hk1
        have hR := keepP hR hk1
        generalize H1 = H at hP hR hS ⊢
        have hP : va_P (dC, dI) vwCl ([]) H := hP
        try dsimp only at hB
        subst hB
        refine va_get (D := (dC, dI)) (ci := iX1) (v := .long ((v (rtA st bc (nI k))).2)) (C := RX1) (T := TX1) (N := 2) hx hb hts hin_X1 hown hK (poolP hR (rtA_mem hst hbc (nI k))) 0 rfl rfl 1 (by decide) hfl_95 (fun _ h9 => h9) rfl dX2_isPeriodRight_18 ?_
        refine lv_lstore (lv' := [(4, .long ((v (rtA st bc (nI k))).2)), (0, .ref g), (1, .long (ptL st bc v 7)), (3, .int (nI k))]) hx hb dX2_isPeriodRight_21 hl (by decide) rfl (fun ls hl => ?_)
        refine lv_lload hx hb dX2_isPeriodRight_23 (lv_at hl 0 rfl) ?_
        refine lv_lconst (v := 0) hx hb dX2_isPeriodRight_25 (by decide) ?_
        refine W.lcmp hx hb dX2_isPeriodRight_26 ?_
        refine lv_if_le (tgt := 41) hx hb dX2_isPeriodRight_27 (by decide) (fun c_5 => ?_) (fun c_5 => ?_)
        · rw [lg_cmp_le] at c_5
          refine lv_iinc (v := nI (k + 1)) (lv' := [(3, .int (nI (k + 1))), (4, .long ((v (rtA st bc (nI k))).2)), (0, .ref g), (1, .long (ptL st bc v 7))]) hx hb dX2_isPeriodRight_41 hl (k := 3) rfl (nI_1 k) (by decide) rfl (fun ls hl => ?_)
          refine lv_goto (tgt := 7) hx hb dX2_isPeriodRight_44 (by decide) ?_
          refine W.widen (k := 0) (n := 0) (by omega) (by omega) ?_
          exact ih7 (k + 1) (by omega) hkl (by rw [← hacc, show 7 - k = (7 - (k + 1)) + 1 by omega]; simp [iprL, c_2, c_5]) _ _ ls hP hS (lv_sub hl [2, 3, 0] rfl)
        · rw [lg_cmp_le] at c_5
          refine lv_lload_n hx hb dX2_isPeriodRight_30 rfl (lv_at hl 2 rfl) ?_
          refine lv_lload hx hb dX2_isPeriodRight_31 (lv_at hl 0 rfl) ?_
          refine lv_lrem hx hb dX2_isPeriodRight_33 (neOfLe0 c_5) ?_
          refine lv_lconst (v := 0) hx hb dX2_isPeriodRight_34 (by decide) ?_
          refine W.lcmp hx hb dX2_isPeriodRight_35 ?_
          refine lv_if_eq (tgt := 41) hx hb dX2_isPeriodRight_36 (by decide) (fun c_6 => ?_) (fun c_6 => ?_)
          · rw [lg_cmp_eq] at c_6
            refine lv_iinc (v := nI (k + 1)) (lv' := [(3, .int (nI (k + 1))), (4, .long ((v (rtA st bc (nI k))).2)), (0, .ref g), (1, .long (ptL st bc v 7))]) hx hb dX2_isPeriodRight_41 hl (k := 3) rfl (nI_1 k) (by decide) rfl (fun ls hl => ?_)
            refine lv_goto (tgt := 7) hx hb dX2_isPeriodRight_44 (by decide) ?_
            refine W.widen (k := 0) (n := 0) (by omega) (by omega) ?_
            exact ih7 (k + 1) (by omega) hkl (by rw [← hacc, show 7 - k = (7 - (k + 1)) + 1 by omega]; simp [iprL, c_5, c_6]) _ _ ls hP hS (lv_sub hl [2, 3, 0] rfl)
          · rw [lg_cmp_eq] at c_6
            refine lv_iconst (v := 0) hx hb dX2_isPeriodRight_39 (by decide) ?_
            refine W.widen (k := 0) (n := 0) (by omega) (by omega) ?_
            exact W.zret (v := 0) hx hb hr (by first | rfl | simp [narrow] | assumption) (fun t ht hW => ⟨⟨0, (), rfl, (by rw [← hacc, show 7 - k = (7 - (k + 1)) + 1 by omega]; simp [iprL, c_5, c_6]), trivial⟩, hS.F ht⟩) hS.2.2 dX2_isPeriodRight_40
  refine W.widen (k := 0) (n := 0) (by omega) (by omega) ?_
  exact K7 (7 - 0 + 1) 0 (by omega) (Nat.zero_le _) rfl _ _ ls hP hS (lv_sub hl [2, 1, 0] rfl)
end
section
/-! the gearing: how rates spread -/
abbrev RT : Type := Nat → Option (Int64 × Int64)
def abR (b : Nat → Option Nat) (v : Nat → Int64 × Int64) : RT := fun k => (b k).map v
def bOK (LP : List Nat) (b : Nat → Option Nat) : Prop := (∀ k a, b k = some a → a ∈ LP) ∧ ∀ k, 7 ≤ k → b k = none
def keepL (LP LP1 : List Nat) (v v1 : Nat → Int64 × Int64) : Prop := ∀ a, a ∈ LP → a ∈ LP1 ∧ v1 a = v a
def rinR (r : RT) (i : Int32) : Option (Int64 × Int64) := if i < 0 then none else if nI 7 ≤ i then none else r i.toNatClampNeg
def mulF (p : Int64 × Int64) (a b : Int32) : Int64 × Int64 := (frU (p.1 * a.toInt64) (p.2 * b.toInt64), frL (p.1 * a.toInt64) (p.2 * b.toInt64))
def sfS (ax te me : Nat → Int32) (w : Int32) (p : Int64 × Int64) (k : Nat) (s : RT × Int32) : RT × Int32 :=
  if isInF (atF 12 me w) (nI k) = 0 then s else if atF 12 ax (nI k) < 0 then s else if nI 7 ≤ atF 12 ax (nI k) then s else
  if (s.1 (atF 12 ax (nI k)).toNatClampNeg).isSome then s else
  (va_up s.1 (atF 12 ax (nI k)).toNatClampNeg (some (mulF p (-atF 12 te w) (atF 12 te (nI k)))), 1)
def sfL (ax te me : Nat → Int32) (w : Int32) (p : Int64 × Int64) (r : RT) : Nat → RT × Int32
  | 0 => (r, 0)
  | k + 1 => sfS ax te me w p k (sfL ax te me w p r k)
def sfw (ax te me : Nat → Int32) (n : Nat) (w : Int32) (r : RT) : RT × Int32 := (rinR r (atF 12 ax w)).elim (r, 0) (fun p => sfL ax te me w p r n)
def swS (ax te me : Nat → Int32) (n k : Nat) (s : RT × Int32) : RT × Int32 :=
  if atF 12 me (nI k) = 0 then s else ((sfw ax te me n (nI k) s.1).1, if (sfw ax te me n (nI k) s.1).2 = 0 then s.2 else 1)
def swL (ax te me : Nat → Int32) (n : Nat) (r : RT) : Nat → RT × Int32
  | 0 => (r, 0)
  | k + 1 => swS ax te me n k (swL ax te me n r k)
def spR (ax te me : Nat → Int32) (n : Nat) : Nat → Int32 → RT → RT
  | 0, _, r => r
  | j + 1, g, r => if g = 0 then r else spR ax te me n j (swL ax te me n r n).2 (swL ax te me n r n).1
def r0F (i : Int32) (w : Int64 × Int64) : RT := fun k => if k < 7 ∧ nI k = i then some w else none
/-- all rates by the axle i -/
def sprF (ax te me : Nat → Int32) (n : Nat) (i : Int32) (w : Int64 × Int64) : RT := spR ax te me n 7 1 (r0F i w)
theorem rin_none {b : Nat → Option Nat} {v : Nat → Int64 × Int64} {i : Int32} (h : rinF 7 b i = none) : rinR (abR b v) i = none := by
  unfold rinF at h
  unfold rinR
  split
  · rfl
  · rename_i h0
    rw [if_neg h0] at h
    split
    · rfl
    · rename_i h1
      rw [if_neg h1] at h
      simp [abR, h]
theorem rin_some {b : Nat → Option Nat} {v : Nat → Int64 × Int64} {i : Int32} {a : Nat} (h : rinF 7 b i = some a) : rinR (abR b v) i = some (v a) := by
  unfold rinF at h
  unfold rinR
  split
  · rename_i h0
    rw [if_pos h0] at h
    cases h
  · rename_i h0
    rw [if_neg h0] at h
    split
    · rename_i h1
      rw [if_pos h1] at h
      cases h
    · rename_i h1
      rw [if_neg h1] at h
      simp [abR, h]
theorem rinF_memA {LP : List Nat} {b : Nat → Option Nat} (h : bOK LP b) {i : Int32} {a : Nat} (hq : rinF 7 b i = some a) : a ∈ LP := rinF_mem (fun k _ a ha => h.1 k a ha) hq
theorem keepL.rf {LP : List Nat} {v : Nat → Int64 × Int64} : keepL LP LP v v := fun _ h => ⟨h, rfl⟩
theorem keepL.tr {LP LP1 LP2 : List Nat} {v v1 v2 : Nat → Int64 × Int64} (h1 : keepL LP LP1 v v1) (h2 : keepL LP1 LP2 v1 v2) : keepL LP LP2 v v2 := fun a h => ⟨(h2 a (h1 a h).1).1, ((h2 a (h1 a h).1).2).trans (h1 a h).2⟩
theorem keepL.push {LP : List Nat} {v : Nat → Int64 × Int64} {r : Nat} {p : Int64 × Int64} (hr : r ∉ LP) : keepL LP (LP ++ [r]) v (va_up v r p) := fun a h => ⟨List.mem_append_left _ h, va_up_ne _ _ (fun z => hr (z ▸ h))⟩
theorem bOK.keep {LP LP1 : List Nat} {v v1 : Nat → Int64 × Int64} {b : Nat → Option Nat} (h : bOK LP b) (hk : keepL LP LP1 v v1) : bOK LP1 b := ⟨fun k a ha => (hk a (h.1 k a ha)).1, h.2⟩
theorem abR.keep {LP LP1 : List Nat} {v v1 : Nat → Int64 × Int64} {b : Nat → Option Nat} (h : bOK LP b) (hk : keepL LP LP1 v v1) : abR b v1 = abR b v := by
  funext k
  unfold abR
  cases hb : b k with
  | none => rfl
  | some a => simp [(hk a (h.1 k a hb)).2]
theorem bOK.put {LP : List Nat} {b : Nat → Option Nat} {j r : Nat} (h : bOK LP b) (hj : j < 7) (hr : r ∈ LP) : bOK LP (va_up b j (some r)) := by
  refine ⟨fun k a ha => ?_, fun k hk => ?_⟩
  · by_cases e : k = j
    · subst e
      rw [va_up_self] at ha
      cases ha
      exact hr
    · rw [va_up_ne _ _ e] at ha
      exact h.1 k a ha
  · rw [va_up_ne _ _ (by omega)]
    exact h.2 k hk
theorem abR.put {b : Nat → Option Nat} {v : Nat → Int64 × Int64} {j r : Nat} : abR (va_up b j (some r)) v = va_up (abR b v) j (some (v r)) := by
  funext k
  by_cases e : k = j
  · subst e
    simp [abR, va_up]
  · simp [abR, va_up, e]
theorem clampLt {i : Int32} {n : Nat} (hn : n < 2 ^ 31) (h0 : ¬ i < 0) (h1 : ¬ nI n ≤ i) : i.toNatClampNeg < n := by
  obtain ⟨j, hj, rfl⟩ := nI_of h0
  rw [nI_clamp hj]
  exact Nat.lt_of_not_le fun h => h1 ((nI_leI hn hj).mpr h)

set_option maxHeartbeats 4000000 in
set_option maxRecDepth 100000 in
theorem c_X2_spreadFromWheel (l : Launch) (dC : Nat → ClassId) (dI : Nat → Nat → Nat) (cI cF : ClassId) (tr : List (ClassId × FieldType)) (sz : Nat) (g : Nat) (n : Nat) (xa : Nat) (xt : Nat) (xm : Nat) (wh : Nat) (st : Nat) (xb : Nat) (xc : Nat) (ax : Nat → Int32) (te : Nat → Int32) (me : Nat → Int32) (h : Nat) (b : Nat → Option Nat) (LP : List Nat) (v : Nat → Int64 × Int64) (i : Int32) (hbk : bOK LP b) (hn : n ≤ 12) : Met l yX2_spreadFromWheel wsX2_spreadFromWheel ({ frames := 3, cells := 12, slots := 24, locals := 80 } : Room) (cPd dC dI ((cI, .int) :: (cF, .object RX1) :: tr) sz ([(g, .inr (iX2, [.int (nI n), .ref xa, .ref xt, .ref xm, .ref wh, .ref st, .ref xb, .ref xc])), (xa, .inl (cI, 12, .inl (ax))), (xt, .inl (cI, 12, .inl (te))), (xm, .inl (cI, 12, .inl (me))), (h, .inl (cF, 7, .inr (.inr (.inr (.inr (b))))))] ++ va_pl LP (fe v)) [.ref g, .int i, .ref h]) (va_Qi (fun (r : Int32) (u : (Nat → Option Nat) × List Nat × (Nat → Int64 × Int64)) => r = (sfw ax te me n i (abR b v)).2 ∧ bOK u.2.1 u.1 ∧ keepL LP u.2.1 v u.2.2 ∧ abR u.1 u.2.2 = (sfw ax te me n i (abR b v)).1) (fun ⟨b1, LP1, v1⟩ t => va_P (dC, dI) vwCl ([(g, .inr (iX2, [.int (nI n), .ref xa, .ref xt, .ref xm, .ref wh, .ref st, .ref xb, .ref xc])), (xa, .inl (cI, 12, .inl (ax))), (xt, .inl (cI, 12, .inl (te))), (xm, .inl (cI, 12, .inl (me))), (h, .inl (cF, 7, .inr (.inr (.inr (.inr (b1))))))] ++ va_pl LP1 (fe v1)) t.heap ∧ va_D (va_A ([(g, .inr (iX2, [.int (nI n), .ref xa, .ref xt, .ref xm, .ref wh, .ref st, .ref xb, .ref xc])), (xa, .inl (cI, 12, .inl (ax))), (xt, .inl (cI, 12, .inl (te))), (xm, .inl (cI, 12, .inl (me))), (h, .inl (cF, 7, .inr (.inr (.inr (.inr (b))))))] ++ va_pl LP (fe v)) sz) ([(g, .inr (iX2, [.int (nI n), .ref xa, .ref xt, .ref xm, .ref wh, .ref st, .ref xb, .ref xc])), (xa, .inl (cI, 12, .inl (ax))), (xt, .inl (cI, 12, .inl (te))), (xm, .inl (cI, 12, .inl (me))), (h, .inl (cF, 7, .inr (.inr (.inr (.inr (b1))))))] ++ va_pl LP1 (fe v1))) (va_A ([(g, .inr (iX2, [.int (nI n), .ref xa, .ref xt, .ref xm, .ref wh, .ref st, .ref xb, .ref xc])), (xa, .inl (cI, 12, .inl (ax))), (xt, .inl (cI, 12, .inl (te))), (xm, .inl (cI, 12, .inl (me))), (h, .inl (cF, 7, .inr (.inr (.inr (.inr (b))))))] ++ va_pl LP (fe v)) sz)) 12 24 (va_A ([(g, .inr (iX2, [.int (nI n), .ref xa, .ref xt, .ref xm, .ref wh, .ref st, .ref xb, .ref xc])), (xa, .inl (cI, 12, .inl (ax))), (xt, .inl (cI, 12, .inl (te))), (xm, .inl (cI, 12, .inl (me))), (h, .inl (cF, 7, .inr (.inr (.inr (.inr (b))))))] ++ va_pl LP (fe v)) sz) := by
  refine Met.ofW (cc := cX2_spreadFromWheel) (maxL := 7) (ret := (some .boolean)) (by decide) rfl ?_
  intro p e s m args below meth c s₁ B hml hv
  obtain ⟨rfl, hsz, hP, hK, hN, hD0⟩ := hv
  have hx := B.exec
  have hb := B.bytes
  have hr := B.returns
  have hts := atoms_spec (ws := wsX2_spreadFromWheel) B.pre
  have hown : s.vm.findClass RX2 = some m.cls := findClass_of_methodNamed B.named
  have hlocks := B.notSynchronized
  subst hsz
  have hD := hD0.self (sz := s.heap.size)
  generalize hAe : va_A ([(g, .inr (iX2, [.int (nI n), .ref xa, .ref xt, .ref xm, .ref wh, .ref st, .ref xb, .ref xc])), (xa, .inl (cI, 12, .inl (ax))), (xt, .inl (cI, 12, .inl (te))), (xm, .inl (cI, 12, .inl (me))), (h, .inl (cF, 7, .inr (.inr (.inr (.inr (b))))))] ++ va_pl LP (fe v)) s.heap.size = A at hD ⊢
  have hA : ∀ q : Nat, s.heap.size ≤ q → A q := fun q h => by rw [← hAe]; exact Or.inr h
  have hS : va_S A s.heap s.heap [] := va_S.rf
  have hP : va_P (dC, dI) vwCl ([(g, .inr (iX2, [.int (nI n), .ref xa, .ref xt, .ref xm, .ref wh, .ref st, .ref xb, .ref xc])), (xa, .inl (cI, 12, .inl (ax))), (xt, .inl (cI, 12, .inl (te))), (xm, .inl (cI, 12, .inl (me))), (h, .inl (cF, 7, .inr (.inr (.inr (.inr (b))))))] ++ va_pl LP (fe v)) s.heap := hP
  have hl := lv_entry ([.ref g, .int i, .ref h]) (n := 7) (Nat.le_of_ble_eq_true rfl)
  rw [lg_entry_eq]
  generalize (lg_sl ([.ref g, .int i, .ref h]) ++ List.replicate (7 - (lg_sl ([.ref g, .int i, .ref h])).length) Slot.unset).toArray = ls at hl ⊢
  have hl : lv_has ls 7 [(0, .ref g), (1, .int i), (2, .ref h)] := hl
  have hfl_44 := hts (.fieldLink RX2 44 "Greenwheels$Gearing" "wheels" "I") (by decide +kernel)
  have hin_X2 : ∀ w ∈ u_ws RX2 TX2 8, w ∈ wsX2_spreadFromWheel := by decide +kernel
  refine lv_aload_n hx hb dX2_spreadFromWheel_0 rfl (lv_at hl 2 rfl) ?_
  refine lv_aload_n hx hb dX2_spreadFromWheel_1 rfl (lv_at hl 0 rfl) ?_
  refine lv_iload_n hx hb dX2_spreadFromWheel_2 rfl (lv_at hl 1 rfl) ?_
  have hPc : va_P (dC, dI) vwCl ([(g, .inr (iX2, [.int (nI n), .ref xa, .ref xt, .ref xm, .ref wh, .ref st, .ref xb, .ref xc])), (xa, .inl (cI, 12, .inl (ax)))]) _ := hP.sub [0, 1] rfl
  have hFc := frZ hS hA
  refine va_calli (va_runV (As := [.int i]) (rest := [.ref h]) ⟨hx, hb, hml, hown, hts⟩ (c_X2_axleOf l dC dI cI cF tr (s.heap).size g n xa xt xm wh st xb xc ax i) (cwV 1 hts gX2_spreadFromWheel_X2_axleOf rfl rfl rfl (by decide +kernel) ⟨Nat.le_of_ble_eq_true rfl, Nat.le_of_ble_eq_true rfl⟩) ⟨cBl, (va_recv hK hPc (ci := iX2) (q0 := 0) rfl rfl), (cPre hPc hK hN)⟩ rfl rfl hl.1 rfl (lv_room (Nat.le_of_ble_eq_true rfl)) dX2_spreadFromWheel_3 ⟨(Nat.le_of_ble_eq_true rfl), (Nat.le_of_ble_eq_true rfl)⟩) hS (fun q _ h => hFc q h) hFc (fun r_1 u t H1 locs ht hvm hw_r_1 hB hz1 hk1 hS => ?_)
  refine W.widen (k := 0) (n := 0) (Nat.le_refl _) (Nat.le_refl _) ?_
  have hP := keepP hP hk1
  generalize H1 = H at hP hS ⊢
  have hP : va_P (dC, dI) vwCl ([(g, .inr (iX2, [.int (nI n), .ref xa, .ref xt, .ref xm, .ref wh, .ref st, .ref xb, .ref xc])), (xa, .inl (cI, 12, .inl (ax))), (xt, .inl (cI, 12, .inl (te))), (xm, .inl (cI, 12, .inl (me))), (h, .inl (cF, 7, .inr (.inr (.inr (.inr (b))))))] ++ va_pl LP (fe v)) H := hP
  try dsimp only at hw_r_1
  subst hw_r_1
  have hPc : va_P (dC, dI) vwCl ([(h, .inl (cF, 7, .inr (.inr (.inr (.inr (b))))))]) _ := hP.sub [4] rfl
  have hFc := frZ hS hA
  refine va_callq (va_runS (As := [.ref h, .int (atF 12 ax i)]) (rest := []) ⟨hx, hb, hml, hown, hts⟩ (c_X2_rateIn l dC dI cI cF tr (H).size h b (atF 12 ax i)) (va_cwS 2 hts gX2_spreadFromWheel_X2_rateIn rfl rfl rfl (by decide +kernel) ⟨Nat.le_of_ble_eq_true rfl, Nat.le_of_ble_eq_true rfl⟩) ⟨cBl, (cPre hPc hK hN)⟩ rfl rfl hl.1 rfl (lv_room (Nat.le_of_ble_eq_true rfl)) dX2_spreadFromWheel_6 ⟨(Nat.le_of_ble_eq_true rfl), (Nat.le_of_ble_eq_true rfl)⟩) hS (fun q _ h => hFc q h) hFc (fun r_2 u t H1 locs ht hvm hw_r_2 hB hz1 hk1 hS => ?_)
  refine W.widen (k := 0) (n := 0) (Nat.le_refl _) (Nat.le_refl _) ?_
  have hP := keepP hP hk1
  generalize H1 = H at hP hS ⊢
  have hP : va_P (dC, dI) vwCl ([(g, .inr (iX2, [.int (nI n), .ref xa, .ref xt, .ref xm, .ref wh, .ref st, .ref xb, .ref xc])), (xa, .inl (cI, 12, .inl (ax))), (xt, .inl (cI, 12, .inl (te))), (xm, .inl (cI, 12, .inl (me))), (h, .inl (cF, 7, .inr (.inr (.inr (.inr (b))))))] ++ va_pl LP (fe v)) H := hP
  try dsimp only at hw_r_2
  subst hw_r_2
  rcases hq_4 : rinF 7 b (atF 12 ax i) with _ | a_3
  · refine W.eq (g2 := F0 m 9 ls [.null]) rfl ?_
    refine lv_astore_nN (lv' := [(3, .null), (0, .ref g), (1, .int i), (2, .ref h)]) hx hb dX2_spreadFromWheel_9 rfl hl (by decide) rfl (fun ls hl => ?_)
    refine lv_aload_nN hx hb dX2_spreadFromWheel_10 rfl (lv_at hl 0 rfl) ?_
    refine lv_ifnonnullN hx hb dX2_spreadFromWheel_11 ?_
    refine lv_iconst (v := 0) hx hb dX2_spreadFromWheel_14 (by decide) ?_
    refine W.widen (k := 12) (n := 24) (by omega) (by omega) ?_
    exact W.zret (v := 0) hx hb hr (by first | rfl | (rcases hg with rfl | rfl <;> rfl)) (fun t ht hW => ⟨⟨0, (b, LP, v), rfl, ⟨by simp [sfw, rin_none hq_4], hbk, keepL.rf, by simp [sfw, rin_none hq_4]⟩, by rw [ht]; exact hP, hAe ▸ hD⟩, hS.F ht⟩) hS.2.2 dX2_spreadFromWheel_15
  · refine W.eq (g2 := F0 m 9 ls [.ref a_3]) rfl ?_
    refine lv_astore_n (lv' := [(3, .ref a_3), (0, .ref g), (1, .int i), (2, .ref h)]) hx hb dX2_spreadFromWheel_9 rfl hl (by decide) rfl (fun ls hl => ?_)
    refine lv_aload_n hx hb dX2_spreadFromWheel_10 rfl (lv_at hl 0 rfl) ?_
    refine lv_ifnonnull (tgt := 16) hx hb dX2_spreadFromWheel_11 (by decide) ?_
    refine lv_iconst (v := 0) hx hb dX2_spreadFromWheel_16 (by decide) ?_
    refine lv_istore (lv' := [(4, .int 0), (3, .ref a_3), (0, .ref g), (1, .int i), (2, .ref h)]) hx hb dX2_spreadFromWheel_17 hl (by decide) rfl (fun ls hl => ?_)
    refine lv_iconst (v := 0) hx hb dX2_spreadFromWheel_19 (by decide) ?_
    refine lv_istore (lv' := [(5, .int 0), (4, .int 0), (3, .ref a_3), (0, .ref g), (1, .int i), (2, .ref h)]) hx hb dX2_spreadFromWheel_20 hl (by decide) rfl (fun ls hl => ?_)
    have K22 : ∀ (NN : Nat), ∀ (k : Nat) (b1 : Nat → Option Nat) (LP1 : List Nat) (v1 : Nat → Int64 × Int64) (gr : Int32), (n - k) < NN → (k ≤ n) → (bOK LP1 b1) → (keepL LP LP1 v v1) → ((abR b1 v1, gr) = sfL ax te me i (v a_3) (abR b v) k) → (gr = 0 ∨ gr = 1) → ∀ (H : Heap) (locs : List Loc) (ls : Array Slot), va_P (dC, dI) vwCl ([(g, .inr (iX2, [.int (nI n), .ref xa, .ref xt, .ref xm, .ref wh, .ref st, .ref xb, .ref xc])), (xa, .inl (cI, 12, .inl (ax))), (xt, .inl (cI, 12, .inl (te))), (xm, .inl (cI, 12, .inl (me))), (h, .inl (cF, 7, .inr (.inr (.inr (.inr (b1))))))] ++ va_pl LP1 (fe v1)) H → va_D A ([(g, .inr (iX2, [.int (nI n), .ref xa, .ref xt, .ref xm, .ref wh, .ref st, .ref xb, .ref xc])), (xa, .inl (cI, 12, .inl (ax))), (xt, .inl (cI, 12, .inl (te))), (xm, .inl (cI, 12, .inl (me))), (h, .inl (cF, 7, .inr (.inr (.inr (.inr (b1))))))] ++ va_pl LP1 (fe v1)) → va_S A s.heap H locs → lv_has ls 7 [(0, .ref g), (1, .int i), (2, .ref h), (3, .ref a_3), (4, .int gr), (5, .int (nI k))] → W p l e (headSpec wsX2_spreadFromWheel ({ frames := 3, cells := 12, slots := 24, locals := 80 } : Room)).room s m #[Value.ref g, Value.int i, Value.ref h] below meth c H locs (k) (2 * k) (MQ below (va_Qi (fun (r : Int32) (u : (Nat → Option Nat) × List Nat × (Nat → Int64 × Int64)) => r = (sfw ax te me n i (abR b v)).2 ∧ bOK u.2.1 u.1 ∧ keepL LP u.2.1 v u.2.2 ∧ abR u.1 u.2.2 = (sfw ax te me n i (abR b v)).1) (fun ⟨b1, LP1, v1⟩ t => va_P (dC, dI) vwCl ([(g, .inr (iX2, [.int (nI n), .ref xa, .ref xt, .ref xm, .ref wh, .ref st, .ref xb, .ref xc])), (xa, .inl (cI, 12, .inl (ax))), (xt, .inl (cI, 12, .inl (te))), (xm, .inl (cI, 12, .inl (me))), (h, .inl (cF, 7, .inr (.inr (.inr (.inr (b1))))))] ++ va_pl LP1 (fe v1)) t.heap ∧ va_D A ([(g, .inr (iX2, [.int (nI n), .ref xa, .ref xt, .ref xm, .ref wh, .ref st, .ref xb, .ref xc])), (xa, .inl (cI, 12, .inl (ax))), (xt, .inl (cI, 12, .inl (te))), (xm, .inl (cI, 12, .inl (me))), (h, .inl (cF, 7, .inr (.inr (.inr (.inr (b1))))))] ++ va_pl LP1 (fe v1))) A) #[Value.ref g, Value.int i, Value.ref h] s 12 24 A) (F0 m 22 ls []) := by
      intro NN
      induction NN with
      | zero =>
        intro k b1 LP1 v1 gr hmu hk hok hkp hs hg H locs ls hP hD hS hl
        exact absurd hmu (Nat.not_lt_zero _)
      | succ NN ih22 =>
        intro k b1 LP1 v1 gr hmu hk hok hkp hs hg H locs ls hP hD hS hl
        refine lv_iload hx hb dX2_spreadFromWheel_22 (lv_at hl 5 rfl) ?_
        refine lv_aload_n hx hb dX2_spreadFromWheel_24 rfl (lv_at hl 0 rfl) ?_
        refine va_get (D := (dC, dI)) (ci := iX2) (v := .int (nI n)) (C := RX2) (T := TX2) (N := 8) hx hb hts hin_X2 hown hK hP 0 rfl rfl 0 (by decide) hfl_44 (fun _ h9 => h9) rfl dX2_spreadFromWheel_25 ?_
        refine lv_icmp_ge (tgt := 99) hx hb dX2_spreadFromWheel_28 (by decide) (fun c_5 => ?_) (fun c_5 => ?_)
        · have hke : n ≤ k := leK (by omega) (by omega) c_5
          obtain rfl : k = n := by omega
          have hfin : (abR b1 v1, gr) = sfw ax te me k i (abR b v) := by rw [hs]; simp [sfw, rin_some hq_4]
          refine lv_iload hx hb dX2_spreadFromWheel_99 (lv_at hl 4 rfl) ?_
          refine W.widen (k := 12) (n := 24) (by omega) (by omega) ?_
          exact W.zret (v := gr) hx hb hr (by first | rfl | (rcases hg with rfl | rfl <;> rfl)) (fun t ht hW => ⟨⟨gr, (b1, LP1, v1), rfl, ⟨by rw [← hfin], hok, hkp, by rw [← hfin]⟩, by rw [ht]; exact hP, hAe ▸ hD⟩, hS.F ht⟩) hS.2.2 dX2_spreadFromWheel_101
        · have hkl : k < n := ltK (by omega) (by omega) c_5
          refine lv_aload_n hx hb dX2_spreadFromWheel_31 rfl (lv_at hl 0 rfl) ?_
          refine lv_iload hx hb dX2_spreadFromWheel_32 (lv_at hl 5 rfl) ?_
          have hPc : va_P (dC, dI) vwCl ([(g, .inr (iX2, [.int (nI n), .ref xa, .ref xt, .ref xm, .ref wh, .ref st, .ref xb, .ref xc])), (xa, .inl (cI, 12, .inl (ax)))]) _ := hP.sub [0, 1] rfl
          have hFc := frZ hS hA
          refine va_calli (va_runV (As := [.int (nI k)]) (rest := []) ⟨hx, hb, hml, hown, hts⟩ (c_X2_axleOf l dC dI cI cF tr (H).size g n xa xt xm wh st xb xc ax (nI k)) (cwV 1 hts gX2_spreadFromWheel_X2_axleOf rfl rfl rfl (by decide +kernel) ⟨Nat.le_of_ble_eq_true rfl, Nat.le_of_ble_eq_true rfl⟩) ⟨cBl, (va_recv hK hPc (ci := iX2) (q0 := 0) rfl rfl), (cPre hPc hK hN)⟩ rfl rfl hl.1 rfl (lv_room (Nat.le_of_ble_eq_true rfl)) dX2_spreadFromWheel_34 ⟨(by show k + 0 ≤ 12; omega), (by show 2 * k + 0 ≤ 24; omega)⟩) hS (fun q _ h => hFc q h) hFc (fun r_6 u t H1 locs ht hvm hw_r_6 hB hz1 hk1 hS => ?_)
          refine W.widen (k := k) (n := 2 * k) (Nat.le_refl _) (Nat.le_refl _) ?_
          have hP := keepP hP hk1
          generalize H1 = H at hP hS ⊢
          have hP : va_P (dC, dI) vwCl ([(g, .inr (iX2, [.int (nI n), .ref xa, .ref xt, .ref xm, .ref wh, .ref st, .ref xb, .ref xc])), (xa, .inl (cI, 12, .inl (ax))), (xt, .inl (cI, 12, .inl (te))), (xm, .inl (cI, 12, .inl (me))), (h, .inl (cF, 7, .inr (.inr (.inr (.inr (b1))))))] ++ va_pl LP1 (fe v1)) H := hP
          try dsimp only at hw_r_6
          subst hw_r_6
          refine lv_istore (lv' := [(6, .int (atF 12 ax (nI k))), (0, .ref g), (1, .int i), (2, .ref h), (3, .ref a_3), (4, .int gr), (5, .int (nI k))]) hx hb dX2_spreadFromWheel_37 hl (by decide) rfl (fun ls hl => ?_)
          refine lv_aload_n hx hb dX2_spreadFromWheel_39 rfl (lv_at hl 1 rfl) ?_
          refine lv_iload_n hx hb dX2_spreadFromWheel_40 rfl (lv_at hl 2 rfl) ?_
          refine lv_iload hx hb dX2_spreadFromWheel_41 (lv_at hl 6 rfl) ?_
          have hPc : va_P (dC, dI) vwCl ([(g, .inr (iX2, [.int (nI n), .ref xa, .ref xt, .ref xm, .ref wh, .ref st, .ref xb, .ref xc])), (xm, .inl (cI, 12, .inl (me)))]) _ := hP.sub [0, 3] rfl
          have hFc := frZ hS hA
          refine va_calli (va_runV (As := [.int i, .int (nI k)]) (rest := []) ⟨hx, hb, hml, hown, hts⟩ (c_X2_areMeshed l dC dI cI cF tr (H).size g n xa xt xm wh st xb xc me i (nI k)) (cwV 2 hts gX2_spreadFromWheel_X2_areMeshed rfl rfl rfl (by decide +kernel) ⟨Nat.le_of_ble_eq_true rfl, Nat.le_of_ble_eq_true rfl⟩) ⟨cBl, (va_recv hK hPc (ci := iX2) (q0 := 0) rfl rfl), (cPre hPc hK hN)⟩ rfl rfl hl.1 rfl (lv_room (Nat.le_of_ble_eq_true rfl)) dX2_spreadFromWheel_43 ⟨(by show k + 0 ≤ 12; omega), (by show 2 * k + 0 ≤ 24; omega)⟩) hS (fun q _ h => hFc q h) hFc (fun r_7 u t H1 locs ht hvm hw_r_7 hB hz1 hk1 hS => ?_)
          refine W.widen (k := k) (n := 2 * k) (Nat.le_refl _) (Nat.le_refl _) ?_
          have hP := keepP hP hk1
          generalize H1 = H at hP hS ⊢
          have hP : va_P (dC, dI) vwCl ([(g, .inr (iX2, [.int (nI n), .ref xa, .ref xt, .ref xm, .ref wh, .ref st, .ref xb, .ref xc])), (xa, .inl (cI, 12, .inl (ax))), (xt, .inl (cI, 12, .inl (te))), (xm, .inl (cI, 12, .inl (me))), (h, .inl (cF, 7, .inr (.inr (.inr (.inr (b1))))))] ++ va_pl LP1 (fe v1)) H := hP
          try dsimp only at hw_r_7
          subst hw_r_7
          refine lv_if_eq (tgt := 93) hx hb dX2_spreadFromWheel_46 (by decide) (fun c_8 => ?_) (fun c_8 => ?_)
          · refine lv_iinc (v := nI (k + 1)) (lv' := [(5, .int (nI (k + 1))), (6, .int (atF 12 ax (nI k))), (0, .ref g), (1, .int i), (2, .ref h), (3, .ref a_3), (4, .int gr)]) hx hb dX2_spreadFromWheel_93 hl (k := 6) rfl (nI_1 k) (by decide) rfl (fun ls hl => ?_)
            refine lv_goto (tgt := 22) hx hb dX2_spreadFromWheel_96 (by decide) ?_
            refine W.widen (k := k + 1) (n := 2 * (k + 1)) (by omega) (by omega) ?_
            exact ih22 (k + 1) b1 LP1 v1 gr (by omega) hkl hok hkp (by rw [sfL, ← hs]; simp [sfS, abR, c_8]) hg _ _ ls hP hD hS (lv_sub hl [2, 3, 4, 5, 6, 0] rfl)
          · refine lv_iload hx hb dX2_spreadFromWheel_49 (lv_at hl 0 rfl) ?_
            refine lv_if_lt (tgt := 93) hx hb dX2_spreadFromWheel_51 (by decide) (fun c_9 => ?_) (fun c_9 => ?_)
            · refine lv_iinc (v := nI (k + 1)) (lv' := [(5, .int (nI (k + 1))), (6, .int (atF 12 ax (nI k))), (0, .ref g), (1, .int i), (2, .ref h), (3, .ref a_3), (4, .int gr)]) hx hb dX2_spreadFromWheel_93 hl (k := 6) rfl (nI_1 k) (by decide) rfl (fun ls hl => ?_)
              refine lv_goto (tgt := 22) hx hb dX2_spreadFromWheel_96 (by decide) ?_
              refine W.widen (k := k + 1) (n := 2 * (k + 1)) (by omega) (by omega) ?_
              exact ih22 (k + 1) b1 LP1 v1 gr (by omega) hkl hok hkp (by rw [sfL, ← hs]; simp [sfS, abR, c_8, c_9]) hg _ _ ls hP hD hS (lv_sub hl [2, 3, 4, 5, 6, 0] rfl)
            · refine lv_iload hx hb dX2_spreadFromWheel_54 (lv_at hl 0 rfl) ?_
              refine lv_aload_n hx hb dX2_spreadFromWheel_56 rfl (lv_at hl 3 rfl) ?_
              refine va_alen (D := (dC, dI)) (v := nI 7) hx hb hK hP 4 1 rfl rfl rfl dX2_spreadFromWheel_57 ?_
              refine lv_icmp_ge (tgt := 93) hx hb dX2_spreadFromWheel_58 (by decide) (fun c_10 => ?_) (fun c_10 => ?_)
              · refine lv_iinc (v := nI (k + 1)) (lv' := [(5, .int (nI (k + 1))), (6, .int (atF 12 ax (nI k))), (0, .ref g), (1, .int i), (2, .ref h), (3, .ref a_3), (4, .int gr)]) hx hb dX2_spreadFromWheel_93 hl (k := 6) rfl (nI_1 k) (by decide) rfl (fun ls hl => ?_)
                refine lv_goto (tgt := 22) hx hb dX2_spreadFromWheel_96 (by decide) ?_
                refine W.widen (k := k + 1) (n := 2 * (k + 1)) (by omega) (by omega) ?_
                exact ih22 (k + 1) b1 LP1 v1 gr (by omega) hkl hok hkp (by rw [sfL, ← hs]; simp [sfS, abR, c_8, c_9, c_10]) hg _ _ ls hP hD hS (lv_sub hl [2, 3, 4, 5, 6, 0] rfl)
              · refine lv_aload_n hx hb dX2_spreadFromWheel_61 rfl (lv_at hl 3 rfl) ?_
                refine lv_iload hx hb dX2_spreadFromWheel_62 (lv_at hl 0 rfl) ?_
                refine va_aldq (D := (dC, dI)) hx hb hK hP 4 1 rfl rfl (vpin_of (by decide) c_9 c_10) dX2_spreadFromWheel_64 ?_
                rcases hq_12 : b1 (atF 12 ax (nI k)).toNatClampNeg with _ | a_11
                · refine lv_ifnonnullN hx hb dX2_spreadFromWheel_65 ?_
                  refine lv_aload_n hx hb dX2_spreadFromWheel_68 rfl (lv_at hl 3 rfl) ?_
                  refine lv_iload hx hb dX2_spreadFromWheel_69 (lv_at hl 0 rfl) ?_
                  refine lv_aload_n hx hb dX2_spreadFromWheel_71 rfl (lv_at hl 4 rfl) ?_
                  refine lv_aload_n hx hb dX2_spreadFromWheel_72 rfl (lv_at hl 1 rfl) ?_
                  refine lv_iload_n hx hb dX2_spreadFromWheel_73 rfl (lv_at hl 2 rfl) ?_
                  have hPc : va_P (dC, dI) vwCl ([(g, .inr (iX2, [.int (nI n), .ref xa, .ref xt, .ref xm, .ref wh, .ref st, .ref xb, .ref xc])), (xt, .inl (cI, 12, .inl (te)))]) _ := hP.sub [0, 2] rfl
                  have hFc := frZ hS hA
                  refine va_calli (va_runV (As := [.int i]) (rest := [.ref a_3, .int (atF 12 ax (nI k)), .ref h]) ⟨hx, hb, hml, hown, hts⟩ (c_X2_teethOf l dC dI cI cF tr (H).size g n xa xt xm wh st xb xc te i) (cwV 1 hts gX2_spreadFromWheel_X2_teethOf rfl rfl rfl (by decide +kernel) ⟨Nat.le_of_ble_eq_true rfl, Nat.le_of_ble_eq_true rfl⟩) ⟨cBl, (va_recv hK hPc (ci := iX2) (q0 := 0) rfl rfl), (cPre hPc hK hN)⟩ rfl rfl hl.1 rfl (lv_room (Nat.le_of_ble_eq_true rfl)) dX2_spreadFromWheel_74 ⟨(by show k + 0 ≤ 12; omega), (by show 2 * k + 0 ≤ 24; omega)⟩) hS (fun q _ h => hFc q h) hFc (fun r_13 u t H1 locs ht hvm hw_r_13 hB hz1 hk1 hS => ?_)
                  refine W.widen (k := k) (n := 2 * k) (Nat.le_refl _) (Nat.le_refl _) ?_
                  have hP := keepP hP hk1
                  generalize H1 = H at hP hS ⊢
                  have hP : va_P (dC, dI) vwCl ([(g, .inr (iX2, [.int (nI n), .ref xa, .ref xt, .ref xm, .ref wh, .ref st, .ref xb, .ref xc])), (xa, .inl (cI, 12, .inl (ax))), (xt, .inl (cI, 12, .inl (te))), (xm, .inl (cI, 12, .inl (me))), (h, .inl (cF, 7, .inr (.inr (.inr (.inr (b1))))))] ++ va_pl LP1 (fe v1)) H := hP
                  try dsimp only at hw_r_13
                  subst hw_r_13
                  refine lv_ineg hx hb dX2_spreadFromWheel_77 ?_
                  refine lv_i2l hx hb dX2_spreadFromWheel_78 rfl ?_
                  refine lv_aload_n hx hb dX2_spreadFromWheel_79 rfl (lv_at hl 1 rfl) ?_
                  refine lv_iload hx hb dX2_spreadFromWheel_80 (lv_at hl 6 rfl) ?_
                  have hPc : va_P (dC, dI) vwCl ([(g, .inr (iX2, [.int (nI n), .ref xa, .ref xt, .ref xm, .ref wh, .ref st, .ref xb, .ref xc])), (xt, .inl (cI, 12, .inl (te)))]) _ := hP.sub [0, 2] rfl
                  have hFc := frZ hS hA
                  refine va_calli (va_runV (As := [.int (nI k)]) (rest := [.long ((-(atF 12 te i)).toInt64), .ref a_3, .int (atF 12 ax (nI k)), .ref h]) ⟨hx, hb, hml, hown, hts⟩ (c_X2_teethOf l dC dI cI cF tr (H).size g n xa xt xm wh st xb xc te (nI k)) (cwV 1 hts gX2_spreadFromWheel_X2_teethOf rfl rfl rfl (by decide +kernel) ⟨Nat.le_of_ble_eq_true rfl, Nat.le_of_ble_eq_true rfl⟩) ⟨cBl, (va_recv hK hPc (ci := iX2) (q0 := 0) rfl rfl), (cPre hPc hK hN)⟩ rfl rfl hl.1 rfl (lv_room (Nat.le_of_ble_eq_true rfl)) dX2_spreadFromWheel_82 ⟨(by show k + 0 ≤ 12; omega), (by show 2 * k + 0 ≤ 24; omega)⟩) hS (fun q _ h => hFc q h) hFc (fun r_14 u t H1 locs ht hvm hw_r_14 hB hz1 hk1 hS => ?_)
                  refine W.widen (k := k) (n := 2 * k) (Nat.le_refl _) (Nat.le_refl _) ?_
                  have hP := keepP hP hk1
                  generalize H1 = H at hP hS ⊢
                  have hP : va_P (dC, dI) vwCl ([(g, .inr (iX2, [.int (nI n), .ref xa, .ref xt, .ref xm, .ref wh, .ref st, .ref xb, .ref xc])), (xa, .inl (cI, 12, .inl (ax))), (xt, .inl (cI, 12, .inl (te))), (xm, .inl (cI, 12, .inl (me))), (h, .inl (cF, 7, .inr (.inr (.inr (.inr (b1))))))] ++ va_pl LP1 (fe v1)) H := hP
                  try dsimp only at hw_r_14
                  subst hw_r_14
                  refine lv_i2l hx hb dX2_spreadFromWheel_85 rfl ?_
                  have hPo := hP
                  have hPc : va_P (dC, dI) vwCl ([(a_3, .inr (iX1, [.long ((v1 a_3).1), .long ((v1 a_3).2)]))]) _ := poolP hP (hkp a_3 (rinF_memA hbk hq_4)).1
                  have hFc := frZ hS hA
                  have hz0 := hS.1
                  refine va_callr (va_runV (As := [.long ((-(atF 12 te i)).toInt64), .long ((atF 12 te (nI k)).toInt64)]) (rest := [.int (atF 12 ax (nI k)), .ref h]) ⟨hx, hb, hml, hown, hts⟩ (c_X1_times l dC dI cI cF tr (H).size a_3 ((v1 a_3).1) ((v1 a_3).2) ((-(atF 12 te i)).toInt64) ((atF 12 te (nI k)).toInt64)) (cwV 2 hts gX2_spreadFromWheel_X1_times rfl rfl rfl (by decide +kernel) ⟨Nat.le_of_ble_eq_true rfl, Nat.le_of_ble_eq_true rfl⟩) ⟨cBl, (va_recv hK hPc (ci := iX1) (q0 := 0) rfl rfl), (cPre hPc hK hN)⟩ rfl rfl hl.1 rfl (lv_room (Nat.le_of_ble_eq_true rfl)) dX2_spreadFromWheel_86 ⟨(by show k + 1 ≤ 12; omega), (by show 2 * k + 2 ≤ 24; omega)⟩) hS (fun q _ h => hFc q h) hFc (fun u r_15 t H1 locs ht hvm hw_r_15 hB hz1 hk1 hS => ?_)
                  refine W.widen (k := k + 1) (n := 2 * k + 2) (by omega) (by omega) ?_
                  have hP := keepP hP hk1
                  obtain ⟨hB, hBn⟩ := hB
                  rw [ht] at hB
                  have hGe_r_15 : s.heap.size ≤ r_15 := Nat.le_trans hz0 hBn
                  have hD := pushD (r := r_15) (e := .inr (iX1, [.long (frU (((v1 a_3).1) * ((-(atF 12 te i)).toInt64)) (((v1 a_3).2) * ((atF 12 te (nI k)).toInt64))), .long (frL (((v1 a_3).1) * ((-(atF 12 te i)).toInt64)) (((v1 a_3).2) * ((atF 12 te (nI k)).toInt64)))])) hD hPo hBn (hA _ hGe_r_15)
                  have hfr := freshL hPo hBn
                  have hP := hP.app hB
                  rw [pushE hfr] at hP hD
                  have hP : va_P (dC, dI) vwCl ([(g, .inr (iX2, [.int (nI n), .ref xa, .ref xt, .ref xm, .ref wh, .ref st, .ref xb, .ref xc])), (xa, .inl (cI, 12, .inl (ax))), (xt, .inl (cI, 12, .inl (te))), (xm, .inl (cI, 12, .inl (me))), (h, .inl (cF, 7, .inr (.inr (.inr (.inr (b1))))))] ++ va_pl (LP1 ++ [r_15]) (fe (va_up v1 r_15 (frU (((v1 a_3).1) * ((-(atF 12 te i)).toInt64)) (((v1 a_3).2) * ((atF 12 te (nI k)).toInt64)), frL (((v1 a_3).1) * ((-(atF 12 te i)).toInt64)) (((v1 a_3).2) * ((atF 12 te (nI k)).toInt64)))))) H1 := hP
                  generalize H1 = H at hP hS ⊢
                  have hP : va_P (dC, dI) vwCl ([(g, .inr (iX2, [.int (nI n), .ref xa, .ref xt, .ref xm, .ref wh, .ref st, .ref xb, .ref xc])), (xa, .inl (cI, 12, .inl (ax))), (xt, .inl (cI, 12, .inl (te))), (xm, .inl (cI, 12, .inl (me))), (h, .inl (cF, 7, .inr (.inr (.inr (.inr (b1))))))] ++ va_pl (LP1 ++ [r_15]) (fe (va_up v1 r_15 (frU (((v1 a_3).1) * ((-(atF 12 te i)).toInt64)) (((v1 a_3).2) * ((atF 12 te (nI k)).toInt64)), frL (((v1 a_3).1) * ((-(atF 12 te i)).toInt64)) (((v1 a_3).2) * ((atF 12 te (nI k)).toInt64)))))) H := hP
                  try dsimp only at hw_r_15
                  obtain ⟨kq_16, hkq_17⟩ := va_pl_get (X := [(g, .inr (iX2, [.int (nI n), .ref xa, .ref xt, .ref xm, .ref wh, .ref st, .ref xb, .ref xc])), (xa, .inl (cI, 12, .inl (ax))), (xt, .inl (cI, 12, .inl (te))), (xm, .inl (cI, 12, .inl (me))), (h, .inl (cF, 7, .inr (.inr (.inr (.inr (b1))))))]) (f := fe (va_up v1 r_15 (frU (((v1 a_3).1) * ((-(atF 12 te i)).toInt64)) (((v1 a_3).2) * ((atF 12 te (nI k)).toInt64)), frL (((v1 a_3).1) * ((-(atF 12 te i)).toInt64)) (((v1 a_3).2) * ((atF 12 te (nI k)).toInt64))))) (List.mem_append_right _ (List.mem_singleton.mpr rfl))
                  refine va_astq (D := (dC, dI)) hx hb hK hP hD hS 4 1 kq_16 iX1 rfl rfl hkq_17 rfl (vpin_of (by decide) c_9 c_10) dX2_spreadFromWheel_89 (fun H locs hP hD hS => ?_)
                  have hP : va_P (dC, dI) vwCl ([(g, .inr (iX2, [.int (nI n), .ref xa, .ref xt, .ref xm, .ref wh, .ref st, .ref xb, .ref xc])), (xa, .inl (cI, 12, .inl (ax))), (xt, .inl (cI, 12, .inl (te))), (xm, .inl (cI, 12, .inl (me))), (h, .inl (cF, 7, .inr (.inr (.inr (.inr (va_up b1 (atF 12 ax (nI k)).toNatClampNeg (some r_15)))))))] ++ va_pl (LP1 ++ [r_15]) (fe (va_up v1 r_15 (frU (((v1 a_3).1) * ((-(atF 12 te i)).toInt64)) (((v1 a_3).2) * ((atF 12 te (nI k)).toInt64)), frL (((v1 a_3).1) * ((-(atF 12 te i)).toInt64)) (((v1 a_3).2) * ((atF 12 te (nI k)).toInt64)))))) H := hP
                  have hD : va_D A ([(g, .inr (iX2, [.int (nI n), .ref xa, .ref xt, .ref xm, .ref wh, .ref st, .ref xb, .ref xc])), (xa, .inl (cI, 12, .inl (ax))), (xt, .inl (cI, 12, .inl (te))), (xm, .inl (cI, 12, .inl (me))), (h, .inl (cF, 7, .inr (.inr (.inr (.inr (va_up b1 (atF 12 ax (nI k)).toNatClampNeg (some r_15)))))))] ++ va_pl (LP1 ++ [r_15]) (fe (va_up v1 r_15 (frU (((v1 a_3).1) * ((-(atF 12 te i)).toInt64)) (((v1 a_3).2) * ((atF 12 te (nI k)).toInt64)), frL (((v1 a_3).1) * ((-(atF 12 te i)).toInt64)) (((v1 a_3).2) * ((atF 12 te (nI k)).toInt64)))))) := hD
                  have hkq2 : keepL LP1 (LP1 ++ [r_15]) v1 (va_up v1 r_15 (frU (((v1 a_3).1) * ((-(atF 12 te i)).toInt64)) (((v1 a_3).2) * ((atF 12 te (nI k)).toInt64)), frL (((v1 a_3).1) * ((-(atF 12 te i)).toInt64)) (((v1 a_3).2) * ((atF 12 te (nI k)).toInt64)))) := keepL.push hfr
                  have hkp2 := hkp.tr hkq2
                  have hok2 := (hok.keep hkq2).put (clampLt (by decide) c_9 c_10) (List.mem_append_right _ (List.mem_singleton.mpr rfl) : r_15 ∈ LP1 ++ [r_15])
                  have hs2 : (abR (va_up b1 (atF 12 ax (nI k)).toNatClampNeg (some r_15)) (va_up v1 r_15 (frU (((v1 a_3).1) * ((-(atF 12 te i)).toInt64)) (((v1 a_3).2) * ((atF 12 te (nI k)).toInt64)), frL (((v1 a_3).1) * ((-(atF 12 te i)).toInt64)) (((v1 a_3).2) * ((atF 12 te (nI k)).toInt64)))), (1 : Int32)) = sfL ax te me i (v a_3) (abR b v) (k + 1) := by
                    rw [abR.put, abR.keep hok hkq2, va_up_self, sfL, ← hs, (hkp a_3 (rinF_memA hbk hq_4)).2]
                    simp [sfS, mulF, abR, c_8, c_9, c_10, hq_12]
                  refine lv_iconst (v := 1) hx hb dX2_spreadFromWheel_90 (by decide) ?_
                  refine lv_istore (lv' := [(4, .int 1), (6, .int (atF 12 ax (nI k))), (0, .ref g), (1, .int i), (2, .ref h), (3, .ref a_3), (5, .int (nI k))]) hx hb dX2_spreadFromWheel_91 hl (by decide) rfl (fun ls hl => ?_)
                  refine lv_iinc (v := nI (k + 1)) (lv' := [(5, .int (nI (k + 1))), (4, .int 1), (6, .int (atF 12 ax (nI k))), (0, .ref g), (1, .int i), (2, .ref h), (3, .ref a_3)]) hx hb dX2_spreadFromWheel_93 hl (k := 6) rfl (nI_1 k) (by decide) rfl (fun ls hl => ?_)
                  refine lv_goto (tgt := 22) hx hb dX2_spreadFromWheel_96 (by decide) ?_
                  refine W.widen (k := k + 1) (n := 2 * (k + 1)) (by omega) (by omega) ?_
                  exact ih22 (k + 1) (va_up b1 (atF 12 ax (nI k)).toNatClampNeg (some r_15)) (LP1 ++ [r_15]) (va_up v1 r_15 (frU (((v1 a_3).1) * ((-(atF 12 te i)).toInt64)) (((v1 a_3).2) * ((atF 12 te (nI k)).toInt64)), frL (((v1 a_3).1) * ((-(atF 12 te i)).toInt64)) (((v1 a_3).2) * ((atF 12 te (nI k)).toInt64)))) 1 (by omega) hkl hok2 hkp2 hs2 (Or.inr rfl) _ _ ls hP hD hS (lv_sub hl [3, 4, 5, 6, 1, 0] rfl)
                · refine lv_ifnonnull (tgt := 93) hx hb dX2_spreadFromWheel_65 (by decide) ?_
                  refine lv_iinc (v := nI (k + 1)) (lv' := [(5, .int (nI (k + 1))), (6, .int (atF 12 ax (nI k))), (0, .ref g), (1, .int i), (2, .ref h), (3, .ref a_3), (4, .int gr)]) hx hb dX2_spreadFromWheel_93 hl (k := 6) rfl (nI_1 k) (by decide) rfl (fun ls hl => ?_)
                  refine lv_goto (tgt := 22) hx hb dX2_spreadFromWheel_96 (by decide) ?_
                  refine W.widen (k := k + 1) (n := 2 * (k + 1)) (by omega) (by omega) ?_
                  exact ih22 (k + 1) b1 LP1 v1 gr (by omega) hkl hok hkp (by rw [sfL, ← hs]; simp [sfS, abR, c_8, c_9, c_10, hq_12]) hg _ _ ls hP hD hS (lv_sub hl [2, 3, 4, 5, 6, 0] rfl)
    refine W.widen (k := 0) (n := 2 * 0) (by omega) (by omega) ?_
    exact K22 (n - 0 + 1) 0 b LP v 0 (by omega) (Nat.zero_le _) hbk keepL.rf rfl (Or.inl rfl) _ _ ls hP hD hS (lv_sub hl [3, 4, 5, 2, 1, 0] rfl)

theorem bOK.putN {LP : List Nat} {b : Nat → Option Nat} {j : Nat} (h : bOK LP b) : bOK LP (va_up b j none) := by
  refine ⟨fun k a ha => ?_, fun k hk => ?_⟩
  · by_cases e : k = j
    · subst e
      rw [va_up_self] at ha
      cases ha
    · rw [va_up_ne _ _ e] at ha
      exact h.1 k a ha
  · by_cases e : k = j
    · subst e
      rw [va_up_self]
    · rw [va_up_ne _ _ e]
      exact h.2 k hk
theorem initStep {b : Nat → Option Nat} {i : Int32} {wh k : Nat} {x : Option Nat} (h : ∀ j, j < k → b j = if nI j = i then some wh else none) (hx : x = if nI k = i then some wh else none) : ∀ j, j < k + 1 → va_up b k x j = if nI j = i then some wh else none := by
  intro j hj
  by_cases e : j = k
  · subst e
    rw [va_up_self]
    exact hx
  · rw [va_up_ne _ _ e]
    exact h j (by omega)
theorem initEnd {LP : List Nat} {b : Nat → Option Nat} {i : Int32} {wh : Nat} {v : Nat → Int64 × Int64} (hok : bOK LP b) (h : ∀ j, j < 7 → b j = if nI j = i then some wh else none) : abR b v = r0F i (v wh) := by
  funext j
  unfold abR r0F
  by_cases hj : j < 7
  · rw [h j hj]
    by_cases e : nI j = i
    · simp [e, hj]
    · simp [e, hj]
  · rw [hok.2 j (by omega)]
    simp [hj]
theorem spR_0 (ax te me : Nat → Int32) (n m : Nat) (r : RT) : spR ax te me n m 0 r = r := by
  cases m with
  | zero => rfl
  | succ m => simp [spR]
theorem spR_a {ax te me : Nat → Int32} {n j : Nat} {g : Int32} {r f : RT} (h : spR ax te me n (7 - j) g r = f) (hj : j ≤ 7) (c : (7 : Int32) ≤ nI j) : r = f := by
  have : 7 ≤ j := leK (by decide) (by omega) c
  rw [← h, show 7 - j = 0 by omega]
  rfl
theorem spR_b {ax te me : Nat → Int32} {n j : Nat} {g : Int32} {r f : RT} (h : spR ax te me n (7 - j) g r = f) (c : g = 0) : r = f := by
  rw [← h, c, spR_0]
theorem spR_n {ax te me : Nat → Int32} {n j : Nat} {g : Int32} {r f : RT} (h : spR ax te me n (7 - j) g r = f) (hj : j < 7) (c : ¬ g = 0) : spR ax te me n (7 - (j + 1)) (swL ax te me n r n).2 (swL ax te me n r n).1 = f := by
  rw [← h, show 7 - j = (7 - (j + 1)) + 1 by omega, spR, if_neg c]

set_option maxHeartbeats 4000000 in
set_option maxRecDepth 100000 in
theorem c_X2_spreadRates (l : Launch) (dC : Nat → ClassId) (dI : Nat → Nat → Nat) (cI cF : ClassId) (tr : List (ClassId × FieldType)) (sz : Nat) (g : Nat) (n : Nat) (xa : Nat) (xt : Nat) (xm : Nat) (wh : Nat) (st : Nat) (xb : Nat) (xc : Nat) (ax : Nat → Int32) (te : Nat → Int32) (me : Nat → Int32) (h : Nat) (b : Nat → Option Nat) (LP : List Nat) (v : Nat → Int64 × Int64) (i : Int32) (hbk : bOK LP b) (hn : n ≤ 12) (hwh : wh ∈ LP) : Met l yX2_spreadRates wsX2_spreadRates ({ frames := 4, cells := 1008, slots := 2016, locals := 106 } : Room) (cPd dC dI ((cI, .int) :: (cF, .object RX1) :: tr) sz ([(g, .inr (iX2, [.int (nI n), .ref xa, .ref xt, .ref xm, .ref wh, .ref st, .ref xb, .ref xc])), (xa, .inl (cI, 12, .inl (ax))), (xt, .inl (cI, 12, .inl (te))), (xm, .inl (cI, 12, .inl (me))), (h, .inl (cF, 7, .inr (.inr (.inr (.inr (b))))))] ++ va_pl LP (fe v)) [.ref g, .int i, .ref h]) (va_Qv (fun u : (Nat → Option Nat) × List Nat × (Nat → Int64 × Int64) => bOK u.2.1 u.1 ∧ keepL LP u.2.1 v u.2.2 ∧ abR u.1 u.2.2 = sprF ax te me n i (v wh)) (fun ⟨b1, LP1, v1⟩ t => va_P (dC, dI) vwCl ([(g, .inr (iX2, [.int (nI n), .ref xa, .ref xt, .ref xm, .ref wh, .ref st, .ref xb, .ref xc])), (xa, .inl (cI, 12, .inl (ax))), (xt, .inl (cI, 12, .inl (te))), (xm, .inl (cI, 12, .inl (me))), (h, .inl (cF, 7, .inr (.inr (.inr (.inr (b1))))))] ++ va_pl LP1 (fe v1)) t.heap ∧ va_D (va_A ([(g, .inr (iX2, [.int (nI n), .ref xa, .ref xt, .ref xm, .ref wh, .ref st, .ref xb, .ref xc])), (xa, .inl (cI, 12, .inl (ax))), (xt, .inl (cI, 12, .inl (te))), (xm, .inl (cI, 12, .inl (me))), (h, .inl (cF, 7, .inr (.inr (.inr (.inr (b))))))] ++ va_pl LP (fe v)) sz) ([(g, .inr (iX2, [.int (nI n), .ref xa, .ref xt, .ref xm, .ref wh, .ref st, .ref xb, .ref xc])), (xa, .inl (cI, 12, .inl (ax))), (xt, .inl (cI, 12, .inl (te))), (xm, .inl (cI, 12, .inl (me))), (h, .inl (cF, 7, .inr (.inr (.inr (.inr (b1))))))] ++ va_pl LP1 (fe v1))) (va_A ([(g, .inr (iX2, [.int (nI n), .ref xa, .ref xt, .ref xm, .ref wh, .ref st, .ref xb, .ref xc])), (xa, .inl (cI, 12, .inl (ax))), (xt, .inl (cI, 12, .inl (te))), (xm, .inl (cI, 12, .inl (me))), (h, .inl (cF, 7, .inr (.inr (.inr (.inr (b))))))] ++ va_pl LP (fe v)) sz)) 1008 2016 (va_A ([(g, .inr (iX2, [.int (nI n), .ref xa, .ref xt, .ref xm, .ref wh, .ref st, .ref xb, .ref xc])), (xa, .inl (cI, 12, .inl (ax))), (xt, .inl (cI, 12, .inl (te))), (xm, .inl (cI, 12, .inl (me))), (h, .inl (cF, 7, .inr (.inr (.inr (.inr (b))))))] ++ va_pl LP (fe v)) sz) := by
  refine Met.ofW (cc := cX2_spreadRates) (maxL := 6) (ret := none) (by decide) rfl ?_
  intro p e s m args below meth c s₁ B hml hv
  obtain ⟨rfl, hsz, hP, hK, hN, hD0⟩ := hv
  have hx := B.exec
  have hb := B.bytes
  have hr := B.returns
  have hts := atoms_spec (ws := wsX2_spreadRates) B.pre
  have hown : s.vm.findClass RX2 = some m.cls := findClass_of_methodNamed B.named
  have hlocks := B.notSynchronized
  subst hsz
  have hD := hD0.self (sz := s.heap.size)
  generalize hAe : va_A ([(g, .inr (iX2, [.int (nI n), .ref xa, .ref xt, .ref xm, .ref wh, .ref st, .ref xb, .ref xc])), (xa, .inl (cI, 12, .inl (ax))), (xt, .inl (cI, 12, .inl (te))), (xm, .inl (cI, 12, .inl (me))), (h, .inl (cF, 7, .inr (.inr (.inr (.inr (b))))))] ++ va_pl LP (fe v)) s.heap.size = A at hD ⊢
  have hA : ∀ q : Nat, s.heap.size ≤ q → A q := fun q h => by rw [← hAe]; exact Or.inr h
  have hS : va_S A s.heap s.heap [] := va_S.rf
  have hP : va_P (dC, dI) vwCl ([(g, .inr (iX2, [.int (nI n), .ref xa, .ref xt, .ref xm, .ref wh, .ref st, .ref xb, .ref xc])), (xa, .inl (cI, 12, .inl (ax))), (xt, .inl (cI, 12, .inl (te))), (xm, .inl (cI, 12, .inl (me))), (h, .inl (cF, 7, .inr (.inr (.inr (.inr (b))))))] ++ va_pl LP (fe v)) s.heap := hP
  have hl := lv_entry ([.ref g, .int i, .ref h]) (n := 6) (Nat.le_of_ble_eq_true rfl)
  rw [lg_entry_eq]
  generalize (lg_sl ([.ref g, .int i, .ref h]) ++ List.replicate (6 - (lg_sl ([.ref g, .int i, .ref h])).length) Slot.unset).toArray = ls at hl ⊢
  have hl : lv_has ls 6 [(0, .ref g), (1, .int i), (2, .ref h)] := hl
  have hfl_44 := hts (.fieldLink RX2 44 "Greenwheels$Gearing" "wheels" "I") (by decide +kernel)
  have hin_X2 : ∀ w ∈ u_ws RX2 TX2 8, w ∈ wsX2_spreadRates := by decide +kernel
  have hfl_26 := hts (.fieldLink RX2 26 "Greenwheels$Gearing" "whole" "LGreenwheels$Fraction;") (by decide +kernel)
  refine lv_iconst (v := 0) hx hb dX2_spreadRates_0 (by decide) ?_
  refine lv_istore_n (lv' := [(3, .int 0), (0, .ref g), (1, .int i), (2, .ref h)]) hx hb dX2_spreadRates_1 rfl hl (by decide) rfl (fun ls hl => ?_)
  have K2 : ∀ (NN : Nat), ∀ (k : Nat) (b1 : Nat → Option Nat), (7 - k) < NN → (k ≤ 7) → (bOK LP b1) → (∀ j, j < k → b1 j = if nI j = i then some wh else none) → ∀ (H : Heap) (locs : List Loc) (ls : Array Slot), va_P (dC, dI) vwCl ([(g, .inr (iX2, [.int (nI n), .ref xa, .ref xt, .ref xm, .ref wh, .ref st, .ref xb, .ref xc])), (xa, .inl (cI, 12, .inl (ax))), (xt, .inl (cI, 12, .inl (te))), (xm, .inl (cI, 12, .inl (me))), (h, .inl (cF, 7, .inr (.inr (.inr (.inr (b1))))))] ++ va_pl LP (fe v)) H → va_D A ([(g, .inr (iX2, [.int (nI n), .ref xa, .ref xt, .ref xm, .ref wh, .ref st, .ref xb, .ref xc])), (xa, .inl (cI, 12, .inl (ax))), (xt, .inl (cI, 12, .inl (te))), (xm, .inl (cI, 12, .inl (me))), (h, .inl (cF, 7, .inr (.inr (.inr (.inr (b1))))))] ++ va_pl LP (fe v)) → va_S A s.heap H locs → lv_has ls 6 [(0, .ref g), (1, .int i), (2, .ref h), (3, .int (nI k))] → W p l e (headSpec wsX2_spreadRates ({ frames := 4, cells := 1008, slots := 2016, locals := 106 } : Room)).room s m #[Value.ref g, Value.int i, Value.ref h] below meth c H locs (0) (0) (MQ below (va_Qv (fun u : (Nat → Option Nat) × List Nat × (Nat → Int64 × Int64) => bOK u.2.1 u.1 ∧ keepL LP u.2.1 v u.2.2 ∧ abR u.1 u.2.2 = sprF ax te me n i (v wh)) (fun ⟨b1, LP1, v1⟩ t => va_P (dC, dI) vwCl ([(g, .inr (iX2, [.int (nI n), .ref xa, .ref xt, .ref xm, .ref wh, .ref st, .ref xb, .ref xc])), (xa, .inl (cI, 12, .inl (ax))), (xt, .inl (cI, 12, .inl (te))), (xm, .inl (cI, 12, .inl (me))), (h, .inl (cF, 7, .inr (.inr (.inr (.inr (b1))))))] ++ va_pl LP1 (fe v1)) t.heap ∧ va_D A ([(g, .inr (iX2, [.int (nI n), .ref xa, .ref xt, .ref xm, .ref wh, .ref st, .ref xb, .ref xc])), (xa, .inl (cI, 12, .inl (ax))), (xt, .inl (cI, 12, .inl (te))), (xm, .inl (cI, 12, .inl (me))), (h, .inl (cF, 7, .inr (.inr (.inr (.inr (b1))))))] ++ va_pl LP1 (fe v1))) A) #[Value.ref g, Value.int i, Value.ref h] s 1008 2016 A) (F0 m 2 ls []) := by
    intro NN
    induction NN with
    | zero =>
      intro k b1 hmu hk hok hin H locs ls hP hD hS hl
      exact absurd hmu (Nat.not_lt_zero _)
    | succ NN ih2 =>
      intro k b1 hmu hk hok hin H locs ls hP hD hS hl
      refine lv_iload_n hx hb dX2_spreadRates_2 rfl (lv_at hl 3 rfl) ?_
      refine lv_aload_n hx hb dX2_spreadRates_3 rfl (lv_at hl 2 rfl) ?_
      refine va_alen (D := (dC, dI)) (v := nI 7) hx hb hK hP 4 1 rfl rfl rfl dX2_spreadRates_4 ?_
      refine lv_icmp_ge (tgt := 30) hx hb dX2_spreadRates_5 (by decide) (fun c_1 => ?_) (fun c_1 => ?_)
      · have hke : 7 ≤ k := leK (by omega) (by omega) c_1
        obtain rfl : k = 7 := by omega
        refine lv_iconst (v := 1) hx hb dX2_spreadRates_30 (by decide) ?_
        refine lv_istore_n (lv' := [(3, .int 1), (0, .ref g), (1, .int i), (2, .ref h)]) hx hb dX2_spreadRates_31 rfl hl (by decide) rfl (fun ls hl => ?_)
        refine lv_iconst (v := 0) hx hb dX2_spreadRates_32 (by decide) ?_
        refine lv_istore (lv' := [(4, .int 0), (3, .int 1), (0, .ref g), (1, .int i), (2, .ref h)]) hx hb dX2_spreadRates_33 hl (by decide) rfl (fun ls hl => ?_)
        have K35 : ∀ (NN : Nat), ∀ (j : Nat) (gh : Int32) (b1 : Nat → Option Nat) (LP1 : List Nat) (v1 : Nat → Int64 × Int64), (7 - j) < NN → (j ≤ 7) → (bOK LP1 b1) → (keepL LP LP1 v v1) → (spR ax te me n (7 - j) gh (abR b1 v1) = sprF ax te me n i (v wh)) → ∀ (H : Heap) (locs : List Loc) (ls : Array Slot), va_P (dC, dI) vwCl ([(g, .inr (iX2, [.int (nI n), .ref xa, .ref xt, .ref xm, .ref wh, .ref st, .ref xb, .ref xc])), (xa, .inl (cI, 12, .inl (ax))), (xt, .inl (cI, 12, .inl (te))), (xm, .inl (cI, 12, .inl (me))), (h, .inl (cF, 7, .inr (.inr (.inr (.inr (b1))))))] ++ va_pl LP1 (fe v1)) H → va_D A ([(g, .inr (iX2, [.int (nI n), .ref xa, .ref xt, .ref xm, .ref wh, .ref st, .ref xb, .ref xc])), (xa, .inl (cI, 12, .inl (ax))), (xt, .inl (cI, 12, .inl (te))), (xm, .inl (cI, 12, .inl (me))), (h, .inl (cF, 7, .inr (.inr (.inr (.inr (b1))))))] ++ va_pl LP1 (fe v1)) → va_S A s.heap H locs → lv_has ls 6 [(0, .ref g), (1, .int i), (2, .ref h), (3, .int gh), (4, .int (nI j))] → W p l e (headSpec wsX2_spreadRates ({ frames := 4, cells := 1008, slots := 2016, locals := 106 } : Room)).room s m #[Value.ref g, Value.int i, Value.ref h] below meth c H locs (144 * j) (288 * j) (MQ below (va_Qv (fun u : (Nat → Option Nat) × List Nat × (Nat → Int64 × Int64) => bOK u.2.1 u.1 ∧ keepL LP u.2.1 v u.2.2 ∧ abR u.1 u.2.2 = sprF ax te me n i (v wh)) (fun ⟨b1, LP1, v1⟩ t => va_P (dC, dI) vwCl ([(g, .inr (iX2, [.int (nI n), .ref xa, .ref xt, .ref xm, .ref wh, .ref st, .ref xb, .ref xc])), (xa, .inl (cI, 12, .inl (ax))), (xt, .inl (cI, 12, .inl (te))), (xm, .inl (cI, 12, .inl (me))), (h, .inl (cF, 7, .inr (.inr (.inr (.inr (b1))))))] ++ va_pl LP1 (fe v1)) t.heap ∧ va_D A ([(g, .inr (iX2, [.int (nI n), .ref xa, .ref xt, .ref xm, .ref wh, .ref st, .ref xb, .ref xc])), (xa, .inl (cI, 12, .inl (ax))), (xt, .inl (cI, 12, .inl (te))), (xm, .inl (cI, 12, .inl (me))), (h, .inl (cF, 7, .inr (.inr (.inr (.inr (b1))))))] ++ va_pl LP1 (fe v1))) A) #[Value.ref g, Value.int i, Value.ref h] s 1008 2016 A) (F0 m 35 ls []) := by
          intro NN
          induction NN with
          | zero =>
            intro j gh b1 LP1 v1 hmu hj hok hkp hsp H locs ls hP hD hS hl
            exact absurd hmu (Nat.not_lt_zero _)
          | succ NN ih35 =>
            intro j gh b1 LP1 v1 hmu hj hok hkp hsp H locs ls hP hD hS hl
            refine lv_iload hx hb dX2_spreadRates_35 (lv_at hl 4 rfl) ?_
            refine lv_bipush (v := 7) hx hb dX2_spreadRates_37 (by decide) ?_
            refine lv_icmp_ge (tgt := 93) hx hb dX2_spreadRates_39 (by decide) (fun c_2 => ?_) (fun c_2 => ?_)
            · have hfin : abR b1 v1 = sprF ax te me n i (v wh) := by first | exact spR_b hsp c_2 | exact spR_a hsp hj c_2
              refine W.widen (k := 1008) (n := 2016) (by omega) (by omega) ?_
              exact W.vret hx hb hr (fun t ht hW => ⟨⟨(b1, LP1, v1), rfl, ⟨hok, hkp, hfin⟩, by rw [ht]; exact hP, hAe ▸ hD⟩, hS.F ht⟩) hS.2.2 dX2_spreadRates_93
            · have hjl : j < 7 := ltK (by omega) (by omega) c_2
              refine lv_iload_n hx hb dX2_spreadRates_42 rfl (lv_at hl 3 rfl) ?_
              refine lv_if_eq (tgt := 93) hx hb dX2_spreadRates_43 (by decide) (fun c_3 => ?_) (fun c_3 => ?_)
              · have hfin : abR b1 v1 = sprF ax te me n i (v wh) := by first | exact spR_b hsp c_3 | exact spR_a hsp hj c_3
                refine W.widen (k := 1008) (n := 2016) (by omega) (by omega) ?_
                exact W.vret hx hb hr (fun t ht hW => ⟨⟨(b1, LP1, v1), rfl, ⟨hok, hkp, hfin⟩, by rw [ht]; exact hP, hAe ▸ hD⟩, hS.F ht⟩) hS.2.2 dX2_spreadRates_93
              · refine lv_iconst (v := 0) hx hb dX2_spreadRates_46 (by decide) ?_
                refine lv_istore_n (lv' := [(3, .int 0), (0, .ref g), (1, .int i), (2, .ref h), (4, .int (nI j))]) hx hb dX2_spreadRates_47 rfl hl (by decide) rfl (fun ls hl => ?_)
                refine lv_iconst (v := 0) hx hb dX2_spreadRates_48 (by decide) ?_
                refine lv_istore (lv' := [(5, .int 0), (3, .int 0), (0, .ref g), (1, .int i), (2, .ref h), (4, .int (nI j))]) hx hb dX2_spreadRates_49 hl (by decide) rfl (fun ls hl => ?_)
                have K51 : ∀ (NN : Nat), ∀ (k : Nat) (gi : Int32) (b2 : Nat → Option Nat) (LP2 : List Nat) (v2 : Nat → Int64 × Int64), (n - k) < NN → (k ≤ n) → (bOK LP2 b2) → (keepL LP1 LP2 v1 v2) → ((abR b2 v2, gi) = swL ax te me n (abR b1 v1) k) → ∀ (H : Heap) (locs : List Loc) (ls : Array Slot), va_P (dC, dI) vwCl ([(g, .inr (iX2, [.int (nI n), .ref xa, .ref xt, .ref xm, .ref wh, .ref st, .ref xb, .ref xc])), (xa, .inl (cI, 12, .inl (ax))), (xt, .inl (cI, 12, .inl (te))), (xm, .inl (cI, 12, .inl (me))), (h, .inl (cF, 7, .inr (.inr (.inr (.inr (b2))))))] ++ va_pl LP2 (fe v2)) H → va_D A ([(g, .inr (iX2, [.int (nI n), .ref xa, .ref xt, .ref xm, .ref wh, .ref st, .ref xb, .ref xc])), (xa, .inl (cI, 12, .inl (ax))), (xt, .inl (cI, 12, .inl (te))), (xm, .inl (cI, 12, .inl (me))), (h, .inl (cF, 7, .inr (.inr (.inr (.inr (b2))))))] ++ va_pl LP2 (fe v2)) → va_S A s.heap H locs → lv_has ls 6 [(0, .ref g), (1, .int i), (2, .ref h), (3, .int gi), (4, .int (nI j)), (5, .int (nI k))] → W p l e (headSpec wsX2_spreadRates ({ frames := 4, cells := 1008, slots := 2016, locals := 106 } : Room)).room s m #[Value.ref g, Value.int i, Value.ref h] below meth c H locs (144 * j + 12 * k) (288 * j + 24 * k) (MQ below (va_Qv (fun u : (Nat → Option Nat) × List Nat × (Nat → Int64 × Int64) => bOK u.2.1 u.1 ∧ keepL LP u.2.1 v u.2.2 ∧ abR u.1 u.2.2 = sprF ax te me n i (v wh)) (fun ⟨b1, LP1, v1⟩ t => va_P (dC, dI) vwCl ([(g, .inr (iX2, [.int (nI n), .ref xa, .ref xt, .ref xm, .ref wh, .ref st, .ref xb, .ref xc])), (xa, .inl (cI, 12, .inl (ax))), (xt, .inl (cI, 12, .inl (te))), (xm, .inl (cI, 12, .inl (me))), (h, .inl (cF, 7, .inr (.inr (.inr (.inr (b1))))))] ++ va_pl LP1 (fe v1)) t.heap ∧ va_D A ([(g, .inr (iX2, [.int (nI n), .ref xa, .ref xt, .ref xm, .ref wh, .ref st, .ref xb, .ref xc])), (xa, .inl (cI, 12, .inl (ax))), (xt, .inl (cI, 12, .inl (te))), (xm, .inl (cI, 12, .inl (me))), (h, .inl (cF, 7, .inr (.inr (.inr (.inr (b1))))))] ++ va_pl LP1 (fe v1))) A) #[Value.ref g, Value.int i, Value.ref h] s 1008 2016 A) (F0 m 51 ls []) := by
                  intro NN
                  induction NN with
                  | zero =>
                    intro k gi b2 LP2 v2 hmu hk hok2 hkp2 hs2 H locs ls hP hD hS hl
                    exact absurd hmu (Nat.not_lt_zero _)
                  | succ NN ih51 =>
                    intro k gi b2 LP2 v2 hmu hk hok2 hkp2 hs2 H locs ls hP hD hS hl
                    refine lv_iload hx hb dX2_spreadRates_51 (lv_at hl 5 rfl) ?_
                    refine lv_aload_n hx hb dX2_spreadRates_53 rfl (lv_at hl 0 rfl) ?_
                    refine va_get (D := (dC, dI)) (ci := iX2) (v := .int (nI n)) (C := RX2) (T := TX2) (N := 8) hx hb hts hin_X2 hown hK hP 0 rfl rfl 0 (by decide) hfl_44 (fun _ h9 => h9) rfl dX2_spreadRates_54 ?_
                    refine lv_icmp_ge (tgt := 87) hx hb dX2_spreadRates_57 (by decide) (fun c_4 => ?_) (fun c_4 => ?_)
                    · have hke : n ≤ k := leK (by omega) (by omega) c_4
                      have hkn : k = n := by omega
                      rw [hkn] at hs2
                      refine lv_iinc (v := nI (j + 1)) (lv' := [(4, .int (nI (j + 1))), (0, .ref g), (1, .int i), (2, .ref h), (3, .int gi), (5, .int (nI k))]) hx hb dX2_spreadRates_87 hl (k := 4) rfl (nI_1 j) (by decide) rfl (fun ls hl => ?_)
                      refine lv_goto (tgt := 35) hx hb dX2_spreadRates_90 (by decide) ?_
                      refine W.widen (k := 144 * (j + 1)) (n := 288 * (j + 1)) (by omega) (by omega) ?_
                      exact ih35 (j + 1) gi b2 LP2 v2 (by omega) hjl hok2 (hkp.tr hkp2) (by have h9 := spR_n hsp hjl c_3; rw [← hs2] at h9; exact h9) _ _ ls hP hD hS (lv_sub hl [1, 2, 3, 4, 0] rfl)
                    · have hkl : k < n := ltK (by omega) (by omega) c_4
                      refine lv_aload_n hx hb dX2_spreadRates_60 rfl (lv_at hl 0 rfl) ?_
                      refine lv_iload hx hb dX2_spreadRates_61 (lv_at hl 5 rfl) ?_
                      have hPc : va_P (dC, dI) vwCl ([(g, .inr (iX2, [.int (nI n), .ref xa, .ref xt, .ref xm, .ref wh, .ref st, .ref xb, .ref xc])), (xm, .inl (cI, 12, .inl (me)))]) _ := hP.sub [0, 3] rfl
                      have hFc := frZ hS hA
                      refine va_calli (va_runV (As := [.int (nI k)]) (rest := []) ⟨hx, hb, hml, hown, hts⟩ (c_X2_meshedWith l dC dI cI cF tr (H).size g n xa xt xm wh st xb xc me (nI k)) (cwV 1 hts gX2_spreadRates_X2_meshedWith rfl rfl rfl (by decide +kernel) ⟨Nat.le_of_ble_eq_true rfl, Nat.le_of_ble_eq_true rfl⟩) ⟨cBl, (va_recv hK hPc (ci := iX2) (q0 := 0) rfl rfl), (cPre hPc hK hN)⟩ rfl rfl hl.1 rfl (lv_room (Nat.le_of_ble_eq_true rfl)) dX2_spreadRates_63 ⟨(by show 144 * j + 12 * k + 0 ≤ 1008; omega), (by show 288 * j + 24 * k + 0 ≤ 2016; omega)⟩) hS (fun q _ h => hFc q h) hFc (fun r_5 u t H1 locs ht hvm hw_r_5 hB hz1 hk1 hS => ?_)
                      refine W.widen (k := 144 * j + 12 * k) (n := 288 * j + 24 * k) (Nat.le_refl _) (Nat.le_refl _) ?_
                      have hP := keepP hP hk1
                      generalize H1 = H at hP hS ⊢
                      have hP : va_P (dC, dI) vwCl ([(g, .inr (iX2, [.int (nI n), .ref xa, .ref xt, .ref xm, .ref wh, .ref st, .ref xb, .ref xc])), (xa, .inl (cI, 12, .inl (ax))), (xt, .inl (cI, 12, .inl (te))), (xm, .inl (cI, 12, .inl (me))), (h, .inl (cF, 7, .inr (.inr (.inr (.inr (b2))))))] ++ va_pl LP2 (fe v2)) H := hP
                      try dsimp only at hw_r_5
                      subst hw_r_5
                      refine lv_if_eq (tgt := 81) hx hb dX2_spreadRates_66 (by decide) (fun c_6 => ?_) (fun c_6 => ?_)
                      · refine lv_iinc (v := nI (k + 1)) (lv' := [(5, .int (nI (k + 1))), (0, .ref g), (1, .int i), (2, .ref h), (3, .int gi), (4, .int (nI j))]) hx hb dX2_spreadRates_81 hl (k := 5) rfl (nI_1 k) (by decide) rfl (fun ls hl => ?_)
                        refine lv_goto (tgt := 51) hx hb dX2_spreadRates_84 (by decide) ?_
                        refine W.widen (k := 144 * j + 12 * (k + 1)) (n := 288 * j + 24 * (k + 1)) (by omega) (by omega) ?_
                        exact ih51 (k + 1) gi b2 LP2 v2 (by omega) hkl hok2 hkp2 (by rw [swL, ← hs2]; simp [swS, c_6]) _ _ ls hP hD hS (lv_sub hl [1, 2, 3, 4, 5, 0] rfl)
                      · refine lv_aload_n hx hb dX2_spreadRates_69 rfl (lv_at hl 0 rfl) ?_
                        refine lv_iload hx hb dX2_spreadRates_70 (lv_at hl 5 rfl) ?_
                        refine lv_aload_n hx hb dX2_spreadRates_72 rfl (lv_at hl 2 rfl) ?_
                        have hPc : va_P (dC, dI) vwCl ([(g, .inr (iX2, [.int (nI n), .ref xa, .ref xt, .ref xm, .ref wh, .ref st, .ref xb, .ref xc])), (xa, .inl (cI, 12, .inl (ax))), (xt, .inl (cI, 12, .inl (te))), (xm, .inl (cI, 12, .inl (me))), (h, .inl (cF, 7, .inr (.inr (.inr (.inr (b2))))))] ++ va_pl LP2 (fe v2)) _ := hP.part [0, 1, 2, 3, 4] rfl
                        have hDc : va_D (fun _ => True) ([(g, .inr (iX2, [.int (nI n), .ref xa, .ref xt, .ref xm, .ref wh, .ref st, .ref xb, .ref xc])), (xa, .inl (cI, 12, .inl (ax))), (xt, .inl (cI, 12, .inl (te))), (xm, .inl (cI, 12, .inl (me))), (h, .inl (cF, 7, .inr (.inr (.inr (.inr (b2))))))] ++ va_pl LP2 (fe v2)) := (hD.part (cx := [(g, .inr (iX2, [.int (nI n), .ref xa, .ref xt, .ref xm, .ref wh, .ref st, .ref xb, .ref xc])), (xa, .inl (cI, 12, .inl (ax))), (xt, .inl (cI, 12, .inl (te))), (xm, .inl (cI, 12, .inl (me))), (h, .inl (cF, 7, .inr (.inr (.inr (.inr (b2))))))]) [0, 1, 2, 3, 4] (by decide) rfl).weaken (fun _ _ _ _ => trivial)
                        have hFc := va_freeP (cx := [(g, .inr (iX2, [.int (nI n), .ref xa, .ref xt, .ref xm, .ref wh, .ref st, .ref xb, .ref xc])), (xa, .inl (cI, 12, .inl (ax))), (xt, .inl (cI, 12, .inl (te))), (xm, .inl (cI, 12, .inl (me))), (h, .inl (cF, 7, .inr (.inr (.inr (.inr (b2))))))]) hD hS hA [0, 1, 2, 3, 4] rfl
                        refine va_calli (va_runV (As := [.int (nI k), .ref h]) (rest := []) ⟨hx, hb, hml, hown, hts⟩ (c_X2_spreadFromWheel l dC dI cI cF tr (H).size g n xa xt xm wh st xb xc ax te me h b2 LP2 v2 (nI k) hok2 hn) (cwV 2 hts gX2_spreadRates_X2_spreadFromWheel rfl rfl rfl (by decide +kernel) ⟨Nat.le_of_ble_eq_true rfl, Nat.le_of_ble_eq_true rfl⟩) ⟨cDbl, (va_recv hK hPc (ci := iX2) (q0 := 0) rfl rfl), (cDpre hPc hK hN hDc)⟩ rfl rfl hl.1 rfl (lv_room (Nat.le_of_ble_eq_true rfl)) dX2_spreadRates_73 ⟨(by show 144 * j + 12 * k + 12 ≤ 1008; omega), (by show 288 * j + 24 * k + 24 ≤ 2016; omega)⟩) hS (fun q _ h => hFc q h) hFc (fun r_7 u t H1 locs ht hvm hw_r_7 hB hz1 hk1 hS => ?_)
                        refine W.widen (k := 144 * j + 12 * k + 12) (n := 288 * j + 24 * k + 24) (by omega) (by omega) ?_
                        obtain ⟨hP1, hD1⟩ := hB
                        rw [ht] at hP1
                        obtain ⟨b1_8, LP1_9, v1_10⟩ := u
                        obtain ⟨hP, hD⟩ := va_joinP (wr := []) (rx := [(g, .inr (iX2, [.int (nI n), .ref xa, .ref xt, .ref xm, .ref wh, .ref st, .ref xb, .ref xc])), (xa, .inl (cI, 12, .inl (ax))), (xt, .inl (cI, 12, .inl (te))), (xm, .inl (cI, 12, .inl (me))), (h, .inl (cF, 7, .inr (.inr (.inr (.inr (b1_8))))))]) (pl1 := va_pl LP1_9 (fe v1_10)) hP hD [0, 1, 2, 3, 4] [] rfl rfl (by decide) (by decide) hk1 hFc hP1 hD1
                        have hD := hD.part (cx := [(g, .inr (iX2, [.int (nI n), .ref xa, .ref xt, .ref xm, .ref wh, .ref st, .ref xb, .ref xc])), (xa, .inl (cI, 12, .inl (ax))), (xt, .inl (cI, 12, .inl (te))), (xm, .inl (cI, 12, .inl (me))), (h, .inl (cF, 7, .inr (.inr (.inr (.inr (b1_8))))))]) [0, 1, 2, 3, 4] (by decide) rfl
                        have hP : va_P (dC, dI) vwCl ([(g, .inr (iX2, [.int (nI n), .ref xa, .ref xt, .ref xm, .ref wh, .ref st, .ref xb, .ref xc])), (xa, .inl (cI, 12, .inl (ax))), (xt, .inl (cI, 12, .inl (te))), (xm, .inl (cI, 12, .inl (me))), (h, .inl (cF, 7, .inr (.inr (.inr (.inr (b1_8))))))] ++ va_pl LP1_9 (fe v1_10)) H1 := hP.part [0, 1, 2, 3, 4] rfl
                        generalize H1 = H at hP hS ⊢
                        have hP : va_P (dC, dI) vwCl ([(g, .inr (iX2, [.int (nI n), .ref xa, .ref xt, .ref xm, .ref wh, .ref st, .ref xb, .ref xc])), (xa, .inl (cI, 12, .inl (ax))), (xt, .inl (cI, 12, .inl (te))), (xm, .inl (cI, 12, .inl (me))), (h, .inl (cF, 7, .inr (.inr (.inr (.inr (b1_8))))))] ++ va_pl LP1_9 (fe v1_10)) H := hP
                        have hD : va_D A ([(g, .inr (iX2, [.int (nI n), .ref xa, .ref xt, .ref xm, .ref wh, .ref st, .ref xb, .ref xc])), (xa, .inl (cI, 12, .inl (ax))), (xt, .inl (cI, 12, .inl (te))), (xm, .inl (cI, 12, .inl (me))), (h, .inl (cF, 7, .inr (.inr (.inr (.inr (b1_8))))))] ++ va_pl LP1_9 (fe v1_10)) := hD
                        try dsimp only at hw_r_7
                        obtain ⟨hq1, hq2, hq3, hq4⟩ := hw_r_7
                        refine lv_if_eq (tgt := 81) hx hb dX2_spreadRates_76 (by decide) (fun c_11 => ?_) (fun c_11 => ?_)
                        · refine lv_iinc (v := nI (k + 1)) (lv' := [(5, .int (nI (k + 1))), (0, .ref g), (1, .int i), (2, .ref h), (3, .int gi), (4, .int (nI j))]) hx hb dX2_spreadRates_81 hl (k := 5) rfl (nI_1 k) (by decide) rfl (fun ls hl => ?_)
                          refine lv_goto (tgt := 51) hx hb dX2_spreadRates_84 (by decide) ?_
                          refine W.widen (k := 144 * j + 12 * (k + 1)) (n := 288 * j + 24 * (k + 1)) (by omega) (by omega) ?_
                          exact ih51 (k + 1) gi b1_8 LP1_9 v1_10 (by omega) hkl hq2 (hkp2.tr hq3) (by rw [swL, ← hs2]; simp [swS, c_6, hq4, ← hq1, c_11]) _ _ ls hP hD hS (lv_sub hl [1, 2, 3, 4, 5, 0] rfl)
                        · refine lv_iconst (v := 1) hx hb dX2_spreadRates_79 (by decide) ?_
                          refine lv_istore_n (lv' := [(3, .int 1), (0, .ref g), (1, .int i), (2, .ref h), (4, .int (nI j)), (5, .int (nI k))]) hx hb dX2_spreadRates_80 rfl hl (by decide) rfl (fun ls hl => ?_)
                          refine lv_iinc (v := nI (k + 1)) (lv' := [(5, .int (nI (k + 1))), (3, .int 1), (0, .ref g), (1, .int i), (2, .ref h), (4, .int (nI j))]) hx hb dX2_spreadRates_81 hl (k := 5) rfl (nI_1 k) (by decide) rfl (fun ls hl => ?_)
                          refine lv_goto (tgt := 51) hx hb dX2_spreadRates_84 (by decide) ?_
                          refine W.widen (k := 144 * j + 12 * (k + 1)) (n := 288 * j + 24 * (k + 1)) (by omega) (by omega) ?_
                          exact ih51 (k + 1) 1 b1_8 LP1_9 v1_10 (by omega) hkl hq2 (hkp2.tr hq3) (by rw [swL, ← hs2]; simp [swS, c_6, hq4, ← hq1, c_11]) _ _ ls hP hD hS (lv_sub hl [2, 3, 4, 1, 5, 0] rfl)
                refine W.widen (k := 144 * j + 12 * 0) (n := 288 * j + 24 * 0) (by omega) (by omega) ?_
                exact K51 (n - 0 + 1) 0 0 b1 LP1 v1 (by omega) (Nat.zero_le _) hok keepL.rf rfl _ _ ls hP hD hS (lv_sub hl [2, 3, 4, 1, 5, 0] rfl)
        refine W.widen (k := 144 * 0) (n := 288 * 0) (by omega) (by omega) ?_
        exact K35 (7 - 0 + 1) 0 1 b1 LP v (by omega) (Nat.zero_le _) hok keepL.rf (by rw [initEnd hok hin]; rfl) _ _ ls hP hD hS (lv_sub hl [2, 3, 4, 1, 0] rfl)
      · have hkl : k < 7 := ltK (by omega) (by omega) c_1
        refine lv_aload_n hx hb dX2_spreadRates_8 rfl (lv_at hl 2 rfl) ?_
        refine lv_iload_n hx hb dX2_spreadRates_9 rfl (lv_at hl 3 rfl) ?_
        refine lv_iload_n hx hb dX2_spreadRates_10 rfl (lv_at hl 3 rfl) ?_
        refine lv_iload_n hx hb dX2_spreadRates_11 rfl (lv_at hl 1 rfl) ?_
        refine lv_icmp_ne (tgt := 22) hx hb dX2_spreadRates_12 (by decide) (fun c_12 => ?_) (fun c_12 => ?_)
        · refine lv_null hx hb dX2_spreadRates_22 ?_
          refine va_astqN (D := (dC, dI)) hx hb hK hP hD hS 4 1 rfl rfl (vp_in_nI hkl (by decide)) dX2_spreadRates_23 (fun H locs hP hD hS => ?_)
          rw [show (nI k).toNatClampNeg = k from nI_clamp (by omega)] at hP hD
          have hP : va_P (dC, dI) vwCl ([(g, .inr (iX2, [.int (nI n), .ref xa, .ref xt, .ref xm, .ref wh, .ref st, .ref xb, .ref xc])), (xa, .inl (cI, 12, .inl (ax))), (xt, .inl (cI, 12, .inl (te))), (xm, .inl (cI, 12, .inl (me))), (h, .inl (cF, 7, .inr (.inr (.inr (.inr (va_up b1 k none))))))] ++ va_pl LP (fe v)) H := hP
          have hD : va_D A ([(g, .inr (iX2, [.int (nI n), .ref xa, .ref xt, .ref xm, .ref wh, .ref st, .ref xb, .ref xc])), (xa, .inl (cI, 12, .inl (ax))), (xt, .inl (cI, 12, .inl (te))), (xm, .inl (cI, 12, .inl (me))), (h, .inl (cF, 7, .inr (.inr (.inr (.inr (va_up b1 k none))))))] ++ va_pl LP (fe v)) := hD
          refine lv_iinc (v := nI (k + 1)) (lv' := [(3, .int (nI (k + 1))), (0, .ref g), (1, .int i), (2, .ref h)]) hx hb dX2_spreadRates_24 hl (k := 3) rfl (nI_1 k) (by decide) rfl (fun ls hl => ?_)
          refine lv_goto (tgt := 2) hx hb dX2_spreadRates_27 (by decide) ?_
          refine W.widen (k := 0) (n := 0) (by omega) (by omega) ?_
          exact ih2 (k + 1) (va_up b1 k none) (by omega) hkl hok.putN (initStep hin (by rw [if_neg c_12])) _ _ ls hP hD hS (lv_sub hl [1, 2, 3, 0] rfl)
        · refine lv_aload_n hx hb dX2_spreadRates_15 rfl (lv_at hl 0 rfl) ?_
          refine va_get (D := (dC, dI)) (ci := iX2) (v := .ref wh) (C := RX2) (T := TX2) (N := 8) hx hb hts hin_X2 hown hK hP 0 rfl rfl 4 (by decide) hfl_26 (fun _ h9 => h9) rfl dX2_spreadRates_16 ?_
          refine lv_goto (tgt := 23) hx hb dX2_spreadRates_19 (by decide) ?_
          obtain ⟨kq_13, hkq_14⟩ := va_pl_get (X := [(g, .inr (iX2, [.int (nI n), .ref xa, .ref xt, .ref xm, .ref wh, .ref st, .ref xb, .ref xc])), (xa, .inl (cI, 12, .inl (ax))), (xt, .inl (cI, 12, .inl (te))), (xm, .inl (cI, 12, .inl (me))), (h, .inl (cF, 7, .inr (.inr (.inr (.inr (b1))))))]) (f := fe v) hwh
          refine va_astq (D := (dC, dI)) hx hb hK hP hD hS 4 1 kq_13 iX1 rfl rfl hkq_14 rfl (vp_in_nI hkl (by decide)) dX2_spreadRates_23 (fun H locs hP hD hS => ?_)
          rw [show (nI k).toNatClampNeg = k from nI_clamp (by omega)] at hP hD
          have hP : va_P (dC, dI) vwCl ([(g, .inr (iX2, [.int (nI n), .ref xa, .ref xt, .ref xm, .ref wh, .ref st, .ref xb, .ref xc])), (xa, .inl (cI, 12, .inl (ax))), (xt, .inl (cI, 12, .inl (te))), (xm, .inl (cI, 12, .inl (me))), (h, .inl (cF, 7, .inr (.inr (.inr (.inr (va_up b1 k (some wh)))))))] ++ va_pl LP (fe v)) H := hP
          have hD : va_D A ([(g, .inr (iX2, [.int (nI n), .ref xa, .ref xt, .ref xm, .ref wh, .ref st, .ref xb, .ref xc])), (xa, .inl (cI, 12, .inl (ax))), (xt, .inl (cI, 12, .inl (te))), (xm, .inl (cI, 12, .inl (me))), (h, .inl (cF, 7, .inr (.inr (.inr (.inr (va_up b1 k (some wh)))))))] ++ va_pl LP (fe v)) := hD
          refine lv_iinc (v := nI (k + 1)) (lv' := [(3, .int (nI (k + 1))), (0, .ref g), (1, .int i), (2, .ref h)]) hx hb dX2_spreadRates_24 hl (k := 3) rfl (nI_1 k) (by decide) rfl (fun ls hl => ?_)
          refine lv_goto (tgt := 2) hx hb dX2_spreadRates_27 (by decide) ?_
          refine W.widen (k := 0) (n := 0) (by omega) (by omega) ?_
          exact ih2 (k + 1) (va_up b1 k (some wh)) (by omega) hkl (hok.put hkl hwh) (initStep hin (by rw [if_pos c_12])) _ _ ls hP hD hS (lv_sub hl [1, 2, 3, 0] rfl)
  refine W.widen (k := 0) (n := 0) (by omega) (by omega) ?_
  exact K2 (7 - 0 + 1) 0 b (by omega) (Nat.zero_le _) hbk (fun j hj => absurd hj (Nat.not_lt_zero j)) _ _ ls hP hD hS (lv_sub hl [1, 2, 3, 0] rfl)
end
section
/-! the gearing: what changes it -/
def jn1 (me : Nat → Int32) (i j : Int32) : Nat → Int32 := putF 12 me i (atF 12 me i ||| 1 <<< (j &&& 31))
def jnF (me : Nat → Int32) (i j : Int32) : Nat → Int32 := jn1 (jn1 me i j) j i
def se1 (me : Nat → Int32) (i j : Int32) : Nat → Int32 := putF 12 me i (atF 12 me i &&& (1 <<< (j &&& 31) ^^^ (-1)))
def seF (me : Nat → Int32) (i j : Int32) : Nat → Int32 := se1 (se1 me i j) j i
def wjF (ax te me : Nat → Int32) (n : Nat) (w : Int64 × Int64) (i j : Int32) : Int32 := (rinR (sprF ax te me n (atF 12 ax i) w) (atF 12 ax j)).elim 0 (fun p => if p.1 = frU (-atF 12 te i).toInt64 (atF 12 te j).toInt64 ∧ p.2 = frL (-atF 12 te i).toInt64 (atF 12 te j).toInt64 then 0 else 1)

set_option maxHeartbeats 4000000 in
set_option maxRecDepth 100000 in
theorem c_X2_addWheel (l : Launch) (dC : Nat → ClassId) (dI : Nat → Nat → Nat) (cI cF : ClassId) (tr : List (ClassId × FieldType)) (sz : Nat) (g : Nat) (n : Nat) (xa : Nat) (xt : Nat) (xm : Nat) (wh : Nat) (st : Nat) (xb : Nat) (xc : Nat) (ax : Nat → Int32) (te : Nat → Int32) (i : Int32) (j : Int32) : Met l yX2_addWheel wsX2_addWheel ({ frames := 1, cells := 0, slots := 0, locals := 22 } : Room) (cPd dC dI ((cI, .int) :: (cF, .object RX1) :: tr) sz ([(g, .inr (iX2, [.int (nI n), .ref xa, .ref xt, .ref xm, .ref wh, .ref st, .ref xb, .ref xc])), (xa, .inl (cI, 12, .inl (ax))), (xt, .inl (cI, 12, .inl (te)))]) [.ref g, .int i, .int j]) (va_Qi (fun (r : Int32) (_ : Unit) => r = nI n) (fun _ t => va_P (dC, dI) vwCl ([(g, .inr (iX2, [.int (nI (n + 1)), .ref xa, .ref xt, .ref xm, .ref wh, .ref st, .ref xb, .ref xc])), (xa, .inl (cI, 12, .inl (putF 12 ax (nI n) i))), (xt, .inl (cI, 12, .inl (putF 12 te (nI n) j)))]) t.heap ∧ va_D (va_A ([(g, .inr (iX2, [.int (nI n), .ref xa, .ref xt, .ref xm, .ref wh, .ref st, .ref xb, .ref xc])), (xa, .inl (cI, 12, .inl (ax))), (xt, .inl (cI, 12, .inl (te)))]) sz) ([(g, .inr (iX2, [.int (nI (n + 1)), .ref xa, .ref xt, .ref xm, .ref wh, .ref st, .ref xb, .ref xc])), (xa, .inl (cI, 12, .inl (putF 12 ax (nI n) i))), (xt, .inl (cI, 12, .inl (putF 12 te (nI n) j)))])) (va_A ([(g, .inr (iX2, [.int (nI n), .ref xa, .ref xt, .ref xm, .ref wh, .ref st, .ref xb, .ref xc])), (xa, .inl (cI, 12, .inl (ax))), (xt, .inl (cI, 12, .inl (te)))]) sz)) 0 0 (va_A ([(g, .inr (iX2, [.int (nI n), .ref xa, .ref xt, .ref xm, .ref wh, .ref st, .ref xb, .ref xc])), (xa, .inl (cI, 12, .inl (ax))), (xt, .inl (cI, 12, .inl (te)))]) sz) := by
  refine Met.ofW (cc := cX2_addWheel) (maxL := 4) (ret := (some .int)) (by decide) rfl ?_
  intro p e s m args below meth c s₁ B hml hv
  obtain ⟨rfl, hsz, hP, hK, hN, hD0⟩ := hv
  have hx := B.exec
  have hb := B.bytes
  have hr := B.returns
  have hts := atoms_spec (ws := wsX2_addWheel) B.pre
  have hown : s.vm.findClass RX2 = some m.cls := findClass_of_methodNamed B.named
  have hlocks := B.notSynchronized
  subst hsz
  have hD := hD0.self (sz := s.heap.size)
  generalize hAe : va_A ([(g, .inr (iX2, [.int (nI n), .ref xa, .ref xt, .ref xm, .ref wh, .ref st, .ref xb, .ref xc])), (xa, .inl (cI, 12, .inl (ax))), (xt, .inl (cI, 12, .inl (te)))]) s.heap.size = A at hD ⊢
  have hA : ∀ q : Nat, s.heap.size ≤ q → A q := fun q h => by rw [← hAe]; exact Or.inr h
  have hS : va_S A s.heap s.heap [] := va_S.rf
  have hP : va_P (dC, dI) vwCl ([(g, .inr (iX2, [.int (nI n), .ref xa, .ref xt, .ref xm, .ref wh, .ref st, .ref xb, .ref xc])), (xa, .inl (cI, 12, .inl (ax))), (xt, .inl (cI, 12, .inl (te)))]) s.heap := hP
  have hl := lv_entry ([.ref g, .int i, .int j]) (n := 4) (Nat.le_of_ble_eq_true rfl)
  rw [lg_entry_eq]
  generalize (lg_sl ([.ref g, .int i, .int j]) ++ List.replicate (4 - (lg_sl ([.ref g, .int i, .int j])).length) Slot.unset).toArray = ls at hl ⊢
  have hl : lv_has ls 4 [(0, .ref g), (1, .int i), (2, .int j)] := hl
  have hfl_44 := hts (.fieldLink RX2 44 "Greenwheels$Gearing" "wheels" "I") (by decide +kernel)
  have hin_X2 : ∀ w ∈ u_ws RX2 TX2 8, w ∈ wsX2_addWheel := by decide +kernel
  have hfl_9 := hts (.fieldLink RX2 9 "Greenwheels$Gearing" "axles" "[I") (by decide +kernel)
  have hw_iniX5 := hts (.initialized RX5) (by decide +kernel)
  have hw_staX5_put := hts (.static yX5_put) (by decide +kernel)
  have hfl_15 := hts (.fieldLink RX2 15 "Greenwheels$Gearing" "teeth" "[I") (by decide +kernel)
  refine lv_aload_n hx hb dX2_addWheel_0 rfl (lv_at hl 0 rfl) ?_
  refine va_get (D := (dC, dI)) (ci := iX2) (v := .int (nI n)) (C := RX2) (T := TX2) (N := 8) hx hb hts hin_X2 hown hK hP 0 rfl rfl 0 (by decide) hfl_44 (fun _ h9 => h9) rfl dX2_addWheel_1 ?_
  refine lv_istore_n (lv' := [(3, .int (nI n)), (0, .ref g), (1, .int i), (2, .int j)]) hx hb dX2_addWheel_4 rfl hl (by decide) rfl (fun ls hl => ?_)
  refine lv_aload_n hx hb dX2_addWheel_5 rfl (lv_at hl 1 rfl) ?_
  refine va_get (D := (dC, dI)) (ci := iX2) (v := .ref xa) (C := RX2) (T := TX2) (N := 8) hx hb hts hin_X2 hown hK hP 0 rfl rfl 1 (by decide) hfl_9 (fun _ h9 => h9) rfl dX2_addWheel_6 ?_
  refine lv_iload_n hx hb dX2_addWheel_9 rfl (lv_at hl 0 rfl) ?_
  refine lv_iload_n hx hb dX2_addWheel_10 rfl (lv_at hl 2 rfl) ?_
  have hPc : va_P (dC, dI) vwCl ([(xa, .inl (cI, 12, .inl (ax)))]) _ := hP.sub [1] rfl
  have hDc : va_D (fun _ => True) ([(xa, .inl (cI, 12, .inl (ax)))]) := (hD.sub (ws' := [(xa, .inl (cI, 12, .inl (ax)))]) [1] (by decide) rfl).weaken (fun _ _ _ _ => trivial)
  have hFc := va_free (wc := [(xa, .inl (cI, 12, .inl (ax)))]) hD hS hA [1] rfl
  refine va_callv (va_runSN (host := RX5) (As := [.ref xa, .int (nI n), .int i]) (rest := []) ⟨hx, hb, hml, hown, hts⟩ (c_X5_put l dC dI cI cF tr (s.heap).size xa 12 ax (nI n) i (by decide)) ⟨va_cnB 3 hts gX2_addWheel_X5_put_n48 rfl rfl rfl (nwAt hN (RX2, 48, yX5_put) (by decide +kernel)) hw_iniX5 (by decide +kernel) ⟨Nat.le_of_ble_eq_true rfl, Nat.le_of_ble_eq_true rfl⟩, hw_staX5_put, trivial⟩ ⟨cDbl, (cDpre hPc hK hN hDc)⟩ rfl rfl hl.1 rfl (lv_room (Nat.le_of_ble_eq_true rfl)) dX2_addWheel_11 ⟨(Nat.le_of_ble_eq_true rfl), (Nat.le_of_ble_eq_true rfl)⟩) hS (fun q _ h => hFc q h) hFc (fun u t H1 locs ht hvm hw_r_1 hB hz1 hk1 hS => ?_)
  refine W.widen (k := 0) (n := 0) (Nat.le_refl _) (Nat.le_refl _) ?_
  obtain ⟨hP1, hD1⟩ := hB
  rw [ht] at hP1
  obtain ⟨hP, hD⟩ := va_join (wr := [(g, .inr (iX2, [.int (nI n), .ref xa, .ref xt, .ref xm, .ref wh, .ref st, .ref xb, .ref xc])), (xt, .inl (cI, 12, .inl (te)))]) (w1 := [(xa, .inl (cI, 12, .inl (putF 12 ax (nI n) i)))]) hP hD [1] [0, 2] rfl rfl (by decide) (by decide) hk1 hFc hP1 hD1
  have hD := hD.sub (ws' := [(g, .inr (iX2, [.int (nI n), .ref xa, .ref xt, .ref xm, .ref wh, .ref st, .ref xb, .ref xc])), (xa, .inl (cI, 12, .inl (putF 12 ax (nI n) i))), (xt, .inl (cI, 12, .inl (te)))]) [0, 2, 1] (by decide) rfl
  have hP : va_P (dC, dI) vwCl ([(g, .inr (iX2, [.int (nI n), .ref xa, .ref xt, .ref xm, .ref wh, .ref st, .ref xb, .ref xc])), (xa, .inl (cI, 12, .inl (putF 12 ax (nI n) i))), (xt, .inl (cI, 12, .inl (te)))]) H1 := hP.sub [0, 2, 1] rfl
  generalize H1 = H at hP hS ⊢
  have hP : va_P (dC, dI) vwCl ([(g, .inr (iX2, [.int (nI n), .ref xa, .ref xt, .ref xm, .ref wh, .ref st, .ref xb, .ref xc])), (xa, .inl (cI, 12, .inl (putF 12 ax (nI n) i))), (xt, .inl (cI, 12, .inl (te)))]) H := hP
  have hD : va_D A ([(g, .inr (iX2, [.int (nI n), .ref xa, .ref xt, .ref xm, .ref wh, .ref st, .ref xb, .ref xc])), (xa, .inl (cI, 12, .inl (putF 12 ax (nI n) i))), (xt, .inl (cI, 12, .inl (te)))]) := hD
  try dsimp only at hw_r_1
  refine lv_aload_n hx hb dX2_addWheel_14 rfl (lv_at hl 1 rfl) ?_
  refine va_get (D := (dC, dI)) (ci := iX2) (v := .ref xt) (C := RX2) (T := TX2) (N := 8) hx hb hts hin_X2 hown hK hP 0 rfl rfl 2 (by decide) hfl_15 (fun _ h9 => h9) rfl dX2_addWheel_15 ?_
  refine lv_iload_n hx hb dX2_addWheel_18 rfl (lv_at hl 0 rfl) ?_
  refine lv_iload_n hx hb dX2_addWheel_19 rfl (lv_at hl 3 rfl) ?_
  have hPc : va_P (dC, dI) vwCl ([(xt, .inl (cI, 12, .inl (te)))]) _ := hP.sub [2] rfl
  have hDc : va_D (fun _ => True) ([(xt, .inl (cI, 12, .inl (te)))]) := (hD.sub (ws' := [(xt, .inl (cI, 12, .inl (te)))]) [2] (by decide) rfl).weaken (fun _ _ _ _ => trivial)
  have hFc := va_free (wc := [(xt, .inl (cI, 12, .inl (te)))]) hD hS hA [2] rfl
  refine va_callv (va_runSN (host := RX5) (As := [.ref xt, .int (nI n), .int j]) (rest := []) ⟨hx, hb, hml, hown, hts⟩ (c_X5_put l dC dI cI cF tr (H).size xt 12 te (nI n) j (by decide)) ⟨va_cnB 3 hts gX2_addWheel_X5_put_n48 rfl rfl rfl (nwAt hN (RX2, 48, yX5_put) (by decide +kernel)) hw_iniX5 (by decide +kernel) ⟨Nat.le_of_ble_eq_true rfl, Nat.le_of_ble_eq_true rfl⟩, hw_staX5_put, trivial⟩ ⟨cDbl, (cDpre hPc hK hN hDc)⟩ rfl rfl hl.1 rfl (lv_room (Nat.le_of_ble_eq_true rfl)) dX2_addWheel_20 ⟨(Nat.le_of_ble_eq_true rfl), (Nat.le_of_ble_eq_true rfl)⟩) hS (fun q _ h => hFc q h) hFc (fun u t H1 locs ht hvm hw_r_2 hB hz1 hk1 hS => ?_)
  refine W.widen (k := 0) (n := 0) (Nat.le_refl _) (Nat.le_refl _) ?_
  obtain ⟨hP1, hD1⟩ := hB
  rw [ht] at hP1
  obtain ⟨hP, hD⟩ := va_join (wr := [(g, .inr (iX2, [.int (nI n), .ref xa, .ref xt, .ref xm, .ref wh, .ref st, .ref xb, .ref xc])), (xa, .inl (cI, 12, .inl (putF 12 ax (nI n) i)))]) (w1 := [(xt, .inl (cI, 12, .inl (putF 12 te (nI n) j)))]) hP hD [2] [0, 1] rfl rfl (by decide) (by decide) hk1 hFc hP1 hD1
  have hD := hD.sub (ws' := [(g, .inr (iX2, [.int (nI n), .ref xa, .ref xt, .ref xm, .ref wh, .ref st, .ref xb, .ref xc])), (xa, .inl (cI, 12, .inl (putF 12 ax (nI n) i))), (xt, .inl (cI, 12, .inl (putF 12 te (nI n) j)))]) [0, 1, 2] (by decide) rfl
  have hP : va_P (dC, dI) vwCl ([(g, .inr (iX2, [.int (nI n), .ref xa, .ref xt, .ref xm, .ref wh, .ref st, .ref xb, .ref xc])), (xa, .inl (cI, 12, .inl (putF 12 ax (nI n) i))), (xt, .inl (cI, 12, .inl (putF 12 te (nI n) j)))]) H1 := hP.sub [0, 1, 2] rfl
  generalize H1 = H at hP hS ⊢
  have hP : va_P (dC, dI) vwCl ([(g, .inr (iX2, [.int (nI n), .ref xa, .ref xt, .ref xm, .ref wh, .ref st, .ref xb, .ref xc])), (xa, .inl (cI, 12, .inl (putF 12 ax (nI n) i))), (xt, .inl (cI, 12, .inl (putF 12 te (nI n) j)))]) H := hP
  have hD : va_D A ([(g, .inr (iX2, [.int (nI n), .ref xa, .ref xt, .ref xm, .ref wh, .ref st, .ref xb, .ref xc])), (xa, .inl (cI, 12, .inl (putF 12 ax (nI n) i))), (xt, .inl (cI, 12, .inl (putF 12 te (nI n) j)))]) := hD
  try dsimp only at hw_r_2
  refine lv_aload_n hx hb dX2_addWheel_23 rfl (lv_at hl 1 rfl) ?_
  refine lv_dup hx hb dX2_addWheel_24 rfl ?_
  refine va_get (D := (dC, dI)) (ci := iX2) (v := .int (nI n)) (C := RX2) (T := TX2) (N := 8) hx hb hts hin_X2 hown hK hP 0 rfl rfl 0 (by decide) hfl_44 (fun _ h9 => h9) rfl dX2_addWheel_25 ?_
  refine lv_iconst (v := 1) hx hb dX2_addWheel_28 (by decide) ?_
  refine lv_iadd hx hb dX2_addWheel_29 ?_
  refine va_put (D := (dC, dI)) (ci := iX2) (v := .int ((nI n) + 1)) (ty := .int) (C := RX2) (T := TX2) (N := 8) hx hb hts hin_X2 tyX2 tyX2_ok nmX2 hown hK hP hD hS 0 rfl rfl 0 (by decide) hfl_44 (fun _ h9 => h9) rfl (by decide +kernel) rfl rfl (Nat.le_of_ble_eq_true rfl) dX2_addWheel_30 (fun H locs hP hD hS => ?_)
  have hP : va_P (dC, dI) vwCl ([(g, .inr (iX2, [.int ((nI n) + 1), .ref xa, .ref xt, .ref xm, .ref wh, .ref st, .ref xb, .ref xc])), (xa, .inl (cI, 12, .inl (putF 12 ax (nI n) i))), (xt, .inl (cI, 12, .inl (putF 12 te (nI n) j)))]) H := hP
  have hD : va_D A ([(g, .inr (iX2, [.int ((nI n) + 1), .ref xa, .ref xt, .ref xm, .ref wh, .ref st, .ref xb, .ref xc])), (xa, .inl (cI, 12, .inl (putF 12 ax (nI n) i))), (xt, .inl (cI, 12, .inl (putF 12 te (nI n) j)))]) := hD
  refine lv_iload_n hx hb dX2_addWheel_33 rfl (lv_at hl 0 rfl) ?_
  refine W.widen (k := 0) (n := 0) (by omega) (by omega) ?_
  have eq_3 : ([(g, .inr (iX2, [.int ((nI n) + 1), .ref xa, .ref xt, .ref xm, .ref wh, .ref st, .ref xb, .ref xc])), (xa, .inl (cI, 12, .inl (putF 12 ax (nI n) i))), (xt, .inl (cI, 12, .inl (putF 12 te (nI n) j)))] : va_W) = [(g, .inr (iX2, [.int (nI (n + 1)), .ref xa, .ref xt, .ref xm, .ref wh, .ref st, .ref xb, .ref xc])), (xa, .inl (cI, 12, .inl (putF 12 ax (nI n) i))), (xt, .inl (cI, 12, .inl (putF 12 te (nI n) j)))] := (by rw [nI_1])
  rw [eq_3] at hP hD
  exact W.iret (v := nI n) hx hb hr (fun t ht hW => ⟨⟨nI n, (), rfl, rfl, by rw [ht]; exact hP, hAe ▸ hD⟩, hS.F ht⟩) hS.2.2 dX2_addWheel_34

set_option maxHeartbeats 4000000 in
set_option maxRecDepth 100000 in
theorem c_X2_join (l : Launch) (dC : Nat → ClassId) (dI : Nat → Nat → Nat) (cI cF : ClassId) (tr : List (ClassId × FieldType)) (sz : Nat) (g : Nat) (n : Nat) (xa : Nat) (xt : Nat) (xm : Nat) (wh : Nat) (st : Nat) (xb : Nat) (xc : Nat) (ax : Nat → Int32) (te : Nat → Int32) (me : Nat → Int32) (bc : Nat → Option Nat) (LP : List Nat) (v : Nat → Int64 × Int64) (i : Int32) (j : Int32) (hbk : bOK LP bc) (hn : n ≤ 12) (hwh : wh ∈ LP) : Met l yX2_join wsX2_join ({ frames := 5, cells := 1008, slots := 2016, locals := 131 } : Room) (cPd dC dI ((cI, .int) :: (cF, .object RX1) :: tr) sz ([(g, .inr (iX2, [.int (nI n), .ref xa, .ref xt, .ref xm, .ref wh, .ref st, .ref xb, .ref xc])), (xa, .inl (cI, 12, .inl (ax))), (xt, .inl (cI, 12, .inl (te))), (xm, .inl (cI, 12, .inl (me))), (xb, .inl (cF, 7, .inr (.inr (.inr (.inr (bc))))))] ++ va_pl LP (fe v)) [.ref g, .int i, .int j]) (va_Qv (fun u : (Nat → Option Nat) × List Nat × (Nat → Int64 × Int64) => bOK u.2.1 u.1 ∧ keepL LP u.2.1 v u.2.2 ∧ abR u.1 u.2.2 = sprF ax te (jnF me i j) n 0 (v wh)) (fun ⟨b1, LP1, v1⟩ t => va_P (dC, dI) vwCl ([(g, .inr (iX2, [.int (nI n), .ref xa, .ref xt, .ref xm, .ref wh, .ref st, .ref xb, .ref xc])), (xa, .inl (cI, 12, .inl (ax))), (xt, .inl (cI, 12, .inl (te))), (xm, .inl (cI, 12, .inl (jnF me i j))), (xb, .inl (cF, 7, .inr (.inr (.inr (.inr (b1))))))] ++ va_pl LP1 (fe v1)) t.heap ∧ va_D (va_A ([(g, .inr (iX2, [.int (nI n), .ref xa, .ref xt, .ref xm, .ref wh, .ref st, .ref xb, .ref xc])), (xa, .inl (cI, 12, .inl (ax))), (xt, .inl (cI, 12, .inl (te))), (xm, .inl (cI, 12, .inl (me))), (xb, .inl (cF, 7, .inr (.inr (.inr (.inr (bc))))))] ++ va_pl LP (fe v)) sz) ([(g, .inr (iX2, [.int (nI n), .ref xa, .ref xt, .ref xm, .ref wh, .ref st, .ref xb, .ref xc])), (xa, .inl (cI, 12, .inl (ax))), (xt, .inl (cI, 12, .inl (te))), (xm, .inl (cI, 12, .inl (jnF me i j))), (xb, .inl (cF, 7, .inr (.inr (.inr (.inr (b1))))))] ++ va_pl LP1 (fe v1))) (va_A ([(g, .inr (iX2, [.int (nI n), .ref xa, .ref xt, .ref xm, .ref wh, .ref st, .ref xb, .ref xc])), (xa, .inl (cI, 12, .inl (ax))), (xt, .inl (cI, 12, .inl (te))), (xm, .inl (cI, 12, .inl (me))), (xb, .inl (cF, 7, .inr (.inr (.inr (.inr (bc))))))] ++ va_pl LP (fe v)) sz)) 1008 2016 (va_A ([(g, .inr (iX2, [.int (nI n), .ref xa, .ref xt, .ref xm, .ref wh, .ref st, .ref xb, .ref xc])), (xa, .inl (cI, 12, .inl (ax))), (xt, .inl (cI, 12, .inl (te))), (xm, .inl (cI, 12, .inl (me))), (xb, .inl (cF, 7, .inr (.inr (.inr (.inr (bc))))))] ++ va_pl LP (fe v)) sz) := by
  refine Met.ofW (cc := cX2_join) (maxL := 3) (ret := none) (by decide) rfl ?_
  intro p e s m args below meth c s₁ B hml hv
  obtain ⟨rfl, hsz, hP, hK, hN, hD0⟩ := hv
  have hx := B.exec
  have hb := B.bytes
  have hr := B.returns
  have hts := atoms_spec (ws := wsX2_join) B.pre
  have hown : s.vm.findClass RX2 = some m.cls := findClass_of_methodNamed B.named
  have hlocks := B.notSynchronized
  subst hsz
  have hD := hD0.self (sz := s.heap.size)
  generalize hAe : va_A ([(g, .inr (iX2, [.int (nI n), .ref xa, .ref xt, .ref xm, .ref wh, .ref st, .ref xb, .ref xc])), (xa, .inl (cI, 12, .inl (ax))), (xt, .inl (cI, 12, .inl (te))), (xm, .inl (cI, 12, .inl (me))), (xb, .inl (cF, 7, .inr (.inr (.inr (.inr (bc))))))] ++ va_pl LP (fe v)) s.heap.size = A at hD ⊢
  have hA : ∀ q : Nat, s.heap.size ≤ q → A q := fun q h => by rw [← hAe]; exact Or.inr h
  have hS : va_S A s.heap s.heap [] := va_S.rf
  have hP : va_P (dC, dI) vwCl ([(g, .inr (iX2, [.int (nI n), .ref xa, .ref xt, .ref xm, .ref wh, .ref st, .ref xb, .ref xc])), (xa, .inl (cI, 12, .inl (ax))), (xt, .inl (cI, 12, .inl (te))), (xm, .inl (cI, 12, .inl (me))), (xb, .inl (cF, 7, .inr (.inr (.inr (.inr (bc))))))] ++ va_pl LP (fe v)) s.heap := hP
  have hl := lv_entry ([.ref g, .int i, .int j]) (n := 3) (Nat.le_of_ble_eq_true rfl)
  rw [lg_entry_eq]
  generalize (lg_sl ([.ref g, .int i, .int j]) ++ List.replicate (3 - (lg_sl ([.ref g, .int i, .int j])).length) Slot.unset).toArray = ls at hl ⊢
  have hl : lv_has ls 3 [(0, .ref g), (1, .int i), (2, .int j)] := hl
  have hfl_18 := hts (.fieldLink RX2 18 "Greenwheels$Gearing" "meshSets" "[I") (by decide +kernel)
  have hin_X2 : ∀ w ∈ u_ws RX2 TX2 8, w ∈ wsX2_join := by decide +kernel
  have hw_iniX5 := hts (.initialized RX5) (by decide +kernel)
  have hw_staX5_put := hts (.static yX5_put) (by decide +kernel)
  have hfl_33 := hts (.fieldLink RX2 33 "Greenwheels$Gearing" "byCrank" "[LGreenwheels$Fraction;") (by decide +kernel)
  refine lv_aload_n hx hb dX2_join_0 rfl (lv_at hl 0 rfl) ?_
  refine va_get (D := (dC, dI)) (ci := iX2) (v := .ref xm) (C := RX2) (T := TX2) (N := 8) hx hb hts hin_X2 hown hK hP 0 rfl rfl 3 (by decide) hfl_18 (fun _ h9 => h9) rfl dX2_join_1 ?_
  refine lv_iload_n hx hb dX2_join_4 rfl (lv_at hl 1 rfl) ?_
  refine lv_aload_n hx hb dX2_join_5 rfl (lv_at hl 0 rfl) ?_
  refine lv_iload_n hx hb dX2_join_6 rfl (lv_at hl 1 rfl) ?_
  have hPc : va_P (dC, dI) vwCl ([(g, .inr (iX2, [.int (nI n), .ref xa, .ref xt, .ref xm, .ref wh, .ref st, .ref xb, .ref xc])), (xm, .inl (cI, 12, .inl (me)))]) _ := hP.sub [0, 3] rfl
  have hFc := frZ hS hA
  refine va_calli (va_runV (As := [.int i]) (rest := [.int i, .ref xm]) ⟨hx, hb, hml, hown, hts⟩ (c_X2_meshedWith l dC dI cI cF tr (s.heap).size g n xa xt xm wh st xb xc me i) (cwV 1 hts gX2_join_X2_meshedWith rfl rfl rfl (by decide +kernel) ⟨Nat.le_of_ble_eq_true rfl, Nat.le_of_ble_eq_true rfl⟩) ⟨cBl, (va_recv hK hPc (ci := iX2) (q0 := 0) rfl rfl), (cPre hPc hK hN)⟩ rfl rfl hl.1 rfl (lv_room (Nat.le_of_ble_eq_true rfl)) dX2_join_7 ⟨(Nat.le_of_ble_eq_true rfl), (Nat.le_of_ble_eq_true rfl)⟩) hS (fun q _ h => hFc q h) hFc (fun r_1 u t H1 locs ht hvm hw_r_1 hB hz1 hk1 hS => ?_)
  refine W.widen (k := 0) (n := 0) (Nat.le_refl _) (Nat.le_refl _) ?_
  have hP := keepP hP hk1
  generalize H1 = H at hP hS ⊢
  have hP : va_P (dC, dI) vwCl ([(g, .inr (iX2, [.int (nI n), .ref xa, .ref xt, .ref xm, .ref wh, .ref st, .ref xb, .ref xc])), (xa, .inl (cI, 12, .inl (ax))), (xt, .inl (cI, 12, .inl (te))), (xm, .inl (cI, 12, .inl (me))), (xb, .inl (cF, 7, .inr (.inr (.inr (.inr (bc))))))] ++ va_pl LP (fe v)) H := hP
  try dsimp only at hw_r_1
  subst hw_r_1
  refine lv_iconst (v := 1) hx hb dX2_join_10 (by decide) ?_
  refine lv_iload_n hx hb dX2_join_11 rfl (lv_at hl 2 rfl) ?_
  refine lv_ishl hx hb dX2_join_12 ?_
  refine lv_ior hx hb dX2_join_13 ?_
  have hPc : va_P (dC, dI) vwCl ([(xm, .inl (cI, 12, .inl (me)))]) _ := hP.sub [3] rfl
  have hDc : va_D (fun _ => True) ([(xm, .inl (cI, 12, .inl (me)))]) := (hD.sub (ws' := [(xm, .inl (cI, 12, .inl (me)))]) [3] (by decide) rfl).weaken (fun _ _ _ _ => trivial)
  have hFc := va_free (wc := [(xm, .inl (cI, 12, .inl (me)))]) hD hS hA [3] rfl
  refine va_callv (va_runSN (host := RX5) (As := [.ref xm, .int i, .int ((atF 12 me i) ||| (1 <<< (j &&& 31)))]) (rest := []) ⟨hx, hb, hml, hown, hts⟩ (c_X5_put l dC dI cI cF tr (H).size xm 12 me i ((atF 12 me i) ||| (1 <<< (j &&& 31))) (by decide)) ⟨va_cnB 3 hts gX2_join_X5_put_n48 rfl rfl rfl (nwAt hN (RX2, 48, yX5_put) (by decide +kernel)) hw_iniX5 (by decide +kernel) ⟨Nat.le_of_ble_eq_true rfl, Nat.le_of_ble_eq_true rfl⟩, hw_staX5_put, trivial⟩ ⟨cDbl, (cDpre hPc hK hN hDc)⟩ rfl rfl hl.1 rfl (lv_room (Nat.le_of_ble_eq_true rfl)) dX2_join_14 ⟨(Nat.le_of_ble_eq_true rfl), (Nat.le_of_ble_eq_true rfl)⟩) hS (fun q _ h => hFc q h) hFc (fun u t H1 locs ht hvm hw_r_2 hB hz1 hk1 hS => ?_)
  refine W.widen (k := 0) (n := 0) (Nat.le_refl _) (Nat.le_refl _) ?_
  obtain ⟨hP1, hD1⟩ := hB
  rw [ht] at hP1
  obtain ⟨hP, hD⟩ := va_joinQ (wr := [(g, .inr (iX2, [.int (nI n), .ref xa, .ref xt, .ref xm, .ref wh, .ref st, .ref xb, .ref xc])), (xa, .inl (cI, 12, .inl (ax))), (xt, .inl (cI, 12, .inl (te))), (xb, .inl (cF, 7, .inr (.inr (.inr (.inr (bc))))))]) (w1 := [(xm, .inl (cI, 12, .inl (putF 12 me i ((atF 12 me i) ||| (1 <<< (j &&& 31))))))]) hP hD [3] [0, 1, 2, 4] rfl rfl (by decide) (by decide) hk1 hFc hP1 hD1
  have hD := hD.part (cx := [(g, .inr (iX2, [.int (nI n), .ref xa, .ref xt, .ref xm, .ref wh, .ref st, .ref xb, .ref xc])), (xa, .inl (cI, 12, .inl (ax))), (xt, .inl (cI, 12, .inl (te))), (xm, .inl (cI, 12, .inl (putF 12 me i ((atF 12 me i) ||| (1 <<< (j &&& 31)))))), (xb, .inl (cF, 7, .inr (.inr (.inr (.inr (bc))))))]) [0, 1, 2, 4, 3] (by decide) rfl
  have hP : va_P (dC, dI) vwCl ([(g, .inr (iX2, [.int (nI n), .ref xa, .ref xt, .ref xm, .ref wh, .ref st, .ref xb, .ref xc])), (xa, .inl (cI, 12, .inl (ax))), (xt, .inl (cI, 12, .inl (te))), (xm, .inl (cI, 12, .inl (putF 12 me i ((atF 12 me i) ||| (1 <<< (j &&& 31)))))), (xb, .inl (cF, 7, .inr (.inr (.inr (.inr (bc))))))] ++ va_pl LP (fe v)) H1 := hP.part [0, 1, 2, 4, 3] rfl
  generalize H1 = H at hP hS ⊢
  have hP : va_P (dC, dI) vwCl ([(g, .inr (iX2, [.int (nI n), .ref xa, .ref xt, .ref xm, .ref wh, .ref st, .ref xb, .ref xc])), (xa, .inl (cI, 12, .inl (ax))), (xt, .inl (cI, 12, .inl (te))), (xm, .inl (cI, 12, .inl (putF 12 me i ((atF 12 me i) ||| (1 <<< (j &&& 31)))))), (xb, .inl (cF, 7, .inr (.inr (.inr (.inr (bc))))))] ++ va_pl LP (fe v)) H := hP
  have hD : va_D A ([(g, .inr (iX2, [.int (nI n), .ref xa, .ref xt, .ref xm, .ref wh, .ref st, .ref xb, .ref xc])), (xa, .inl (cI, 12, .inl (ax))), (xt, .inl (cI, 12, .inl (te))), (xm, .inl (cI, 12, .inl (putF 12 me i ((atF 12 me i) ||| (1 <<< (j &&& 31)))))), (xb, .inl (cF, 7, .inr (.inr (.inr (.inr (bc))))))] ++ va_pl LP (fe v)) := hD
  try dsimp only at hw_r_2
  refine lv_aload_n hx hb dX2_join_17 rfl (lv_at hl 0 rfl) ?_
  refine va_get (D := (dC, dI)) (ci := iX2) (v := .ref xm) (C := RX2) (T := TX2) (N := 8) hx hb hts hin_X2 hown hK hP 0 rfl rfl 3 (by decide) hfl_18 (fun _ h9 => h9) rfl dX2_join_18 ?_
  refine lv_iload_n hx hb dX2_join_21 rfl (lv_at hl 2 rfl) ?_
  refine lv_aload_n hx hb dX2_join_22 rfl (lv_at hl 0 rfl) ?_
  refine lv_iload_n hx hb dX2_join_23 rfl (lv_at hl 2 rfl) ?_
  have hPc : va_P (dC, dI) vwCl ([(g, .inr (iX2, [.int (nI n), .ref xa, .ref xt, .ref xm, .ref wh, .ref st, .ref xb, .ref xc])), (xm, .inl (cI, 12, .inl (putF 12 me i ((atF 12 me i) ||| (1 <<< (j &&& 31))))))]) _ := hP.sub [0, 3] rfl
  have hFc := frZ hS hA
  refine va_calli (va_runV (As := [.int j]) (rest := [.int j, .ref xm]) ⟨hx, hb, hml, hown, hts⟩ (c_X2_meshedWith l dC dI cI cF tr (H).size g n xa xt xm wh st xb xc (putF 12 me i ((atF 12 me i) ||| (1 <<< (j &&& 31)))) j) (cwV 1 hts gX2_join_X2_meshedWith rfl rfl rfl (by decide +kernel) ⟨Nat.le_of_ble_eq_true rfl, Nat.le_of_ble_eq_true rfl⟩) ⟨cBl, (va_recv hK hPc (ci := iX2) (q0 := 0) rfl rfl), (cPre hPc hK hN)⟩ rfl rfl hl.1 rfl (lv_room (Nat.le_of_ble_eq_true rfl)) dX2_join_24 ⟨(Nat.le_of_ble_eq_true rfl), (Nat.le_of_ble_eq_true rfl)⟩) hS (fun q _ h => hFc q h) hFc (fun r_3 u t H1 locs ht hvm hw_r_3 hB hz1 hk1 hS => ?_)
  refine W.widen (k := 0) (n := 0) (Nat.le_refl _) (Nat.le_refl _) ?_
  have hP := keepP hP hk1
  generalize H1 = H at hP hS ⊢
  have hP : va_P (dC, dI) vwCl ([(g, .inr (iX2, [.int (nI n), .ref xa, .ref xt, .ref xm, .ref wh, .ref st, .ref xb, .ref xc])), (xa, .inl (cI, 12, .inl (ax))), (xt, .inl (cI, 12, .inl (te))), (xm, .inl (cI, 12, .inl (putF 12 me i ((atF 12 me i) ||| (1 <<< (j &&& 31)))))), (xb, .inl (cF, 7, .inr (.inr (.inr (.inr (bc))))))] ++ va_pl LP (fe v)) H := hP
  try dsimp only at hw_r_3
  subst hw_r_3
  refine lv_iconst (v := 1) hx hb dX2_join_27 (by decide) ?_
  refine lv_iload_n hx hb dX2_join_28 rfl (lv_at hl 1 rfl) ?_
  refine lv_ishl hx hb dX2_join_29 ?_
  refine lv_ior hx hb dX2_join_30 ?_
  have hPc : va_P (dC, dI) vwCl ([(xm, .inl (cI, 12, .inl (putF 12 me i ((atF 12 me i) ||| (1 <<< (j &&& 31))))))]) _ := hP.sub [3] rfl
  have hDc : va_D (fun _ => True) ([(xm, .inl (cI, 12, .inl (putF 12 me i ((atF 12 me i) ||| (1 <<< (j &&& 31))))))]) := (hD.sub (ws' := [(xm, .inl (cI, 12, .inl (putF 12 me i ((atF 12 me i) ||| (1 <<< (j &&& 31))))))]) [3] (by decide) rfl).weaken (fun _ _ _ _ => trivial)
  have hFc := va_free (wc := [(xm, .inl (cI, 12, .inl (putF 12 me i ((atF 12 me i) ||| (1 <<< (j &&& 31))))))]) hD hS hA [3] rfl
  refine va_callv (va_runSN (host := RX5) (As := [.ref xm, .int j, .int ((atF 12 (putF 12 me i ((atF 12 me i) ||| (1 <<< (j &&& 31)))) j) ||| (1 <<< (i &&& 31)))]) (rest := []) ⟨hx, hb, hml, hown, hts⟩ (c_X5_put l dC dI cI cF tr (H).size xm 12 (putF 12 me i ((atF 12 me i) ||| (1 <<< (j &&& 31)))) j ((atF 12 (putF 12 me i ((atF 12 me i) ||| (1 <<< (j &&& 31)))) j) ||| (1 <<< (i &&& 31))) (by decide)) ⟨va_cnB 3 hts gX2_join_X5_put_n48 rfl rfl rfl (nwAt hN (RX2, 48, yX5_put) (by decide +kernel)) hw_iniX5 (by decide +kernel) ⟨Nat.le_of_ble_eq_true rfl, Nat.le_of_ble_eq_true rfl⟩, hw_staX5_put, trivial⟩ ⟨cDbl, (cDpre hPc hK hN hDc)⟩ rfl rfl hl.1 rfl (lv_room (Nat.le_of_ble_eq_true rfl)) dX2_join_31 ⟨(Nat.le_of_ble_eq_true rfl), (Nat.le_of_ble_eq_true rfl)⟩) hS (fun q _ h => hFc q h) hFc (fun u t H1 locs ht hvm hw_r_4 hB hz1 hk1 hS => ?_)
  refine W.widen (k := 0) (n := 0) (Nat.le_refl _) (Nat.le_refl _) ?_
  obtain ⟨hP1, hD1⟩ := hB
  rw [ht] at hP1
  obtain ⟨hP, hD⟩ := va_joinQ (wr := [(g, .inr (iX2, [.int (nI n), .ref xa, .ref xt, .ref xm, .ref wh, .ref st, .ref xb, .ref xc])), (xa, .inl (cI, 12, .inl (ax))), (xt, .inl (cI, 12, .inl (te))), (xb, .inl (cF, 7, .inr (.inr (.inr (.inr (bc))))))]) (w1 := [(xm, .inl (cI, 12, .inl (putF 12 (putF 12 me i ((atF 12 me i) ||| (1 <<< (j &&& 31)))) j ((atF 12 (putF 12 me i ((atF 12 me i) ||| (1 <<< (j &&& 31)))) j) ||| (1 <<< (i &&& 31))))))]) hP hD [3] [0, 1, 2, 4] rfl rfl (by decide) (by decide) hk1 hFc hP1 hD1
  have hD := hD.part (cx := [(g, .inr (iX2, [.int (nI n), .ref xa, .ref xt, .ref xm, .ref wh, .ref st, .ref xb, .ref xc])), (xa, .inl (cI, 12, .inl (ax))), (xt, .inl (cI, 12, .inl (te))), (xm, .inl (cI, 12, .inl (putF 12 (putF 12 me i ((atF 12 me i) ||| (1 <<< (j &&& 31)))) j ((atF 12 (putF 12 me i ((atF 12 me i) ||| (1 <<< (j &&& 31)))) j) ||| (1 <<< (i &&& 31)))))), (xb, .inl (cF, 7, .inr (.inr (.inr (.inr (bc))))))]) [0, 1, 2, 4, 3] (by decide) rfl
  have hP : va_P (dC, dI) vwCl ([(g, .inr (iX2, [.int (nI n), .ref xa, .ref xt, .ref xm, .ref wh, .ref st, .ref xb, .ref xc])), (xa, .inl (cI, 12, .inl (ax))), (xt, .inl (cI, 12, .inl (te))), (xm, .inl (cI, 12, .inl (putF 12 (putF 12 me i ((atF 12 me i) ||| (1 <<< (j &&& 31)))) j ((atF 12 (putF 12 me i ((atF 12 me i) ||| (1 <<< (j &&& 31)))) j) ||| (1 <<< (i &&& 31)))))), (xb, .inl (cF, 7, .inr (.inr (.inr (.inr (bc))))))] ++ va_pl LP (fe v)) H1 := hP.part [0, 1, 2, 4, 3] rfl
  generalize H1 = H at hP hS ⊢
  have hP : va_P (dC, dI) vwCl ([(g, .inr (iX2, [.int (nI n), .ref xa, .ref xt, .ref xm, .ref wh, .ref st, .ref xb, .ref xc])), (xa, .inl (cI, 12, .inl (ax))), (xt, .inl (cI, 12, .inl (te))), (xm, .inl (cI, 12, .inl (putF 12 (putF 12 me i ((atF 12 me i) ||| (1 <<< (j &&& 31)))) j ((atF 12 (putF 12 me i ((atF 12 me i) ||| (1 <<< (j &&& 31)))) j) ||| (1 <<< (i &&& 31)))))), (xb, .inl (cF, 7, .inr (.inr (.inr (.inr (bc))))))] ++ va_pl LP (fe v)) H := hP
  have hD : va_D A ([(g, .inr (iX2, [.int (nI n), .ref xa, .ref xt, .ref xm, .ref wh, .ref st, .ref xb, .ref xc])), (xa, .inl (cI, 12, .inl (ax))), (xt, .inl (cI, 12, .inl (te))), (xm, .inl (cI, 12, .inl (putF 12 (putF 12 me i ((atF 12 me i) ||| (1 <<< (j &&& 31)))) j ((atF 12 (putF 12 me i ((atF 12 me i) ||| (1 <<< (j &&& 31)))) j) ||| (1 <<< (i &&& 31)))))), (xb, .inl (cF, 7, .inr (.inr (.inr (.inr (bc))))))] ++ va_pl LP (fe v)) := hD
  try dsimp only at hw_r_4
  have eq_5 : ([(g, .inr (iX2, [.int (nI n), .ref xa, .ref xt, .ref xm, .ref wh, .ref st, .ref xb, .ref xc])), (xa, .inl (cI, 12, .inl (ax))), (xt, .inl (cI, 12, .inl (te))), (xm, .inl (cI, 12, .inl (putF 12 (putF 12 me i ((atF 12 me i) ||| (1 <<< (j &&& 31)))) j ((atF 12 (putF 12 me i ((atF 12 me i) ||| (1 <<< (j &&& 31)))) j) ||| (1 <<< (i &&& 31)))))), (xb, .inl (cF, 7, .inr (.inr (.inr (.inr (bc))))))] : va_W) = [(g, .inr (iX2, [.int (nI n), .ref xa, .ref xt, .ref xm, .ref wh, .ref st, .ref xb, .ref xc])), (xa, .inl (cI, 12, .inl (ax))), (xt, .inl (cI, 12, .inl (te))), (xm, .inl (cI, 12, .inl (jnF me i j))), (xb, .inl (cF, 7, .inr (.inr (.inr (.inr (bc))))))] := rfl
  rw [eq_5] at hP hD
  refine lv_aload_n hx hb dX2_join_34 rfl (lv_at hl 0 rfl) ?_
  refine lv_iconst (v := 0) hx hb dX2_join_35 (by decide) ?_
  refine lv_aload_n hx hb dX2_join_36 rfl (lv_at hl 0 rfl) ?_
  refine va_get (D := (dC, dI)) (ci := iX2) (v := .ref xb) (C := RX2) (T := TX2) (N := 8) hx hb hts hin_X2 hown hK hP 0 rfl rfl 6 (by decide) hfl_33 (fun _ h9 => h9) rfl dX2_join_37 ?_
  have hPc : va_P (dC, dI) vwCl ([(g, .inr (iX2, [.int (nI n), .ref xa, .ref xt, .ref xm, .ref wh, .ref st, .ref xb, .ref xc])), (xa, .inl (cI, 12, .inl (ax))), (xt, .inl (cI, 12, .inl (te))), (xm, .inl (cI, 12, .inl (jnF me i j))), (xb, .inl (cF, 7, .inr (.inr (.inr (.inr (bc))))))] ++ va_pl LP (fe v)) _ := hP.part [0, 1, 2, 3, 4] rfl
  have hDc : va_D (fun _ => True) ([(g, .inr (iX2, [.int (nI n), .ref xa, .ref xt, .ref xm, .ref wh, .ref st, .ref xb, .ref xc])), (xa, .inl (cI, 12, .inl (ax))), (xt, .inl (cI, 12, .inl (te))), (xm, .inl (cI, 12, .inl (jnF me i j))), (xb, .inl (cF, 7, .inr (.inr (.inr (.inr (bc))))))] ++ va_pl LP (fe v)) := (hD.part (cx := [(g, .inr (iX2, [.int (nI n), .ref xa, .ref xt, .ref xm, .ref wh, .ref st, .ref xb, .ref xc])), (xa, .inl (cI, 12, .inl (ax))), (xt, .inl (cI, 12, .inl (te))), (xm, .inl (cI, 12, .inl (jnF me i j))), (xb, .inl (cF, 7, .inr (.inr (.inr (.inr (bc))))))]) [0, 1, 2, 3, 4] (by decide) rfl).weaken (fun _ _ _ _ => trivial)
  have hFc := va_freeP (cx := [(g, .inr (iX2, [.int (nI n), .ref xa, .ref xt, .ref xm, .ref wh, .ref st, .ref xb, .ref xc])), (xa, .inl (cI, 12, .inl (ax))), (xt, .inl (cI, 12, .inl (te))), (xm, .inl (cI, 12, .inl (jnF me i j))), (xb, .inl (cF, 7, .inr (.inr (.inr (.inr (bc))))))]) hD hS hA [0, 1, 2, 3, 4] rfl
  refine va_callv (va_runV (As := [.int 0, .ref xb]) (rest := []) ⟨hx, hb, hml, hown, hts⟩ (c_X2_spreadRates l dC dI cI cF tr (H).size g n xa xt xm wh st xb xc ax te (jnF me i j) xb bc LP v 0 (by assumption) (by assumption) (by assumption)) (cwV 2 hts gX2_join_X2_spreadRates rfl rfl rfl (by decide +kernel) ⟨Nat.le_of_ble_eq_true rfl, Nat.le_of_ble_eq_true rfl⟩) ⟨cDbl, (va_recv hK hPc (ci := iX2) (q0 := 0) rfl rfl), (cDpre hPc hK hN hDc)⟩ rfl rfl hl.1 rfl (lv_room (Nat.le_of_ble_eq_true rfl)) dX2_join_40 ⟨(Nat.le_of_ble_eq_true rfl), (Nat.le_of_ble_eq_true rfl)⟩) hS (fun q _ h => hFc q h) hFc (fun u t H1 locs ht hvm hw_r_6 hB hz1 hk1 hS => ?_)
  refine W.widen (k := 1008) (n := 2016) (by omega) (by omega) ?_
  obtain ⟨hP1, hD1⟩ := hB
  rw [ht] at hP1
  obtain ⟨b1_7, LP1_8, v1_9⟩ := u
  obtain ⟨hP, hD⟩ := va_joinP (wr := []) (rx := [(g, .inr (iX2, [.int (nI n), .ref xa, .ref xt, .ref xm, .ref wh, .ref st, .ref xb, .ref xc])), (xa, .inl (cI, 12, .inl (ax))), (xt, .inl (cI, 12, .inl (te))), (xm, .inl (cI, 12, .inl (jnF me i j))), (xb, .inl (cF, 7, .inr (.inr (.inr (.inr (b1_7))))))]) (pl1 := va_pl LP1_8 (fe v1_9)) hP hD [0, 1, 2, 3, 4] [] rfl rfl (by decide) (by decide) hk1 hFc hP1 hD1
  have hD := hD.part (cx := [(g, .inr (iX2, [.int (nI n), .ref xa, .ref xt, .ref xm, .ref wh, .ref st, .ref xb, .ref xc])), (xa, .inl (cI, 12, .inl (ax))), (xt, .inl (cI, 12, .inl (te))), (xm, .inl (cI, 12, .inl (jnF me i j))), (xb, .inl (cF, 7, .inr (.inr (.inr (.inr (b1_7))))))]) [0, 1, 2, 3, 4] (by decide) rfl
  have hP : va_P (dC, dI) vwCl ([(g, .inr (iX2, [.int (nI n), .ref xa, .ref xt, .ref xm, .ref wh, .ref st, .ref xb, .ref xc])), (xa, .inl (cI, 12, .inl (ax))), (xt, .inl (cI, 12, .inl (te))), (xm, .inl (cI, 12, .inl (jnF me i j))), (xb, .inl (cF, 7, .inr (.inr (.inr (.inr (b1_7))))))] ++ va_pl LP1_8 (fe v1_9)) H1 := hP.part [0, 1, 2, 3, 4] rfl
  generalize H1 = H at hP hS ⊢
  have hP : va_P (dC, dI) vwCl ([(g, .inr (iX2, [.int (nI n), .ref xa, .ref xt, .ref xm, .ref wh, .ref st, .ref xb, .ref xc])), (xa, .inl (cI, 12, .inl (ax))), (xt, .inl (cI, 12, .inl (te))), (xm, .inl (cI, 12, .inl (jnF me i j))), (xb, .inl (cF, 7, .inr (.inr (.inr (.inr (b1_7))))))] ++ va_pl LP1_8 (fe v1_9)) H := hP
  have hD : va_D A ([(g, .inr (iX2, [.int (nI n), .ref xa, .ref xt, .ref xm, .ref wh, .ref st, .ref xb, .ref xc])), (xa, .inl (cI, 12, .inl (ax))), (xt, .inl (cI, 12, .inl (te))), (xm, .inl (cI, 12, .inl (jnF me i j))), (xb, .inl (cF, 7, .inr (.inr (.inr (.inr (b1_7))))))] ++ va_pl LP1_8 (fe v1_9)) := hD
  try dsimp only at hw_r_6
  refine W.widen (k := 1008) (n := 2016) (by omega) (by omega) ?_
  exact W.vret hx hb hr (fun t ht hW => ⟨⟨(b1_7, LP1_8, v1_9), rfl, hw_r_6, by rw [ht]; exact hP, hAe ▸ hD⟩, hS.F ht⟩) hS.2.2 dX2_join_43

set_option maxHeartbeats 4000000 in
set_option maxRecDepth 100000 in
theorem c_X2_separate (l : Launch) (dC : Nat → ClassId) (dI : Nat → Nat → Nat) (cI cF : ClassId) (tr : List (ClassId × FieldType)) (sz : Nat) (g : Nat) (n : Nat) (xa : Nat) (xt : Nat) (xm : Nat) (wh : Nat) (st : Nat) (xb : Nat) (xc : Nat) (ax : Nat → Int32) (te : Nat → Int32) (me : Nat → Int32) (bc : Nat → Option Nat) (LP : List Nat) (v : Nat → Int64 × Int64) (i : Int32) (j : Int32) (hbk : bOK LP bc) (hn : n ≤ 12) (hwh : wh ∈ LP) : Met l yX2_separate wsX2_separate ({ frames := 5, cells := 1008, slots := 2016, locals := 131 } : Room) (cPd dC dI ((cI, .int) :: (cF, .object RX1) :: tr) sz ([(g, .inr (iX2, [.int (nI n), .ref xa, .ref xt, .ref xm, .ref wh, .ref st, .ref xb, .ref xc])), (xa, .inl (cI, 12, .inl (ax))), (xt, .inl (cI, 12, .inl (te))), (xm, .inl (cI, 12, .inl (me))), (xb, .inl (cF, 7, .inr (.inr (.inr (.inr (bc))))))] ++ va_pl LP (fe v)) [.ref g, .int i, .int j]) (va_Qv (fun u : (Nat → Option Nat) × List Nat × (Nat → Int64 × Int64) => bOK u.2.1 u.1 ∧ keepL LP u.2.1 v u.2.2 ∧ abR u.1 u.2.2 = sprF ax te (seF me i j) n 0 (v wh)) (fun ⟨b1, LP1, v1⟩ t => va_P (dC, dI) vwCl ([(g, .inr (iX2, [.int (nI n), .ref xa, .ref xt, .ref xm, .ref wh, .ref st, .ref xb, .ref xc])), (xa, .inl (cI, 12, .inl (ax))), (xt, .inl (cI, 12, .inl (te))), (xm, .inl (cI, 12, .inl (seF me i j))), (xb, .inl (cF, 7, .inr (.inr (.inr (.inr (b1))))))] ++ va_pl LP1 (fe v1)) t.heap ∧ va_D (va_A ([(g, .inr (iX2, [.int (nI n), .ref xa, .ref xt, .ref xm, .ref wh, .ref st, .ref xb, .ref xc])), (xa, .inl (cI, 12, .inl (ax))), (xt, .inl (cI, 12, .inl (te))), (xm, .inl (cI, 12, .inl (me))), (xb, .inl (cF, 7, .inr (.inr (.inr (.inr (bc))))))] ++ va_pl LP (fe v)) sz) ([(g, .inr (iX2, [.int (nI n), .ref xa, .ref xt, .ref xm, .ref wh, .ref st, .ref xb, .ref xc])), (xa, .inl (cI, 12, .inl (ax))), (xt, .inl (cI, 12, .inl (te))), (xm, .inl (cI, 12, .inl (seF me i j))), (xb, .inl (cF, 7, .inr (.inr (.inr (.inr (b1))))))] ++ va_pl LP1 (fe v1))) (va_A ([(g, .inr (iX2, [.int (nI n), .ref xa, .ref xt, .ref xm, .ref wh, .ref st, .ref xb, .ref xc])), (xa, .inl (cI, 12, .inl (ax))), (xt, .inl (cI, 12, .inl (te))), (xm, .inl (cI, 12, .inl (me))), (xb, .inl (cF, 7, .inr (.inr (.inr (.inr (bc))))))] ++ va_pl LP (fe v)) sz)) 1008 2016 (va_A ([(g, .inr (iX2, [.int (nI n), .ref xa, .ref xt, .ref xm, .ref wh, .ref st, .ref xb, .ref xc])), (xa, .inl (cI, 12, .inl (ax))), (xt, .inl (cI, 12, .inl (te))), (xm, .inl (cI, 12, .inl (me))), (xb, .inl (cF, 7, .inr (.inr (.inr (.inr (bc))))))] ++ va_pl LP (fe v)) sz) := by
  refine Met.ofW (cc := cX2_separate) (maxL := 3) (ret := none) (by decide) rfl ?_
  intro p e s m args below meth c s₁ B hml hv
  obtain ⟨rfl, hsz, hP, hK, hN, hD0⟩ := hv
  have hx := B.exec
  have hb := B.bytes
  have hr := B.returns
  have hts := atoms_spec (ws := wsX2_separate) B.pre
  have hown : s.vm.findClass RX2 = some m.cls := findClass_of_methodNamed B.named
  have hlocks := B.notSynchronized
  subst hsz
  have hD := hD0.self (sz := s.heap.size)
  generalize hAe : va_A ([(g, .inr (iX2, [.int (nI n), .ref xa, .ref xt, .ref xm, .ref wh, .ref st, .ref xb, .ref xc])), (xa, .inl (cI, 12, .inl (ax))), (xt, .inl (cI, 12, .inl (te))), (xm, .inl (cI, 12, .inl (me))), (xb, .inl (cF, 7, .inr (.inr (.inr (.inr (bc))))))] ++ va_pl LP (fe v)) s.heap.size = A at hD ⊢
  have hA : ∀ q : Nat, s.heap.size ≤ q → A q := fun q h => by rw [← hAe]; exact Or.inr h
  have hS : va_S A s.heap s.heap [] := va_S.rf
  have hP : va_P (dC, dI) vwCl ([(g, .inr (iX2, [.int (nI n), .ref xa, .ref xt, .ref xm, .ref wh, .ref st, .ref xb, .ref xc])), (xa, .inl (cI, 12, .inl (ax))), (xt, .inl (cI, 12, .inl (te))), (xm, .inl (cI, 12, .inl (me))), (xb, .inl (cF, 7, .inr (.inr (.inr (.inr (bc))))))] ++ va_pl LP (fe v)) s.heap := hP
  have hl := lv_entry ([.ref g, .int i, .int j]) (n := 3) (Nat.le_of_ble_eq_true rfl)
  rw [lg_entry_eq]
  generalize (lg_sl ([.ref g, .int i, .int j]) ++ List.replicate (3 - (lg_sl ([.ref g, .int i, .int j])).length) Slot.unset).toArray = ls at hl ⊢
  have hl : lv_has ls 3 [(0, .ref g), (1, .int i), (2, .int j)] := hl
  have hfl_18 := hts (.fieldLink RX2 18 "Greenwheels$Gearing" "meshSets" "[I") (by decide +kernel)
  have hin_X2 : ∀ w ∈ u_ws RX2 TX2 8, w ∈ wsX2_separate := by decide +kernel
  have hw_iniX5 := hts (.initialized RX5) (by decide +kernel)
  have hw_staX5_put := hts (.static yX5_put) (by decide +kernel)
  have hfl_33 := hts (.fieldLink RX2 33 "Greenwheels$Gearing" "byCrank" "[LGreenwheels$Fraction;") (by decide +kernel)
  refine lv_aload_n hx hb dX2_separate_0 rfl (lv_at hl 0 rfl) ?_
  refine va_get (D := (dC, dI)) (ci := iX2) (v := .ref xm) (C := RX2) (T := TX2) (N := 8) hx hb hts hin_X2 hown hK hP 0 rfl rfl 3 (by decide) hfl_18 (fun _ h9 => h9) rfl dX2_separate_1 ?_
  refine lv_iload_n hx hb dX2_separate_4 rfl (lv_at hl 1 rfl) ?_
  refine lv_aload_n hx hb dX2_separate_5 rfl (lv_at hl 0 rfl) ?_
  refine lv_iload_n hx hb dX2_separate_6 rfl (lv_at hl 1 rfl) ?_
  have hPc : va_P (dC, dI) vwCl ([(g, .inr (iX2, [.int (nI n), .ref xa, .ref xt, .ref xm, .ref wh, .ref st, .ref xb, .ref xc])), (xm, .inl (cI, 12, .inl (me)))]) _ := hP.sub [0, 3] rfl
  have hFc := frZ hS hA
  refine va_calli (va_runV (As := [.int i]) (rest := [.int i, .ref xm]) ⟨hx, hb, hml, hown, hts⟩ (c_X2_meshedWith l dC dI cI cF tr (s.heap).size g n xa xt xm wh st xb xc me i) (cwV 1 hts gX2_separate_X2_meshedWith rfl rfl rfl (by decide +kernel) ⟨Nat.le_of_ble_eq_true rfl, Nat.le_of_ble_eq_true rfl⟩) ⟨cBl, (va_recv hK hPc (ci := iX2) (q0 := 0) rfl rfl), (cPre hPc hK hN)⟩ rfl rfl hl.1 rfl (lv_room (Nat.le_of_ble_eq_true rfl)) dX2_separate_7 ⟨(Nat.le_of_ble_eq_true rfl), (Nat.le_of_ble_eq_true rfl)⟩) hS (fun q _ h => hFc q h) hFc (fun r_1 u t H1 locs ht hvm hw_r_1 hB hz1 hk1 hS => ?_)
  refine W.widen (k := 0) (n := 0) (Nat.le_refl _) (Nat.le_refl _) ?_
  have hP := keepP hP hk1
  generalize H1 = H at hP hS ⊢
  have hP : va_P (dC, dI) vwCl ([(g, .inr (iX2, [.int (nI n), .ref xa, .ref xt, .ref xm, .ref wh, .ref st, .ref xb, .ref xc])), (xa, .inl (cI, 12, .inl (ax))), (xt, .inl (cI, 12, .inl (te))), (xm, .inl (cI, 12, .inl (me))), (xb, .inl (cF, 7, .inr (.inr (.inr (.inr (bc))))))] ++ va_pl LP (fe v)) H := hP
  try dsimp only at hw_r_1
  subst hw_r_1
  refine lv_iconst (v := 1) hx hb dX2_separate_10 (by decide) ?_
  refine lv_iload_n hx hb dX2_separate_11 rfl (lv_at hl 2 rfl) ?_
  refine lv_ishl hx hb dX2_separate_12 ?_
  refine lv_iconst (v := (-1)) hx hb dX2_separate_13 (by decide) ?_
  refine lv_ixor hx hb dX2_separate_14 ?_
  refine lv_iand hx hb dX2_separate_15 ?_
  have hPc : va_P (dC, dI) vwCl ([(xm, .inl (cI, 12, .inl (me)))]) _ := hP.sub [3] rfl
  have hDc : va_D (fun _ => True) ([(xm, .inl (cI, 12, .inl (me)))]) := (hD.sub (ws' := [(xm, .inl (cI, 12, .inl (me)))]) [3] (by decide) rfl).weaken (fun _ _ _ _ => trivial)
  have hFc := va_free (wc := [(xm, .inl (cI, 12, .inl (me)))]) hD hS hA [3] rfl
  refine va_callv (va_runSN (host := RX5) (As := [.ref xm, .int i, .int ((atF 12 me i) &&& ((1 <<< (j &&& 31)) ^^^ ((-1))))]) (rest := []) ⟨hx, hb, hml, hown, hts⟩ (c_X5_put l dC dI cI cF tr (H).size xm 12 me i ((atF 12 me i) &&& ((1 <<< (j &&& 31)) ^^^ ((-1)))) (by decide)) ⟨va_cnB 3 hts gX2_separate_X5_put_n48 rfl rfl rfl (nwAt hN (RX2, 48, yX5_put) (by decide +kernel)) hw_iniX5 (by decide +kernel) ⟨Nat.le_of_ble_eq_true rfl, Nat.le_of_ble_eq_true rfl⟩, hw_staX5_put, trivial⟩ ⟨cDbl, (cDpre hPc hK hN hDc)⟩ rfl rfl hl.1 rfl (lv_room (Nat.le_of_ble_eq_true rfl)) dX2_separate_16 ⟨(Nat.le_of_ble_eq_true rfl), (Nat.le_of_ble_eq_true rfl)⟩) hS (fun q _ h => hFc q h) hFc (fun u t H1 locs ht hvm hw_r_2 hB hz1 hk1 hS => ?_)
  refine W.widen (k := 0) (n := 0) (Nat.le_refl _) (Nat.le_refl _) ?_
  obtain ⟨hP1, hD1⟩ := hB
  rw [ht] at hP1
  obtain ⟨hP, hD⟩ := va_joinQ (wr := [(g, .inr (iX2, [.int (nI n), .ref xa, .ref xt, .ref xm, .ref wh, .ref st, .ref xb, .ref xc])), (xa, .inl (cI, 12, .inl (ax))), (xt, .inl (cI, 12, .inl (te))), (xb, .inl (cF, 7, .inr (.inr (.inr (.inr (bc))))))]) (w1 := [(xm, .inl (cI, 12, .inl (putF 12 me i ((atF 12 me i) &&& ((1 <<< (j &&& 31)) ^^^ ((-1)))))))]) hP hD [3] [0, 1, 2, 4] rfl rfl (by decide) (by decide) hk1 hFc hP1 hD1
  have hD := hD.part (cx := [(g, .inr (iX2, [.int (nI n), .ref xa, .ref xt, .ref xm, .ref wh, .ref st, .ref xb, .ref xc])), (xa, .inl (cI, 12, .inl (ax))), (xt, .inl (cI, 12, .inl (te))), (xm, .inl (cI, 12, .inl (putF 12 me i ((atF 12 me i) &&& ((1 <<< (j &&& 31)) ^^^ ((-1))))))), (xb, .inl (cF, 7, .inr (.inr (.inr (.inr (bc))))))]) [0, 1, 2, 4, 3] (by decide) rfl
  have hP : va_P (dC, dI) vwCl ([(g, .inr (iX2, [.int (nI n), .ref xa, .ref xt, .ref xm, .ref wh, .ref st, .ref xb, .ref xc])), (xa, .inl (cI, 12, .inl (ax))), (xt, .inl (cI, 12, .inl (te))), (xm, .inl (cI, 12, .inl (putF 12 me i ((atF 12 me i) &&& ((1 <<< (j &&& 31)) ^^^ ((-1))))))), (xb, .inl (cF, 7, .inr (.inr (.inr (.inr (bc))))))] ++ va_pl LP (fe v)) H1 := hP.part [0, 1, 2, 4, 3] rfl
  generalize H1 = H at hP hS ⊢
  have hP : va_P (dC, dI) vwCl ([(g, .inr (iX2, [.int (nI n), .ref xa, .ref xt, .ref xm, .ref wh, .ref st, .ref xb, .ref xc])), (xa, .inl (cI, 12, .inl (ax))), (xt, .inl (cI, 12, .inl (te))), (xm, .inl (cI, 12, .inl (putF 12 me i ((atF 12 me i) &&& ((1 <<< (j &&& 31)) ^^^ ((-1))))))), (xb, .inl (cF, 7, .inr (.inr (.inr (.inr (bc))))))] ++ va_pl LP (fe v)) H := hP
  have hD : va_D A ([(g, .inr (iX2, [.int (nI n), .ref xa, .ref xt, .ref xm, .ref wh, .ref st, .ref xb, .ref xc])), (xa, .inl (cI, 12, .inl (ax))), (xt, .inl (cI, 12, .inl (te))), (xm, .inl (cI, 12, .inl (putF 12 me i ((atF 12 me i) &&& ((1 <<< (j &&& 31)) ^^^ ((-1))))))), (xb, .inl (cF, 7, .inr (.inr (.inr (.inr (bc))))))] ++ va_pl LP (fe v)) := hD
  try dsimp only at hw_r_2
  refine lv_aload_n hx hb dX2_separate_19 rfl (lv_at hl 0 rfl) ?_
  refine va_get (D := (dC, dI)) (ci := iX2) (v := .ref xm) (C := RX2) (T := TX2) (N := 8) hx hb hts hin_X2 hown hK hP 0 rfl rfl 3 (by decide) hfl_18 (fun _ h9 => h9) rfl dX2_separate_20 ?_
  refine lv_iload_n hx hb dX2_separate_23 rfl (lv_at hl 2 rfl) ?_
  refine lv_aload_n hx hb dX2_separate_24 rfl (lv_at hl 0 rfl) ?_
  refine lv_iload_n hx hb dX2_separate_25 rfl (lv_at hl 2 rfl) ?_
  have hPc : va_P (dC, dI) vwCl ([(g, .inr (iX2, [.int (nI n), .ref xa, .ref xt, .ref xm, .ref wh, .ref st, .ref xb, .ref xc])), (xm, .inl (cI, 12, .inl (putF 12 me i ((atF 12 me i) &&& ((1 <<< (j &&& 31)) ^^^ ((-1)))))))]) _ := hP.sub [0, 3] rfl
  have hFc := frZ hS hA
  refine va_calli (va_runV (As := [.int j]) (rest := [.int j, .ref xm]) ⟨hx, hb, hml, hown, hts⟩ (c_X2_meshedWith l dC dI cI cF tr (H).size g n xa xt xm wh st xb xc (putF 12 me i ((atF 12 me i) &&& ((1 <<< (j &&& 31)) ^^^ ((-1))))) j) (cwV 1 hts gX2_separate_X2_meshedWith rfl rfl rfl (by decide +kernel) ⟨Nat.le_of_ble_eq_true rfl, Nat.le_of_ble_eq_true rfl⟩) ⟨cBl, (va_recv hK hPc (ci := iX2) (q0 := 0) rfl rfl), (cPre hPc hK hN)⟩ rfl rfl hl.1 rfl (lv_room (Nat.le_of_ble_eq_true rfl)) dX2_separate_26 ⟨(Nat.le_of_ble_eq_true rfl), (Nat.le_of_ble_eq_true rfl)⟩) hS (fun q _ h => hFc q h) hFc (fun r_3 u t H1 locs ht hvm hw_r_3 hB hz1 hk1 hS => ?_)
  refine W.widen (k := 0) (n := 0) (Nat.le_refl _) (Nat.le_refl _) ?_
  have hP := keepP hP hk1
  generalize H1 = H at hP hS ⊢
  have hP : va_P (dC, dI) vwCl ([(g, .inr (iX2, [.int (nI n), .ref xa, .ref xt, .ref xm, .ref wh, .ref st, .ref xb, .ref xc])), (xa, .inl (cI, 12, .inl (ax))), (xt, .inl (cI, 12, .inl (te))), (xm, .inl (cI, 12, .inl (putF 12 me i ((atF 12 me i) &&& ((1 <<< (j &&& 31)) ^^^ ((-1))))))), (xb, .inl (cF, 7, .inr (.inr (.inr (.inr (bc))))))] ++ va_pl LP (fe v)) H := hP
  try dsimp only at hw_r_3
  subst hw_r_3
  refine lv_iconst (v := 1) hx hb dX2_separate_29 (by decide) ?_
  refine lv_iload_n hx hb dX2_separate_30 rfl (lv_at hl 1 rfl) ?_
  refine lv_ishl hx hb dX2_separate_31 ?_
  refine lv_iconst (v := (-1)) hx hb dX2_separate_32 (by decide) ?_
  refine lv_ixor hx hb dX2_separate_33 ?_
  refine lv_iand hx hb dX2_separate_34 ?_
  have hPc : va_P (dC, dI) vwCl ([(xm, .inl (cI, 12, .inl (putF 12 me i ((atF 12 me i) &&& ((1 <<< (j &&& 31)) ^^^ ((-1)))))))]) _ := hP.sub [3] rfl
  have hDc : va_D (fun _ => True) ([(xm, .inl (cI, 12, .inl (putF 12 me i ((atF 12 me i) &&& ((1 <<< (j &&& 31)) ^^^ ((-1)))))))]) := (hD.sub (ws' := [(xm, .inl (cI, 12, .inl (putF 12 me i ((atF 12 me i) &&& ((1 <<< (j &&& 31)) ^^^ ((-1)))))))]) [3] (by decide) rfl).weaken (fun _ _ _ _ => trivial)
  have hFc := va_free (wc := [(xm, .inl (cI, 12, .inl (putF 12 me i ((atF 12 me i) &&& ((1 <<< (j &&& 31)) ^^^ ((-1)))))))]) hD hS hA [3] rfl
  refine va_callv (va_runSN (host := RX5) (As := [.ref xm, .int j, .int ((atF 12 (putF 12 me i ((atF 12 me i) &&& ((1 <<< (j &&& 31)) ^^^ ((-1))))) j) &&& ((1 <<< (i &&& 31)) ^^^ ((-1))))]) (rest := []) ⟨hx, hb, hml, hown, hts⟩ (c_X5_put l dC dI cI cF tr (H).size xm 12 (putF 12 me i ((atF 12 me i) &&& ((1 <<< (j &&& 31)) ^^^ ((-1))))) j ((atF 12 (putF 12 me i ((atF 12 me i) &&& ((1 <<< (j &&& 31)) ^^^ ((-1))))) j) &&& ((1 <<< (i &&& 31)) ^^^ ((-1)))) (by decide)) ⟨va_cnB 3 hts gX2_separate_X5_put_n48 rfl rfl rfl (nwAt hN (RX2, 48, yX5_put) (by decide +kernel)) hw_iniX5 (by decide +kernel) ⟨Nat.le_of_ble_eq_true rfl, Nat.le_of_ble_eq_true rfl⟩, hw_staX5_put, trivial⟩ ⟨cDbl, (cDpre hPc hK hN hDc)⟩ rfl rfl hl.1 rfl (lv_room (Nat.le_of_ble_eq_true rfl)) dX2_separate_35 ⟨(Nat.le_of_ble_eq_true rfl), (Nat.le_of_ble_eq_true rfl)⟩) hS (fun q _ h => hFc q h) hFc (fun u t H1 locs ht hvm hw_r_4 hB hz1 hk1 hS => ?_)
  refine W.widen (k := 0) (n := 0) (Nat.le_refl _) (Nat.le_refl _) ?_
  obtain ⟨hP1, hD1⟩ := hB
  rw [ht] at hP1
  obtain ⟨hP, hD⟩ := va_joinQ (wr := [(g, .inr (iX2, [.int (nI n), .ref xa, .ref xt, .ref xm, .ref wh, .ref st, .ref xb, .ref xc])), (xa, .inl (cI, 12, .inl (ax))), (xt, .inl (cI, 12, .inl (te))), (xb, .inl (cF, 7, .inr (.inr (.inr (.inr (bc))))))]) (w1 := [(xm, .inl (cI, 12, .inl (putF 12 (putF 12 me i ((atF 12 me i) &&& ((1 <<< (j &&& 31)) ^^^ ((-1))))) j ((atF 12 (putF 12 me i ((atF 12 me i) &&& ((1 <<< (j &&& 31)) ^^^ ((-1))))) j) &&& ((1 <<< (i &&& 31)) ^^^ ((-1)))))))]) hP hD [3] [0, 1, 2, 4] rfl rfl (by decide) (by decide) hk1 hFc hP1 hD1
  have hD := hD.part (cx := [(g, .inr (iX2, [.int (nI n), .ref xa, .ref xt, .ref xm, .ref wh, .ref st, .ref xb, .ref xc])), (xa, .inl (cI, 12, .inl (ax))), (xt, .inl (cI, 12, .inl (te))), (xm, .inl (cI, 12, .inl (putF 12 (putF 12 me i ((atF 12 me i) &&& ((1 <<< (j &&& 31)) ^^^ ((-1))))) j ((atF 12 (putF 12 me i ((atF 12 me i) &&& ((1 <<< (j &&& 31)) ^^^ ((-1))))) j) &&& ((1 <<< (i &&& 31)) ^^^ ((-1))))))), (xb, .inl (cF, 7, .inr (.inr (.inr (.inr (bc))))))]) [0, 1, 2, 4, 3] (by decide) rfl
  have hP : va_P (dC, dI) vwCl ([(g, .inr (iX2, [.int (nI n), .ref xa, .ref xt, .ref xm, .ref wh, .ref st, .ref xb, .ref xc])), (xa, .inl (cI, 12, .inl (ax))), (xt, .inl (cI, 12, .inl (te))), (xm, .inl (cI, 12, .inl (putF 12 (putF 12 me i ((atF 12 me i) &&& ((1 <<< (j &&& 31)) ^^^ ((-1))))) j ((atF 12 (putF 12 me i ((atF 12 me i) &&& ((1 <<< (j &&& 31)) ^^^ ((-1))))) j) &&& ((1 <<< (i &&& 31)) ^^^ ((-1))))))), (xb, .inl (cF, 7, .inr (.inr (.inr (.inr (bc))))))] ++ va_pl LP (fe v)) H1 := hP.part [0, 1, 2, 4, 3] rfl
  generalize H1 = H at hP hS ⊢
  have hP : va_P (dC, dI) vwCl ([(g, .inr (iX2, [.int (nI n), .ref xa, .ref xt, .ref xm, .ref wh, .ref st, .ref xb, .ref xc])), (xa, .inl (cI, 12, .inl (ax))), (xt, .inl (cI, 12, .inl (te))), (xm, .inl (cI, 12, .inl (putF 12 (putF 12 me i ((atF 12 me i) &&& ((1 <<< (j &&& 31)) ^^^ ((-1))))) j ((atF 12 (putF 12 me i ((atF 12 me i) &&& ((1 <<< (j &&& 31)) ^^^ ((-1))))) j) &&& ((1 <<< (i &&& 31)) ^^^ ((-1))))))), (xb, .inl (cF, 7, .inr (.inr (.inr (.inr (bc))))))] ++ va_pl LP (fe v)) H := hP
  have hD : va_D A ([(g, .inr (iX2, [.int (nI n), .ref xa, .ref xt, .ref xm, .ref wh, .ref st, .ref xb, .ref xc])), (xa, .inl (cI, 12, .inl (ax))), (xt, .inl (cI, 12, .inl (te))), (xm, .inl (cI, 12, .inl (putF 12 (putF 12 me i ((atF 12 me i) &&& ((1 <<< (j &&& 31)) ^^^ ((-1))))) j ((atF 12 (putF 12 me i ((atF 12 me i) &&& ((1 <<< (j &&& 31)) ^^^ ((-1))))) j) &&& ((1 <<< (i &&& 31)) ^^^ ((-1))))))), (xb, .inl (cF, 7, .inr (.inr (.inr (.inr (bc))))))] ++ va_pl LP (fe v)) := hD
  try dsimp only at hw_r_4
  have eq_5 : ([(g, .inr (iX2, [.int (nI n), .ref xa, .ref xt, .ref xm, .ref wh, .ref st, .ref xb, .ref xc])), (xa, .inl (cI, 12, .inl (ax))), (xt, .inl (cI, 12, .inl (te))), (xm, .inl (cI, 12, .inl (putF 12 (putF 12 me i ((atF 12 me i) &&& ((1 <<< (j &&& 31)) ^^^ ((-1))))) j ((atF 12 (putF 12 me i ((atF 12 me i) &&& ((1 <<< (j &&& 31)) ^^^ ((-1))))) j) &&& ((1 <<< (i &&& 31)) ^^^ ((-1))))))), (xb, .inl (cF, 7, .inr (.inr (.inr (.inr (bc))))))] : va_W) = [(g, .inr (iX2, [.int (nI n), .ref xa, .ref xt, .ref xm, .ref wh, .ref st, .ref xb, .ref xc])), (xa, .inl (cI, 12, .inl (ax))), (xt, .inl (cI, 12, .inl (te))), (xm, .inl (cI, 12, .inl (seF me i j))), (xb, .inl (cF, 7, .inr (.inr (.inr (.inr (bc))))))] := rfl
  rw [eq_5] at hP hD
  refine lv_aload_n hx hb dX2_separate_38 rfl (lv_at hl 0 rfl) ?_
  refine lv_iconst (v := 0) hx hb dX2_separate_39 (by decide) ?_
  refine lv_aload_n hx hb dX2_separate_40 rfl (lv_at hl 0 rfl) ?_
  refine va_get (D := (dC, dI)) (ci := iX2) (v := .ref xb) (C := RX2) (T := TX2) (N := 8) hx hb hts hin_X2 hown hK hP 0 rfl rfl 6 (by decide) hfl_33 (fun _ h9 => h9) rfl dX2_separate_41 ?_
  have hPc : va_P (dC, dI) vwCl ([(g, .inr (iX2, [.int (nI n), .ref xa, .ref xt, .ref xm, .ref wh, .ref st, .ref xb, .ref xc])), (xa, .inl (cI, 12, .inl (ax))), (xt, .inl (cI, 12, .inl (te))), (xm, .inl (cI, 12, .inl (seF me i j))), (xb, .inl (cF, 7, .inr (.inr (.inr (.inr (bc))))))] ++ va_pl LP (fe v)) _ := hP.part [0, 1, 2, 3, 4] rfl
  have hDc : va_D (fun _ => True) ([(g, .inr (iX2, [.int (nI n), .ref xa, .ref xt, .ref xm, .ref wh, .ref st, .ref xb, .ref xc])), (xa, .inl (cI, 12, .inl (ax))), (xt, .inl (cI, 12, .inl (te))), (xm, .inl (cI, 12, .inl (seF me i j))), (xb, .inl (cF, 7, .inr (.inr (.inr (.inr (bc))))))] ++ va_pl LP (fe v)) := (hD.part (cx := [(g, .inr (iX2, [.int (nI n), .ref xa, .ref xt, .ref xm, .ref wh, .ref st, .ref xb, .ref xc])), (xa, .inl (cI, 12, .inl (ax))), (xt, .inl (cI, 12, .inl (te))), (xm, .inl (cI, 12, .inl (seF me i j))), (xb, .inl (cF, 7, .inr (.inr (.inr (.inr (bc))))))]) [0, 1, 2, 3, 4] (by decide) rfl).weaken (fun _ _ _ _ => trivial)
  have hFc := va_freeP (cx := [(g, .inr (iX2, [.int (nI n), .ref xa, .ref xt, .ref xm, .ref wh, .ref st, .ref xb, .ref xc])), (xa, .inl (cI, 12, .inl (ax))), (xt, .inl (cI, 12, .inl (te))), (xm, .inl (cI, 12, .inl (seF me i j))), (xb, .inl (cF, 7, .inr (.inr (.inr (.inr (bc))))))]) hD hS hA [0, 1, 2, 3, 4] rfl
  refine va_callv (va_runV (As := [.int 0, .ref xb]) (rest := []) ⟨hx, hb, hml, hown, hts⟩ (c_X2_spreadRates l dC dI cI cF tr (H).size g n xa xt xm wh st xb xc ax te (seF me i j) xb bc LP v 0 (by assumption) (by assumption) (by assumption)) (cwV 2 hts gX2_separate_X2_spreadRates rfl rfl rfl (by decide +kernel) ⟨Nat.le_of_ble_eq_true rfl, Nat.le_of_ble_eq_true rfl⟩) ⟨cDbl, (va_recv hK hPc (ci := iX2) (q0 := 0) rfl rfl), (cDpre hPc hK hN hDc)⟩ rfl rfl hl.1 rfl (lv_room (Nat.le_of_ble_eq_true rfl)) dX2_separate_44 ⟨(Nat.le_of_ble_eq_true rfl), (Nat.le_of_ble_eq_true rfl)⟩) hS (fun q _ h => hFc q h) hFc (fun u t H1 locs ht hvm hw_r_6 hB hz1 hk1 hS => ?_)
  refine W.widen (k := 1008) (n := 2016) (by omega) (by omega) ?_
  obtain ⟨hP1, hD1⟩ := hB
  rw [ht] at hP1
  obtain ⟨b1_7, LP1_8, v1_9⟩ := u
  obtain ⟨hP, hD⟩ := va_joinP (wr := []) (rx := [(g, .inr (iX2, [.int (nI n), .ref xa, .ref xt, .ref xm, .ref wh, .ref st, .ref xb, .ref xc])), (xa, .inl (cI, 12, .inl (ax))), (xt, .inl (cI, 12, .inl (te))), (xm, .inl (cI, 12, .inl (seF me i j))), (xb, .inl (cF, 7, .inr (.inr (.inr (.inr (b1_7))))))]) (pl1 := va_pl LP1_8 (fe v1_9)) hP hD [0, 1, 2, 3, 4] [] rfl rfl (by decide) (by decide) hk1 hFc hP1 hD1
  have hD := hD.part (cx := [(g, .inr (iX2, [.int (nI n), .ref xa, .ref xt, .ref xm, .ref wh, .ref st, .ref xb, .ref xc])), (xa, .inl (cI, 12, .inl (ax))), (xt, .inl (cI, 12, .inl (te))), (xm, .inl (cI, 12, .inl (seF me i j))), (xb, .inl (cF, 7, .inr (.inr (.inr (.inr (b1_7))))))]) [0, 1, 2, 3, 4] (by decide) rfl
  have hP : va_P (dC, dI) vwCl ([(g, .inr (iX2, [.int (nI n), .ref xa, .ref xt, .ref xm, .ref wh, .ref st, .ref xb, .ref xc])), (xa, .inl (cI, 12, .inl (ax))), (xt, .inl (cI, 12, .inl (te))), (xm, .inl (cI, 12, .inl (seF me i j))), (xb, .inl (cF, 7, .inr (.inr (.inr (.inr (b1_7))))))] ++ va_pl LP1_8 (fe v1_9)) H1 := hP.part [0, 1, 2, 3, 4] rfl
  generalize H1 = H at hP hS ⊢
  have hP : va_P (dC, dI) vwCl ([(g, .inr (iX2, [.int (nI n), .ref xa, .ref xt, .ref xm, .ref wh, .ref st, .ref xb, .ref xc])), (xa, .inl (cI, 12, .inl (ax))), (xt, .inl (cI, 12, .inl (te))), (xm, .inl (cI, 12, .inl (seF me i j))), (xb, .inl (cF, 7, .inr (.inr (.inr (.inr (b1_7))))))] ++ va_pl LP1_8 (fe v1_9)) H := hP
  have hD : va_D A ([(g, .inr (iX2, [.int (nI n), .ref xa, .ref xt, .ref xm, .ref wh, .ref st, .ref xb, .ref xc])), (xa, .inl (cI, 12, .inl (ax))), (xt, .inl (cI, 12, .inl (te))), (xm, .inl (cI, 12, .inl (seF me i j))), (xb, .inl (cF, 7, .inr (.inr (.inr (.inr (b1_7))))))] ++ va_pl LP1_8 (fe v1_9)) := hD
  try dsimp only at hw_r_6
  refine W.widen (k := 1008) (n := 2016) (by omega) (by omega) ?_
  exact W.vret hx hb hr (fun t ht hW => ⟨⟨(b1_7, LP1_8, v1_9), rfl, hw_r_6, by rw [ht]; exact hP, hAe ▸ hD⟩, hS.F ht⟩) hS.2.2 dX2_separate_47

set_option maxHeartbeats 4000000 in
set_option maxRecDepth 100000 in
theorem c_X2_wouldJam (l : Launch) (dC : Nat → ClassId) (dI : Nat → Nat → Nat) (cI cF : ClassId) (tr : List (ClassId × FieldType)) (sz : Nat) (g : Nat) (n : Nat) (xa : Nat) (xt : Nat) (xm : Nat) (wh : Nat) (st : Nat) (xb : Nat) (xc : Nat) (ax : Nat → Int32) (te : Nat → Int32) (me : Nat → Int32) (ba : Nat → Option Nat) (LP : List Nat) (v : Nat → Int64 × Int64) (i : Int32) (j : Int32) (hbk : bOK LP ba) (hn : n ≤ 12) (hwh : wh ∈ LP) : Met l yX2_wouldJam wsX2_wouldJam ({ frames := 5, cells := 1009, slots := 2018, locals := 131 } : Room) (cPd dC dI ((cI, .int) :: (cF, .object RX1) :: tr) sz ([(g, .inr (iX2, [.int (nI n), .ref xa, .ref xt, .ref xm, .ref wh, .ref st, .ref xb, .ref xc])), (xa, .inl (cI, 12, .inl (ax))), (xt, .inl (cI, 12, .inl (te))), (xm, .inl (cI, 12, .inl (me))), (xc, .inl (cF, 7, .inr (.inr (.inr (.inr (ba))))))] ++ va_pl LP (fe v)) [.ref g, .int i, .int j]) (va_Qi (fun (r : Int32) (u : (Nat → Option Nat) × List Nat × (Nat → Int64 × Int64)) => r = wjF ax te me n (v wh) i j ∧ bOK u.2.1 u.1 ∧ keepL LP u.2.1 v u.2.2) (fun ⟨b1, LP1, v1⟩ t => va_P (dC, dI) vwCl ([(g, .inr (iX2, [.int (nI n), .ref xa, .ref xt, .ref xm, .ref wh, .ref st, .ref xb, .ref xc])), (xa, .inl (cI, 12, .inl (ax))), (xt, .inl (cI, 12, .inl (te))), (xm, .inl (cI, 12, .inl (me))), (xc, .inl (cF, 7, .inr (.inr (.inr (.inr (b1))))))] ++ va_pl LP1 (fe v1)) t.heap ∧ va_D (va_A ([(g, .inr (iX2, [.int (nI n), .ref xa, .ref xt, .ref xm, .ref wh, .ref st, .ref xb, .ref xc])), (xa, .inl (cI, 12, .inl (ax))), (xt, .inl (cI, 12, .inl (te))), (xm, .inl (cI, 12, .inl (me))), (xc, .inl (cF, 7, .inr (.inr (.inr (.inr (ba))))))] ++ va_pl LP (fe v)) sz) ([(g, .inr (iX2, [.int (nI n), .ref xa, .ref xt, .ref xm, .ref wh, .ref st, .ref xb, .ref xc])), (xa, .inl (cI, 12, .inl (ax))), (xt, .inl (cI, 12, .inl (te))), (xm, .inl (cI, 12, .inl (me))), (xc, .inl (cF, 7, .inr (.inr (.inr (.inr (b1))))))] ++ va_pl LP1 (fe v1))) (va_A ([(g, .inr (iX2, [.int (nI n), .ref xa, .ref xt, .ref xm, .ref wh, .ref st, .ref xb, .ref xc])), (xa, .inl (cI, 12, .inl (ax))), (xt, .inl (cI, 12, .inl (te))), (xm, .inl (cI, 12, .inl (me))), (xc, .inl (cF, 7, .inr (.inr (.inr (.inr (ba))))))] ++ va_pl LP (fe v)) sz)) 1009 2018 (va_A ([(g, .inr (iX2, [.int (nI n), .ref xa, .ref xt, .ref xm, .ref wh, .ref st, .ref xb, .ref xc])), (xa, .inl (cI, 12, .inl (ax))), (xt, .inl (cI, 12, .inl (te))), (xm, .inl (cI, 12, .inl (me))), (xc, .inl (cF, 7, .inr (.inr (.inr (.inr (ba))))))] ++ va_pl LP (fe v)) sz) := by
  refine Met.ofW (cc := cX2_wouldJam) (maxL := 4) (ret := (some .boolean)) (by decide) rfl ?_
  intro p e s m args below meth c s₁ B hml hv
  obtain ⟨rfl, hsz, hP, hK, hN, hD0⟩ := hv
  have hx := B.exec
  have hb := B.bytes
  have hr := B.returns
  have hts := atoms_spec (ws := wsX2_wouldJam) B.pre
  have hown : s.vm.findClass RX2 = some m.cls := findClass_of_methodNamed B.named
  have hlocks := B.notSynchronized
  subst hsz
  have hD := hD0.self (sz := s.heap.size)
  generalize hAe : va_A ([(g, .inr (iX2, [.int (nI n), .ref xa, .ref xt, .ref xm, .ref wh, .ref st, .ref xb, .ref xc])), (xa, .inl (cI, 12, .inl (ax))), (xt, .inl (cI, 12, .inl (te))), (xm, .inl (cI, 12, .inl (me))), (xc, .inl (cF, 7, .inr (.inr (.inr (.inr (ba))))))] ++ va_pl LP (fe v)) s.heap.size = A at hD ⊢
  have hA : ∀ q : Nat, s.heap.size ≤ q → A q := fun q h => by rw [← hAe]; exact Or.inr h
  have hS : va_S A s.heap s.heap [] := va_S.rf
  have hP : va_P (dC, dI) vwCl ([(g, .inr (iX2, [.int (nI n), .ref xa, .ref xt, .ref xm, .ref wh, .ref st, .ref xb, .ref xc])), (xa, .inl (cI, 12, .inl (ax))), (xt, .inl (cI, 12, .inl (te))), (xm, .inl (cI, 12, .inl (me))), (xc, .inl (cF, 7, .inr (.inr (.inr (.inr (ba))))))] ++ va_pl LP (fe v)) s.heap := hP
  have hl := lv_entry ([.ref g, .int i, .int j]) (n := 4) (Nat.le_of_ble_eq_true rfl)
  rw [lg_entry_eq]
  generalize (lg_sl ([.ref g, .int i, .int j]) ++ List.replicate (4 - (lg_sl ([.ref g, .int i, .int j])).length) Slot.unset).toArray = ls at hl ⊢
  have hl : lv_has ls 4 [(0, .ref g), (1, .int i), (2, .int j)] := hl
  have hfl_37 := hts (.fieldLink RX2 37 "Greenwheels$Gearing" "byAnother" "[LGreenwheels$Fraction;") (by decide +kernel)
  have hin_X2 : ∀ w ∈ u_ws RX2 TX2 8, w ∈ wsX2_wouldJam := by decide +kernel
  have hin_X1 : ∀ w ∈ u_ws RX1 TX1 2, w ∈ wsX2_wouldJam := by decide +kernel
  have hw_cl21 := hts (.classLink RX2 21 RX1) (by decide +kernel)
  have hw_insX1 := hts (.instantiable RX1 2) (by decide +kernel)
  have hw_iniX1 := hts (.initialized RX1) (by decide +kernel)
  have hw_ml23 := hts (.methodLink RX2 23 yX1_init) (by decide +kernel)
  have hw_imX1_init := hts (.instanceMethod yX1_init) (by decide +kernel)
  refine lv_aload_n hx hb dX2_wouldJam_0 rfl (lv_at hl 0 rfl) ?_
  refine lv_aload_n hx hb dX2_wouldJam_1 rfl (lv_at hl 0 rfl) ?_
  refine lv_iload_n hx hb dX2_wouldJam_2 rfl (lv_at hl 1 rfl) ?_
  have hPc : va_P (dC, dI) vwCl ([(g, .inr (iX2, [.int (nI n), .ref xa, .ref xt, .ref xm, .ref wh, .ref st, .ref xb, .ref xc])), (xa, .inl (cI, 12, .inl (ax)))]) _ := hP.sub [0, 1] rfl
  have hFc := frZ hS hA
  refine va_calli (va_runV (As := [.int i]) (rest := [.ref g]) ⟨hx, hb, hml, hown, hts⟩ (c_X2_axleOf l dC dI cI cF tr (s.heap).size g n xa xt xm wh st xb xc ax i) (cwV 1 hts gX2_wouldJam_X2_axleOf rfl rfl rfl (by decide +kernel) ⟨Nat.le_of_ble_eq_true rfl, Nat.le_of_ble_eq_true rfl⟩) ⟨cBl, (va_recv hK hPc (ci := iX2) (q0 := 0) rfl rfl), (cPre hPc hK hN)⟩ rfl rfl hl.1 rfl (lv_room (Nat.le_of_ble_eq_true rfl)) dX2_wouldJam_3 ⟨(Nat.le_of_ble_eq_true rfl), (Nat.le_of_ble_eq_true rfl)⟩) hS (fun q _ h => hFc q h) hFc (fun r_1 u t H1 locs ht hvm hw_r_1 hB hz1 hk1 hS => ?_)
  refine W.widen (k := 0) (n := 0) (Nat.le_refl _) (Nat.le_refl _) ?_
  have hP := keepP hP hk1
  generalize H1 = H at hP hS ⊢
  have hP : va_P (dC, dI) vwCl ([(g, .inr (iX2, [.int (nI n), .ref xa, .ref xt, .ref xm, .ref wh, .ref st, .ref xb, .ref xc])), (xa, .inl (cI, 12, .inl (ax))), (xt, .inl (cI, 12, .inl (te))), (xm, .inl (cI, 12, .inl (me))), (xc, .inl (cF, 7, .inr (.inr (.inr (.inr (ba))))))] ++ va_pl LP (fe v)) H := hP
  try dsimp only at hw_r_1
  subst hw_r_1
  refine lv_aload_n hx hb dX2_wouldJam_6 rfl (lv_at hl 0 rfl) ?_
  refine va_get (D := (dC, dI)) (ci := iX2) (v := .ref xc) (C := RX2) (T := TX2) (N := 8) hx hb hts hin_X2 hown hK hP 0 rfl rfl 7 (by decide) hfl_37 (fun _ h9 => h9) rfl dX2_wouldJam_7 ?_
  have hPc : va_P (dC, dI) vwCl ([(g, .inr (iX2, [.int (nI n), .ref xa, .ref xt, .ref xm, .ref wh, .ref st, .ref xb, .ref xc])), (xa, .inl (cI, 12, .inl (ax))), (xt, .inl (cI, 12, .inl (te))), (xm, .inl (cI, 12, .inl (me))), (xc, .inl (cF, 7, .inr (.inr (.inr (.inr (ba))))))] ++ va_pl LP (fe v)) _ := hP.part [0, 1, 2, 3, 4] rfl
  have hDc : va_D (fun _ => True) ([(g, .inr (iX2, [.int (nI n), .ref xa, .ref xt, .ref xm, .ref wh, .ref st, .ref xb, .ref xc])), (xa, .inl (cI, 12, .inl (ax))), (xt, .inl (cI, 12, .inl (te))), (xm, .inl (cI, 12, .inl (me))), (xc, .inl (cF, 7, .inr (.inr (.inr (.inr (ba))))))] ++ va_pl LP (fe v)) := (hD.part (cx := [(g, .inr (iX2, [.int (nI n), .ref xa, .ref xt, .ref xm, .ref wh, .ref st, .ref xb, .ref xc])), (xa, .inl (cI, 12, .inl (ax))), (xt, .inl (cI, 12, .inl (te))), (xm, .inl (cI, 12, .inl (me))), (xc, .inl (cF, 7, .inr (.inr (.inr (.inr (ba))))))]) [0, 1, 2, 3, 4] (by decide) rfl).weaken (fun _ _ _ _ => trivial)
  have hFc := va_freeP (cx := [(g, .inr (iX2, [.int (nI n), .ref xa, .ref xt, .ref xm, .ref wh, .ref st, .ref xb, .ref xc])), (xa, .inl (cI, 12, .inl (ax))), (xt, .inl (cI, 12, .inl (te))), (xm, .inl (cI, 12, .inl (me))), (xc, .inl (cF, 7, .inr (.inr (.inr (.inr (ba))))))]) hD hS hA [0, 1, 2, 3, 4] rfl
  refine va_callv (va_runV (As := [.int (atF 12 ax i), .ref xc]) (rest := []) ⟨hx, hb, hml, hown, hts⟩ (c_X2_spreadRates l dC dI cI cF tr (H).size g n xa xt xm wh st xb xc ax te me xc ba LP v (atF 12 ax i) (by assumption) (by assumption) (by assumption)) (cwV 2 hts gX2_wouldJam_X2_spreadRates rfl rfl rfl (by decide +kernel) ⟨Nat.le_of_ble_eq_true rfl, Nat.le_of_ble_eq_true rfl⟩) ⟨cDbl, (va_recv hK hPc (ci := iX2) (q0 := 0) rfl rfl), (cDpre hPc hK hN hDc)⟩ rfl rfl hl.1 rfl (lv_room (Nat.le_of_ble_eq_true rfl)) dX2_wouldJam_10 ⟨(Nat.le_of_ble_eq_true rfl), (Nat.le_of_ble_eq_true rfl)⟩) hS (fun q _ h => hFc q h) hFc (fun u t H1 locs ht hvm hw_r_2 hB hz1 hk1 hS => ?_)
  refine W.widen (k := 1008) (n := 2016) (by omega) (by omega) ?_
  obtain ⟨hP1, hD1⟩ := hB
  rw [ht] at hP1
  obtain ⟨b1_3, LP1_4, v1_5⟩ := u
  obtain ⟨hP, hD⟩ := va_joinP (wr := []) (rx := [(g, .inr (iX2, [.int (nI n), .ref xa, .ref xt, .ref xm, .ref wh, .ref st, .ref xb, .ref xc])), (xa, .inl (cI, 12, .inl (ax))), (xt, .inl (cI, 12, .inl (te))), (xm, .inl (cI, 12, .inl (me))), (xc, .inl (cF, 7, .inr (.inr (.inr (.inr (b1_3))))))]) (pl1 := va_pl LP1_4 (fe v1_5)) hP hD [0, 1, 2, 3, 4] [] rfl rfl (by decide) (by decide) hk1 hFc hP1 hD1
  have hD := hD.part (cx := [(g, .inr (iX2, [.int (nI n), .ref xa, .ref xt, .ref xm, .ref wh, .ref st, .ref xb, .ref xc])), (xa, .inl (cI, 12, .inl (ax))), (xt, .inl (cI, 12, .inl (te))), (xm, .inl (cI, 12, .inl (me))), (xc, .inl (cF, 7, .inr (.inr (.inr (.inr (b1_3))))))]) [0, 1, 2, 3, 4] (by decide) rfl
  have hP : va_P (dC, dI) vwCl ([(g, .inr (iX2, [.int (nI n), .ref xa, .ref xt, .ref xm, .ref wh, .ref st, .ref xb, .ref xc])), (xa, .inl (cI, 12, .inl (ax))), (xt, .inl (cI, 12, .inl (te))), (xm, .inl (cI, 12, .inl (me))), (xc, .inl (cF, 7, .inr (.inr (.inr (.inr (b1_3))))))] ++ va_pl LP1_4 (fe v1_5)) H1 := hP.part [0, 1, 2, 3, 4] rfl
  generalize H1 = H at hP hS ⊢
  have hP : va_P (dC, dI) vwCl ([(g, .inr (iX2, [.int (nI n), .ref xa, .ref xt, .ref xm, .ref wh, .ref st, .ref xb, .ref xc])), (xa, .inl (cI, 12, .inl (ax))), (xt, .inl (cI, 12, .inl (te))), (xm, .inl (cI, 12, .inl (me))), (xc, .inl (cF, 7, .inr (.inr (.inr (.inr (b1_3))))))] ++ va_pl LP1_4 (fe v1_5)) H := hP
  have hD : va_D A ([(g, .inr (iX2, [.int (nI n), .ref xa, .ref xt, .ref xm, .ref wh, .ref st, .ref xb, .ref xc])), (xa, .inl (cI, 12, .inl (ax))), (xt, .inl (cI, 12, .inl (te))), (xm, .inl (cI, 12, .inl (me))), (xc, .inl (cF, 7, .inr (.inr (.inr (.inr (b1_3))))))] ++ va_pl LP1_4 (fe v1_5)) := hD
  try dsimp only at hw_r_2
  obtain ⟨hq1, hq2, hq3⟩ := hw_r_2
  refine lv_aload_n hx hb dX2_wouldJam_13 rfl (lv_at hl 0 rfl) ?_
  refine va_get (D := (dC, dI)) (ci := iX2) (v := .ref xc) (C := RX2) (T := TX2) (N := 8) hx hb hts hin_X2 hown hK hP 0 rfl rfl 7 (by decide) hfl_37 (fun _ h9 => h9) rfl dX2_wouldJam_14 ?_
  refine lv_aload_n hx hb dX2_wouldJam_17 rfl (lv_at hl 0 rfl) ?_
  refine lv_iload_n hx hb dX2_wouldJam_18 rfl (lv_at hl 2 rfl) ?_
  have hPc : va_P (dC, dI) vwCl ([(g, .inr (iX2, [.int (nI n), .ref xa, .ref xt, .ref xm, .ref wh, .ref st, .ref xb, .ref xc])), (xa, .inl (cI, 12, .inl (ax)))]) _ := hP.sub [0, 1] rfl
  have hFc := frZ hS hA
  refine va_calli (va_runV (As := [.int j]) (rest := [.ref xc]) ⟨hx, hb, hml, hown, hts⟩ (c_X2_axleOf l dC dI cI cF tr (H).size g n xa xt xm wh st xb xc ax j) (cwV 1 hts gX2_wouldJam_X2_axleOf rfl rfl rfl (by decide +kernel) ⟨Nat.le_of_ble_eq_true rfl, Nat.le_of_ble_eq_true rfl⟩) ⟨cBl, (va_recv hK hPc (ci := iX2) (q0 := 0) rfl rfl), (cPre hPc hK hN)⟩ rfl rfl hl.1 rfl (lv_room (Nat.le_of_ble_eq_true rfl)) dX2_wouldJam_19 ⟨(Nat.le_of_ble_eq_true rfl), (Nat.le_of_ble_eq_true rfl)⟩) hS (fun q _ h => hFc q h) hFc (fun r_6 u t H1 locs ht hvm hw_r_6 hB hz1 hk1 hS => ?_)
  refine W.widen (k := 1008) (n := 2016) (Nat.le_refl _) (Nat.le_refl _) ?_
  have hP := keepP hP hk1
  generalize H1 = H at hP hS ⊢
  have hP : va_P (dC, dI) vwCl ([(g, .inr (iX2, [.int (nI n), .ref xa, .ref xt, .ref xm, .ref wh, .ref st, .ref xb, .ref xc])), (xa, .inl (cI, 12, .inl (ax))), (xt, .inl (cI, 12, .inl (te))), (xm, .inl (cI, 12, .inl (me))), (xc, .inl (cF, 7, .inr (.inr (.inr (.inr (b1_3))))))] ++ va_pl LP1_4 (fe v1_5)) H := hP
  try dsimp only at hw_r_6
  subst hw_r_6
  have hPc : va_P (dC, dI) vwCl ([(xc, .inl (cF, 7, .inr (.inr (.inr (.inr (b1_3))))))]) _ := hP.sub [4] rfl
  have hFc := frZ hS hA
  refine va_callq (va_runS (As := [.ref xc, .int (atF 12 ax j)]) (rest := []) ⟨hx, hb, hml, hown, hts⟩ (c_X2_rateIn l dC dI cI cF tr (H).size xc b1_3 (atF 12 ax j)) (va_cwS 2 hts gX2_wouldJam_X2_rateIn rfl rfl rfl (by decide +kernel) ⟨Nat.le_of_ble_eq_true rfl, Nat.le_of_ble_eq_true rfl⟩) ⟨cBl, (cPre hPc hK hN)⟩ rfl rfl hl.1 rfl (lv_room (Nat.le_of_ble_eq_true rfl)) dX2_wouldJam_22 ⟨(Nat.le_of_ble_eq_true rfl), (Nat.le_of_ble_eq_true rfl)⟩) hS (fun q _ h => hFc q h) hFc (fun r_7 u t H1 locs ht hvm hw_r_7 hB hz1 hk1 hS => ?_)
  refine W.widen (k := 1008) (n := 2016) (Nat.le_refl _) (Nat.le_refl _) ?_
  have hP := keepP hP hk1
  generalize H1 = H at hP hS ⊢
  have hP : va_P (dC, dI) vwCl ([(g, .inr (iX2, [.int (nI n), .ref xa, .ref xt, .ref xm, .ref wh, .ref st, .ref xb, .ref xc])), (xa, .inl (cI, 12, .inl (ax))), (xt, .inl (cI, 12, .inl (te))), (xm, .inl (cI, 12, .inl (me))), (xc, .inl (cF, 7, .inr (.inr (.inr (.inr (b1_3))))))] ++ va_pl LP1_4 (fe v1_5)) H := hP
  try dsimp only at hw_r_7
  subst hw_r_7
  rcases hq_9 : rinF 7 b1_3 (atF 12 ax j) with _ | a_8
  · refine W.eq (g2 := F0 m 25 ls [.null]) rfl ?_
    refine lv_astore_nN (lv' := [(3, .null), (0, .ref g), (1, .int i), (2, .int j)]) hx hb dX2_wouldJam_25 rfl hl (by decide) rfl (fun ls hl => ?_)
    refine lv_aload_nN hx hb dX2_wouldJam_26 rfl (lv_at hl 0 rfl) ?_
    refine lv_ifnullN (tgt := 61) hx hb dX2_wouldJam_27 (by decide) ?_
    refine lv_iconst (v := 0) hx hb dX2_wouldJam_61 (by decide) ?_
    refine W.widen (k := 1009) (n := 2018) (by omega) (by omega) ?_
    exact W.zret (v := 0) hx hb hr (by first | rfl | simp [narrow] | assumption) (fun t ht hW => ⟨⟨0, (b1_3, LP1_4, v1_5), rfl, ⟨(by rw [wjF, ← hq3, rin_none hq_9]; simp), hq1, hq2⟩, by rw [ht]; exact hP, hAe ▸ hD⟩, hS.F ht⟩) hS.2.2 dX2_wouldJam_62
  · refine W.eq (g2 := F0 m 25 ls [.ref a_8]) rfl ?_
    refine lv_astore_n (lv' := [(3, .ref a_8), (0, .ref g), (1, .int i), (2, .int j)]) hx hb dX2_wouldJam_25 rfl hl (by decide) rfl (fun ls hl => ?_)
    refine lv_aload_n hx hb dX2_wouldJam_26 rfl (lv_at hl 0 rfl) ?_
    refine lv_ifnull hx hb dX2_wouldJam_27 ?_
    refine lv_aload_n hx hb dX2_wouldJam_30 rfl (lv_at hl 0 rfl) ?_
    refine va_new (D := (dC, dI)) (ci := iX1) (fs := [.long 0, .long 0]) (C := RX1) (T := TX1) (N := 2) hx hb hts hin_X1 tyX1 tyX1_ok hown hw_cl21 hw_insX1 hw_iniX1 hK hP hD hS hA rfl (fun j hj => by rcases (show j = 0 ∨ j = 1 by omega) with rfl | rfl <;> rfl) (Nat.le_of_ble_eq_true rfl) (Nat.le_of_ble_eq_true rfl) dX2_wouldJam_31 (fun q_10 H hP hD hS => ?_)
    have hP := va_P.swap hP
    have hD := va_D.swap hD
    have hP : va_P (dC, dI) vwCl ([(g, .inr (iX2, [.int (nI n), .ref xa, .ref xt, .ref xm, .ref wh, .ref st, .ref xb, .ref xc])), (xa, .inl (cI, 12, .inl (ax))), (xt, .inl (cI, 12, .inl (te))), (xm, .inl (cI, 12, .inl (me))), (xc, .inl (cF, 7, .inr (.inr (.inr (.inr (b1_3)))))), (q_10, .inr (iX1, [.long 0, .long 0]))] ++ va_pl LP1_4 (fe v1_5)) H := hP
    have hD : va_D A ([(g, .inr (iX2, [.int (nI n), .ref xa, .ref xt, .ref xm, .ref wh, .ref st, .ref xb, .ref xc])), (xa, .inl (cI, 12, .inl (ax))), (xt, .inl (cI, 12, .inl (te))), (xm, .inl (cI, 12, .inl (me))), (xc, .inl (cF, 7, .inr (.inr (.inr (.inr (b1_3)))))), (q_10, .inr (iX1, [.long 0, .long 0]))] ++ va_pl LP1_4 (fe v1_5)) := hD
    refine lv_dup hx hb dX2_wouldJam_34 rfl ?_
    refine lv_aload_n hx hb dX2_wouldJam_35 rfl (lv_at hl 1 rfl) ?_
    refine lv_iload_n hx hb dX2_wouldJam_36 rfl (lv_at hl 2 rfl) ?_
    have hPc : va_P (dC, dI) vwCl ([(g, .inr (iX2, [.int (nI n), .ref xa, .ref xt, .ref xm, .ref wh, .ref st, .ref xb, .ref xc])), (xt, .inl (cI, 12, .inl (te)))]) _ := hP.sub [0, 2] rfl
    have hFc := frZ hS hA
    refine va_calli (va_runV (As := [.int i]) (rest := [.ref q_10, .ref q_10, .ref a_8]) ⟨hx, hb, hml, hown, hts⟩ (c_X2_teethOf l dC dI cI cF tr (H).size g n xa xt xm wh st xb xc te i) (cwV 1 hts gX2_wouldJam_X2_teethOf rfl rfl rfl (by decide +kernel) ⟨Nat.le_of_ble_eq_true rfl, Nat.le_of_ble_eq_true rfl⟩) ⟨cBl, (va_recv hK hPc (ci := iX2) (q0 := 0) rfl rfl), (cPre hPc hK hN)⟩ rfl rfl hl.1 rfl (lv_room (Nat.le_of_ble_eq_true rfl)) dX2_wouldJam_37 ⟨(Nat.le_of_ble_eq_true rfl), (Nat.le_of_ble_eq_true rfl)⟩) hS (fun q _ h => hFc q h) hFc (fun r_11 u t H1 locs ht hvm hw_r_11 hB hz1 hk1 hS => ?_)
    refine W.widen (k := 1009) (n := 2018) (Nat.le_refl _) (Nat.le_refl _) ?_
    have hP := keepP hP hk1
    generalize H1 = H at hP hS ⊢
    have hP : va_P (dC, dI) vwCl ([(g, .inr (iX2, [.int (nI n), .ref xa, .ref xt, .ref xm, .ref wh, .ref st, .ref xb, .ref xc])), (xa, .inl (cI, 12, .inl (ax))), (xt, .inl (cI, 12, .inl (te))), (xm, .inl (cI, 12, .inl (me))), (xc, .inl (cF, 7, .inr (.inr (.inr (.inr (b1_3)))))), (q_10, .inr (iX1, [.long 0, .long 0]))] ++ va_pl LP1_4 (fe v1_5)) H := hP
    try dsimp only at hw_r_11
    subst hw_r_11
    refine lv_ineg hx hb dX2_wouldJam_40 ?_
    refine lv_i2l hx hb dX2_wouldJam_41 rfl ?_
    refine lv_aload_n hx hb dX2_wouldJam_42 rfl (lv_at hl 1 rfl) ?_
    refine lv_iload_n hx hb dX2_wouldJam_43 rfl (lv_at hl 3 rfl) ?_
    have hPc : va_P (dC, dI) vwCl ([(g, .inr (iX2, [.int (nI n), .ref xa, .ref xt, .ref xm, .ref wh, .ref st, .ref xb, .ref xc])), (xt, .inl (cI, 12, .inl (te)))]) _ := hP.sub [0, 2] rfl
    have hFc := frZ hS hA
    refine va_calli (va_runV (As := [.int j]) (rest := [.long ((-(atF 12 te i)).toInt64), .ref q_10, .ref q_10, .ref a_8]) ⟨hx, hb, hml, hown, hts⟩ (c_X2_teethOf l dC dI cI cF tr (H).size g n xa xt xm wh st xb xc te j) (cwV 1 hts gX2_wouldJam_X2_teethOf rfl rfl rfl (by decide +kernel) ⟨Nat.le_of_ble_eq_true rfl, Nat.le_of_ble_eq_true rfl⟩) ⟨cBl, (va_recv hK hPc (ci := iX2) (q0 := 0) rfl rfl), (cPre hPc hK hN)⟩ rfl rfl hl.1 rfl (lv_room (Nat.le_of_ble_eq_true rfl)) dX2_wouldJam_44 ⟨(Nat.le_of_ble_eq_true rfl), (Nat.le_of_ble_eq_true rfl)⟩) hS (fun q _ h => hFc q h) hFc (fun r_12 u t H1 locs ht hvm hw_r_12 hB hz1 hk1 hS => ?_)
    refine W.widen (k := 1009) (n := 2018) (Nat.le_refl _) (Nat.le_refl _) ?_
    have hP := keepP hP hk1
    generalize H1 = H at hP hS ⊢
    have hP : va_P (dC, dI) vwCl ([(g, .inr (iX2, [.int (nI n), .ref xa, .ref xt, .ref xm, .ref wh, .ref st, .ref xb, .ref xc])), (xa, .inl (cI, 12, .inl (ax))), (xt, .inl (cI, 12, .inl (te))), (xm, .inl (cI, 12, .inl (me))), (xc, .inl (cF, 7, .inr (.inr (.inr (.inr (b1_3)))))), (q_10, .inr (iX1, [.long 0, .long 0]))] ++ va_pl LP1_4 (fe v1_5)) H := hP
    try dsimp only at hw_r_12
    subst hw_r_12
    refine lv_i2l hx hb dX2_wouldJam_47 rfl ?_
    have hPc : va_P (dC, dI) vwCl ([(q_10, .inr (iX1, [.long 0, .long 0]))]) _ := hP.sub [5] rfl
    have hDc : va_D (fun _ => True) ([(q_10, .inr (iX1, [.long 0, .long 0]))]) := (hD.sub (ws' := [(q_10, .inr (iX1, [.long 0, .long 0]))]) [5] (by decide) rfl).weaken (fun _ _ _ _ => trivial)
    have hFc := va_free (wc := [(q_10, .inr (iX1, [.long 0, .long 0]))]) hD hS hA [5] rfl
    refine va_callv (va_runI (As := [.long ((-(atF 12 te i)).toInt64), .long ((atF 12 te j).toInt64)]) (rest := [.ref q_10, .ref a_8]) ⟨hx, hb, hml, hown, hts⟩ (c_X1_init l dC dI cI cF tr (H).size q_10 0 0 ((-(atF 12 te i)).toInt64) ((atF 12 te j).toInt64)) (cwI 2 hts gX2_wouldJam_X1_init rfl rfl rfl hw_iniX1 hw_ml23 hw_imX1_init rfl (by decide +kernel) ⟨Nat.le_of_ble_eq_true rfl, Nat.le_of_ble_eq_true rfl⟩) ⟨cDbl, (cDpre hPc hK hN hDc)⟩ rfl rfl hl.1 rfl (lv_room (Nat.le_of_ble_eq_true rfl)) dX2_wouldJam_48 ⟨(Nat.le_of_ble_eq_true rfl), (Nat.le_of_ble_eq_true rfl)⟩) hS (fun q _ h => hFc q h) hFc (fun u t H1 locs ht hvm hw_r_13 hB hz1 hk1 hS => ?_)
    refine W.widen (k := 1009) (n := 2018) (Nat.le_refl _) (Nat.le_refl _) ?_
    obtain ⟨hP1, hD1⟩ := hB
    rw [ht] at hP1
    obtain ⟨hP, hD⟩ := va_joinQ (wr := [(g, .inr (iX2, [.int (nI n), .ref xa, .ref xt, .ref xm, .ref wh, .ref st, .ref xb, .ref xc])), (xa, .inl (cI, 12, .inl (ax))), (xt, .inl (cI, 12, .inl (te))), (xm, .inl (cI, 12, .inl (me))), (xc, .inl (cF, 7, .inr (.inr (.inr (.inr (b1_3))))))]) (w1 := [(q_10, .inr (iX1, [.long (frU ((-(atF 12 te i)).toInt64) ((atF 12 te j).toInt64)), .long (frL ((-(atF 12 te i)).toInt64) ((atF 12 te j).toInt64))]))]) hP hD [5] [0, 1, 2, 3, 4] rfl rfl (by decide) (by decide) hk1 hFc hP1 hD1
    have hD := hD.part (cx := [(g, .inr (iX2, [.int (nI n), .ref xa, .ref xt, .ref xm, .ref wh, .ref st, .ref xb, .ref xc])), (xa, .inl (cI, 12, .inl (ax))), (xt, .inl (cI, 12, .inl (te))), (xm, .inl (cI, 12, .inl (me))), (xc, .inl (cF, 7, .inr (.inr (.inr (.inr (b1_3)))))), (q_10, .inr (iX1, [.long (frU ((-(atF 12 te i)).toInt64) ((atF 12 te j).toInt64)), .long (frL ((-(atF 12 te i)).toInt64) ((atF 12 te j).toInt64))]))]) [0, 1, 2, 3, 4, 5] (by decide) rfl
    have hP : va_P (dC, dI) vwCl ([(g, .inr (iX2, [.int (nI n), .ref xa, .ref xt, .ref xm, .ref wh, .ref st, .ref xb, .ref xc])), (xa, .inl (cI, 12, .inl (ax))), (xt, .inl (cI, 12, .inl (te))), (xm, .inl (cI, 12, .inl (me))), (xc, .inl (cF, 7, .inr (.inr (.inr (.inr (b1_3)))))), (q_10, .inr (iX1, [.long (frU ((-(atF 12 te i)).toInt64) ((atF 12 te j).toInt64)), .long (frL ((-(atF 12 te i)).toInt64) ((atF 12 te j).toInt64))]))] ++ va_pl LP1_4 (fe v1_5)) H1 := hP.part [0, 1, 2, 3, 4, 5] rfl
    generalize H1 = H at hP hS ⊢
    have hP : va_P (dC, dI) vwCl ([(g, .inr (iX2, [.int (nI n), .ref xa, .ref xt, .ref xm, .ref wh, .ref st, .ref xb, .ref xc])), (xa, .inl (cI, 12, .inl (ax))), (xt, .inl (cI, 12, .inl (te))), (xm, .inl (cI, 12, .inl (me))), (xc, .inl (cF, 7, .inr (.inr (.inr (.inr (b1_3)))))), (q_10, .inr (iX1, [.long (frU ((-(atF 12 te i)).toInt64) ((atF 12 te j).toInt64)), .long (frL ((-(atF 12 te i)).toInt64) ((atF 12 te j).toInt64))]))] ++ va_pl LP1_4 (fe v1_5)) H := hP
    have hD : va_D A ([(g, .inr (iX2, [.int (nI n), .ref xa, .ref xt, .ref xm, .ref wh, .ref st, .ref xb, .ref xc])), (xa, .inl (cI, 12, .inl (ax))), (xt, .inl (cI, 12, .inl (te))), (xm, .inl (cI, 12, .inl (me))), (xc, .inl (cF, 7, .inr (.inr (.inr (.inr (b1_3)))))), (q_10, .inr (iX1, [.long (frU ((-(atF 12 te i)).toInt64) ((atF 12 te j).toInt64)), .long (frL ((-(atF 12 te i)).toInt64) ((atF 12 te j).toInt64))]))] ++ va_pl LP1_4 (fe v1_5)) := hD
    try dsimp only at hw_r_13
    have hPc : va_P (dC, dI) vwCl ([(a_8, .inr (iX1, [.long ((v1_5 a_8).1), .long ((v1_5 a_8).2)])), (q_10, .inr (iX1, [.long (frU ((-(atF 12 te i)).toInt64) ((atF 12 te j).toInt64)), .long (frL ((-(atF 12 te i)).toInt64) ((atF 12 te j).toInt64))]))]) _ := ((poolP hP (rinF_memA hq1 hq_9)).app (hP.sub (ws' := [(q_10, .inr (iX1, [.long (frU ((-(atF 12 te i)).toInt64) ((atF 12 te j).toInt64)), .long (frL ((-(atF 12 te i)).toInt64) ((atF 12 te j).toInt64))]))]) [5] rfl))
    have hFc := frZ hS hA
    refine va_calli (va_runV (As := [.ref q_10]) (rest := []) ⟨hx, hb, hml, hown, hts⟩ (c_X1_isSameAs l dC dI cI cF tr (H).size a_8 ((v1_5 a_8).1) ((v1_5 a_8).2) q_10 (frU ((-(atF 12 te i)).toInt64) ((atF 12 te j).toInt64)) (frL ((-(atF 12 te i)).toInt64) ((atF 12 te j).toInt64))) (cwV 1 hts gX2_wouldJam_X1_isSameAs rfl rfl rfl (by decide +kernel) ⟨Nat.le_of_ble_eq_true rfl, Nat.le_of_ble_eq_true rfl⟩) ⟨cBl, (va_recv hK hPc (ci := iX1) (q0 := 0) rfl rfl), (cPre hPc hK hN)⟩ rfl rfl hl.1 rfl (lv_room (Nat.le_of_ble_eq_true rfl)) dX2_wouldJam_51 ⟨(Nat.le_of_ble_eq_true rfl), (Nat.le_of_ble_eq_true rfl)⟩) hS (fun q _ h => hFc q h) hFc (fun r_14 u t H1 locs ht hvm hw_r_14 hB hz1 hk1 hS => ?_)
    refine W.widen (k := 1009) (n := 2018) (Nat.le_refl _) (Nat.le_refl _) ?_
    have hP := keepP hP hk1
    generalize H1 = H at hP hS ⊢
    have hP : va_P (dC, dI) vwCl ([(g, .inr (iX2, [.int (nI n), .ref xa, .ref xt, .ref xm, .ref wh, .ref st, .ref xb, .ref xc])), (xa, .inl (cI, 12, .inl (ax))), (xt, .inl (cI, 12, .inl (te))), (xm, .inl (cI, 12, .inl (me))), (xc, .inl (cF, 7, .inr (.inr (.inr (.inr (b1_3)))))), (q_10, .inr (iX1, [.long (frU ((-(atF 12 te i)).toInt64) ((atF 12 te j).toInt64)), .long (frL ((-(atF 12 te i)).toInt64) ((atF 12 te j).toInt64))]))] ++ va_pl LP1_4 (fe v1_5)) H := hP
    try dsimp only at hw_r_14
    subst hw_r_14
    refine lv_if_ne (tgt := 61) hx hb dX2_wouldJam_54 (by decide) (fun c_15 => ?_) (fun c_15 => ?_)
    · refine lv_iconst (v := 0) hx hb dX2_wouldJam_61 (by decide) ?_
      refine W.widen (k := 1009) (n := 2018) (by omega) (by omega) ?_
      have hD := hD.part (cx := [(g, .inr (iX2, [.int (nI n), .ref xa, .ref xt, .ref xm, .ref wh, .ref st, .ref xb, .ref xc])), (xa, .inl (cI, 12, .inl (ax))), (xt, .inl (cI, 12, .inl (te))), (xm, .inl (cI, 12, .inl (me))), (xc, .inl (cF, 7, .inr (.inr (.inr (.inr (b1_3))))))]) [0, 1, 2, 3, 4] (by decide) rfl
      have hP : va_P (dC, dI) vwCl ([(g, .inr (iX2, [.int (nI n), .ref xa, .ref xt, .ref xm, .ref wh, .ref st, .ref xb, .ref xc])), (xa, .inl (cI, 12, .inl (ax))), (xt, .inl (cI, 12, .inl (te))), (xm, .inl (cI, 12, .inl (me))), (xc, .inl (cF, 7, .inr (.inr (.inr (.inr (b1_3))))))] ++ va_pl LP1_4 (fe v1_5)) _ := hP.part [0, 1, 2, 3, 4] rfl
      exact W.zret (v := 0) hx hb hr (by first | rfl | simp [narrow] | assumption) (fun t ht hW => ⟨⟨0, (b1_3, LP1_4, v1_5), rfl, ⟨(by rw [wjF, ← hq3, rin_some hq_9]; have c9 := c_15; simp at c9 ⊢; exact c9), hq1, hq2⟩, by rw [ht]; exact hP, hAe ▸ hD⟩, hS.F ht⟩) hS.2.2 dX2_wouldJam_62
    · refine lv_iconst (v := 1) hx hb dX2_wouldJam_57 (by decide) ?_
      refine lv_goto (tgt := 62) hx hb dX2_wouldJam_58 (by decide) ?_
      refine W.widen (k := 1009) (n := 2018) (by omega) (by omega) ?_
      have hD := hD.part (cx := [(g, .inr (iX2, [.int (nI n), .ref xa, .ref xt, .ref xm, .ref wh, .ref st, .ref xb, .ref xc])), (xa, .inl (cI, 12, .inl (ax))), (xt, .inl (cI, 12, .inl (te))), (xm, .inl (cI, 12, .inl (me))), (xc, .inl (cF, 7, .inr (.inr (.inr (.inr (b1_3))))))]) [0, 1, 2, 3, 4] (by decide) rfl
      have hP : va_P (dC, dI) vwCl ([(g, .inr (iX2, [.int (nI n), .ref xa, .ref xt, .ref xm, .ref wh, .ref st, .ref xb, .ref xc])), (xa, .inl (cI, 12, .inl (ax))), (xt, .inl (cI, 12, .inl (te))), (xm, .inl (cI, 12, .inl (me))), (xc, .inl (cF, 7, .inr (.inr (.inr (.inr (b1_3))))))] ++ va_pl LP1_4 (fe v1_5)) _ := hP.part [0, 1, 2, 3, 4] rfl
      exact W.zret (v := 1) hx hb hr (by first | rfl | simp [narrow] | assumption) (fun t ht hW => ⟨⟨1, (b1_3, LP1_4, v1_5), rfl, ⟨(by rw [wjF, ← hq3, rin_some hq_9]; have c9 := c_15; simp at c9 ⊢; exact c9), hq1, hq2⟩, by rw [ht]; exact hP, hAe ▸ hD⟩, hS.F ht⟩) hS.2.2 dX2_wouldJam_62

def fW : Int64 × Int64 := (frU 1 1, frL 1 1)
def fZ : Int64 × Int64 := (frU 0 1, frL 0 1)
def zI : Nat → Int32 := fun _ => 0
def nQ : Nat → Option Nat := fun _ => none
theorem bOK_nQ {LP : List Nat} : bOK LP nQ := ⟨fun k a h => by simp [nQ] at h, fun _ _ => rfl⟩
/-- two fractions of their own become a pool -/
theorem poolE {a b : Nat} {p q : Int64 × Int64} (h : b ≠ a) : ([(a, .inr (iX1, [.long p.1, .long p.2])), (b, .inr (iX1, [.long q.1, .long q.2]))] : va_W) = va_pl [a, b] (fe (va_up (fun _ => q) a p)) := by
  simp [va_pl, fe, va_up, h]

set_option maxHeartbeats 4000000 in
set_option maxRecDepth 100000 in
theorem c_X2_init (l : Launch) (dC : Nat → ClassId) (dI : Nat → Nat → Nat) (cI cF : ClassId) (tr : List (ClassId × FieldType)) (sz : Nat) (g : Nat) : Met l yX2_init wsX2_init ({ frames := 5, cells := 1015, slots := 2070, locals := 131 } : Room) (cPd dC dI ((cI, .int) :: (cF, .object RX1) :: tr) sz ([(g, .inr (iX2, [.int 0, .null, .null, .null, .null, .null, .null, .null]))]) [.ref g]) (va_Qv (fun u : Nat × Nat × Nat × Nat × Nat × Nat × Nat × (Nat → Option Nat) × List Nat × (Nat → Int64 × Int64) => u.2.2.2.1 ∈ u.2.2.2.2.2.2.2.2.1 ∧ u.2.2.2.2.1 ∈ u.2.2.2.2.2.2.2.2.1 ∧ u.2.2.2.2.2.2.2.2.2 u.2.2.2.1 = fW ∧ u.2.2.2.2.2.2.2.2.2 u.2.2.2.2.1 = fZ ∧ bOK u.2.2.2.2.2.2.2.2.1 u.2.2.2.2.2.2.2.1 ∧ abR u.2.2.2.2.2.2.2.1 u.2.2.2.2.2.2.2.2.2 = sprF zI zI zI 0 0 fW) (fun ⟨xa, xt, xm, wh, st, xb, xc, b1, LP1, v1⟩ t => va_P (dC, dI) vwCl ([(g, .inr (iX2, [.int 0, .ref xa, .ref xt, .ref xm, .ref wh, .ref st, .ref xb, .ref xc])), (xa, .inl (cI, 12, .inl (zI))), (xt, .inl (cI, 12, .inl (zI))), (xm, .inl (cI, 12, .inl (zI))), (xb, .inl (cF, 7, .inr (.inr (.inr (.inr (b1)))))), (xc, .inl (cF, 7, .inr (.inr (.inr (.inr (nQ))))))] ++ va_pl LP1 (fe v1)) t.heap ∧ va_D (va_A ([(g, .inr (iX2, [.int 0, .null, .null, .null, .null, .null, .null, .null]))]) sz) ([(g, .inr (iX2, [.int 0, .ref xa, .ref xt, .ref xm, .ref wh, .ref st, .ref xb, .ref xc])), (xa, .inl (cI, 12, .inl (zI))), (xt, .inl (cI, 12, .inl (zI))), (xm, .inl (cI, 12, .inl (zI))), (xb, .inl (cF, 7, .inr (.inr (.inr (.inr (b1)))))), (xc, .inl (cF, 7, .inr (.inr (.inr (.inr (nQ))))))] ++ va_pl LP1 (fe v1))) (va_A ([(g, .inr (iX2, [.int 0, .null, .null, .null, .null, .null, .null, .null]))]) sz)) 1015 2070 (va_A ([(g, .inr (iX2, [.int 0, .null, .null, .null, .null, .null, .null, .null]))]) sz) := by
  refine Met.ofW (cc := cX2_init) (maxL := 1) (ret := none) (by decide) rfl ?_
  intro p e s m args below meth c s₁ B hml hv
  obtain ⟨rfl, hsz, hP, hK, hN, hD0⟩ := hv
  have hx := B.exec
  have hb := B.bytes
  have hr := B.returns
  have hts := atoms_spec (ws := wsX2_init) B.pre
  have hown : s.vm.findClass RX2 = some m.cls := findClass_of_methodNamed B.named
  have hlocks := B.notSynchronized
  have hin : meth.name = "<init>" := (name_of_methodNamed B.named B.method).1
  subst hsz
  have hD := hD0.self (sz := s.heap.size)
  generalize hAe : va_A ([(g, .inr (iX2, [.int 0, .null, .null, .null, .null, .null, .null, .null]))]) s.heap.size = A at hD ⊢
  have hA : ∀ q : Nat, s.heap.size ≤ q → A q := fun q h => by rw [← hAe]; exact Or.inr h
  have hS : va_S A s.heap s.heap [] := va_S.rf
  have hP : va_P (dC, dI) vwCl ([(g, .inr (iX2, [.int 0, .null, .null, .null, .null, .null, .null, .null]))]) s.heap := hP
  have hl := lv_entry ([.ref g]) (n := 1) (Nat.le_of_ble_eq_true rfl)
  rw [lg_entry_eq]
  generalize (lg_sl ([.ref g]) ++ List.replicate (1 - (lg_sl ([.ref g])).length) Slot.unset).toArray = ls at hl ⊢
  have hl : lv_has ls 1 [(0, .ref g)] := hl
  have hw_oi_l := hts (.methodLink RX2 3 objectInit) (by decide +kernel)
  have hw_oi_i := hts (.instanceMethod objectInit) (by decide +kernel)
  have hw_oi_c := hts (.code objectInit ⟨#[0xb1]⟩ 1 none) (by decide +kernel)
  have hw_arr_int := hts (.arrayClass (newarray.typeOf .int)) (by decide +kernel)
  have hfl_9 := hts (.fieldLink RX2 9 "Greenwheels$Gearing" "axles" "[I") (by decide +kernel)
  have hin_X2 : ∀ w ∈ u_ws RX2 TX2 8, w ∈ wsX2_init := by decide +kernel
  have hfl_15 := hts (.fieldLink RX2 15 "Greenwheels$Gearing" "teeth" "[I") (by decide +kernel)
  have hfl_18 := hts (.fieldLink RX2 18 "Greenwheels$Gearing" "meshSets" "[I") (by decide +kernel)
  have hin_X1 : ∀ w ∈ u_ws RX1 TX1 2, w ∈ wsX2_init := by decide +kernel
  have hw_cl21 := hts (.classLink RX2 21 RX1) (by decide +kernel)
  have hw_insX1 := hts (.instantiable RX1 2) (by decide +kernel)
  have hw_iniX1 := hts (.initialized RX1) (by decide +kernel)
  have hw_ml23 := hts (.methodLink RX2 23 yX1_init) (by decide +kernel)
  have hw_imX1_init := hts (.instanceMethod yX1_init) (by decide +kernel)
  have hfl_26 := hts (.fieldLink RX2 26 "Greenwheels$Gearing" "whole" "LGreenwheels$Fraction;") (by decide +kernel)
  have hfl_30 := hts (.fieldLink RX2 30 "Greenwheels$Gearing" "still" "LGreenwheels$Fraction;") (by decide +kernel)
  have hfl_33 := hts (.fieldLink RX2 33 "Greenwheels$Gearing" "byCrank" "[LGreenwheels$Fraction;") (by decide +kernel)
  have hfl_37 := hts (.fieldLink RX2 37 "Greenwheels$Gearing" "byAnother" "[LGreenwheels$Fraction;") (by decide +kernel)
  refine lv_aload_n hx hb dX2_init_0 rfl (lv_at hl 0 rfl) ?_
  refine W.objInit hx hb hown hw_oi_l hw_oi_i hw_oi_c rfl (by rw [hml]; exact hl.1) rfl dX2_init_1 (Nat.le_of_ble_eq_true rfl) (Nat.le_of_ble_eq_true rfl) ?_
  refine W.eq (g2 := F0 m 4 ls []) rfl ?_
  refine lv_aload_n hx hb dX2_init_4 rfl (lv_at hl 0 rfl) ?_
  refine lv_bipush (v := 12) hx hb dX2_init_5 (by decide) ?_
  refine va_newa (D := (dC, dI)) (atype := .int) (ty := .int) (N' := 12) (a0 := (12, .inl (fun _ => 0))) hx hb hw_arr_int rfl hK hP hD hS hA (fun _ => rfl) (by decide) (by decide) (by decide) (Nat.le_of_ble_eq_true rfl) (Nat.le_of_ble_eq_true rfl) dX2_init_7 (fun q_1 cN H hKn hP hD hS => ?_)
  obtain rfl : cI = cN := (tyEq hKn hK 0 rfl).symm
  have hP : va_P (dC, dI) vwCl ([(g, .inr (iX2, [.int 0, .null, .null, .null, .null, .null, .null, .null])), (q_1, .inl (cI, 12, .inl (fun _ => 0)))]) H := hP
  have hD : va_D A ([(g, .inr (iX2, [.int 0, .null, .null, .null, .null, .null, .null, .null])), (q_1, .inl (cI, 12, .inl (fun _ => 0)))]) := hD
  refine va_putF (D := (dC, dI)) (ci := iX2) (v := .ref q_1) (ty := (.array .int)) (C := RX2) (T := TX2) (N := 8) hx hb hts hin_X2 tyX2 tyX2_ok nmX2 hown hK hP hD hS 0 rfl rfl 1 (by decide) hfl_9 (fun _ h9 => h9) rfl hin rfl (by decide +kernel) rfl rfl (Nat.le_of_ble_eq_true rfl) dX2_init_9 (fun H locs hP hD hS => ?_)
  have hP : va_P (dC, dI) vwCl ([(g, .inr (iX2, [.int 0, .ref q_1, .null, .null, .null, .null, .null, .null])), (q_1, .inl (cI, 12, .inl (fun _ => 0)))]) H := hP
  have hD : va_D A ([(g, .inr (iX2, [.int 0, .ref q_1, .null, .null, .null, .null, .null, .null])), (q_1, .inl (cI, 12, .inl (fun _ => 0)))]) := hD
  refine lv_aload_n hx hb dX2_init_12 rfl (lv_at hl 0 rfl) ?_
  refine lv_bipush (v := 12) hx hb dX2_init_13 (by decide) ?_
  refine va_newa (D := (dC, dI)) (atype := .int) (ty := .int) (N' := 12) (a0 := (12, .inl (fun _ => 0))) hx hb hw_arr_int rfl hK hP hD hS hA (fun _ => rfl) (by decide) (by decide) (by decide) (Nat.le_of_ble_eq_true rfl) (Nat.le_of_ble_eq_true rfl) dX2_init_15 (fun q_2 cN H hKn hP hD hS => ?_)
  obtain rfl : cI = cN := (tyEq hKn hK 0 rfl).symm
  have hP : va_P (dC, dI) vwCl ([(g, .inr (iX2, [.int 0, .ref q_1, .null, .null, .null, .null, .null, .null])), (q_1, .inl (cI, 12, .inl (fun _ => 0))), (q_2, .inl (cI, 12, .inl (fun _ => 0)))]) H := hP
  have hD : va_D A ([(g, .inr (iX2, [.int 0, .ref q_1, .null, .null, .null, .null, .null, .null])), (q_1, .inl (cI, 12, .inl (fun _ => 0))), (q_2, .inl (cI, 12, .inl (fun _ => 0)))]) := hD
  refine va_putF (D := (dC, dI)) (ci := iX2) (v := .ref q_2) (ty := (.array .int)) (C := RX2) (T := TX2) (N := 8) hx hb hts hin_X2 tyX2 tyX2_ok nmX2 hown hK hP hD hS 0 rfl rfl 2 (by decide) hfl_15 (fun _ h9 => h9) rfl hin rfl (by decide +kernel) rfl rfl (Nat.le_of_ble_eq_true rfl) dX2_init_17 (fun H locs hP hD hS => ?_)
  have hP : va_P (dC, dI) vwCl ([(g, .inr (iX2, [.int 0, .ref q_1, .ref q_2, .null, .null, .null, .null, .null])), (q_1, .inl (cI, 12, .inl (fun _ => 0))), (q_2, .inl (cI, 12, .inl (fun _ => 0)))]) H := hP
  have hD : va_D A ([(g, .inr (iX2, [.int 0, .ref q_1, .ref q_2, .null, .null, .null, .null, .null])), (q_1, .inl (cI, 12, .inl (fun _ => 0))), (q_2, .inl (cI, 12, .inl (fun _ => 0)))]) := hD
  refine lv_aload_n hx hb dX2_init_20 rfl (lv_at hl 0 rfl) ?_
  refine lv_bipush (v := 12) hx hb dX2_init_21 (by decide) ?_
  refine va_newa (D := (dC, dI)) (atype := .int) (ty := .int) (N' := 12) (a0 := (12, .inl (fun _ => 0))) hx hb hw_arr_int rfl hK hP hD hS hA (fun _ => rfl) (by decide) (by decide) (by decide) (Nat.le_of_ble_eq_true rfl) (Nat.le_of_ble_eq_true rfl) dX2_init_23 (fun q_3 cN H hKn hP hD hS => ?_)
  obtain rfl : cI = cN := (tyEq hKn hK 0 rfl).symm
  have hP : va_P (dC, dI) vwCl ([(g, .inr (iX2, [.int 0, .ref q_1, .ref q_2, .null, .null, .null, .null, .null])), (q_1, .inl (cI, 12, .inl (fun _ => 0))), (q_2, .inl (cI, 12, .inl (fun _ => 0))), (q_3, .inl (cI, 12, .inl (fun _ => 0)))]) H := hP
  have hD : va_D A ([(g, .inr (iX2, [.int 0, .ref q_1, .ref q_2, .null, .null, .null, .null, .null])), (q_1, .inl (cI, 12, .inl (fun _ => 0))), (q_2, .inl (cI, 12, .inl (fun _ => 0))), (q_3, .inl (cI, 12, .inl (fun _ => 0)))]) := hD
  refine va_putF (D := (dC, dI)) (ci := iX2) (v := .ref q_3) (ty := (.array .int)) (C := RX2) (T := TX2) (N := 8) hx hb hts hin_X2 tyX2 tyX2_ok nmX2 hown hK hP hD hS 0 rfl rfl 3 (by decide) hfl_18 (fun _ h9 => h9) rfl hin rfl (by decide +kernel) rfl rfl (Nat.le_of_ble_eq_true rfl) dX2_init_25 (fun H locs hP hD hS => ?_)
  have hP : va_P (dC, dI) vwCl ([(g, .inr (iX2, [.int 0, .ref q_1, .ref q_2, .ref q_3, .null, .null, .null, .null])), (q_1, .inl (cI, 12, .inl (fun _ => 0))), (q_2, .inl (cI, 12, .inl (fun _ => 0))), (q_3, .inl (cI, 12, .inl (fun _ => 0)))]) H := hP
  have hD : va_D A ([(g, .inr (iX2, [.int 0, .ref q_1, .ref q_2, .ref q_3, .null, .null, .null, .null])), (q_1, .inl (cI, 12, .inl (fun _ => 0))), (q_2, .inl (cI, 12, .inl (fun _ => 0))), (q_3, .inl (cI, 12, .inl (fun _ => 0)))]) := hD
  refine lv_aload_n hx hb dX2_init_28 rfl (lv_at hl 0 rfl) ?_
  refine va_new (D := (dC, dI)) (ci := iX1) (fs := [.long 0, .long 0]) (C := RX1) (T := TX1) (N := 2) hx hb hts hin_X1 tyX1 tyX1_ok hown hw_cl21 hw_insX1 hw_iniX1 hK hP hD hS hA rfl (fun j hj => by rcases (show j = 0 ∨ j = 1 by omega) with rfl | rfl <;> rfl) (Nat.le_of_ble_eq_true rfl) (Nat.le_of_ble_eq_true rfl) dX2_init_29 (fun q_4 H hP hD hS => ?_)
  have hP : va_P (dC, dI) vwCl ([(g, .inr (iX2, [.int 0, .ref q_1, .ref q_2, .ref q_3, .null, .null, .null, .null])), (q_1, .inl (cI, 12, .inl (fun _ => 0))), (q_2, .inl (cI, 12, .inl (fun _ => 0))), (q_3, .inl (cI, 12, .inl (fun _ => 0))), (q_4, .inr (iX1, [.long 0, .long 0]))]) H := hP
  have hD : va_D A ([(g, .inr (iX2, [.int 0, .ref q_1, .ref q_2, .ref q_3, .null, .null, .null, .null])), (q_1, .inl (cI, 12, .inl (fun _ => 0))), (q_2, .inl (cI, 12, .inl (fun _ => 0))), (q_3, .inl (cI, 12, .inl (fun _ => 0))), (q_4, .inr (iX1, [.long 0, .long 0]))]) := hD
  refine lv_dup hx hb dX2_init_32 rfl ?_
  refine lv_lconst (v := 1) hx hb dX2_init_33 (by decide) ?_
  refine lv_lconst (v := 1) hx hb dX2_init_34 (by decide) ?_
  have hPc : va_P (dC, dI) vwCl ([(q_4, .inr (iX1, [.long 0, .long 0]))]) _ := hP.sub [4] rfl
  have hDc : va_D (fun _ => True) ([(q_4, .inr (iX1, [.long 0, .long 0]))]) := (hD.sub (ws' := [(q_4, .inr (iX1, [.long 0, .long 0]))]) [4] (by decide) rfl).weaken (fun _ _ _ _ => trivial)
  have hFc := va_free (wc := [(q_4, .inr (iX1, [.long 0, .long 0]))]) hD hS hA [4] rfl
  refine va_callv (va_runI (As := [.long 1, .long 1]) (rest := [.ref q_4, .ref g]) ⟨hx, hb, hml, hown, hts⟩ (c_X1_init l dC dI cI cF tr (H).size q_4 0 0 1 1) (cwI 2 hts gX2_init_X1_init rfl rfl rfl hw_iniX1 hw_ml23 hw_imX1_init rfl (by decide +kernel) ⟨Nat.le_of_ble_eq_true rfl, Nat.le_of_ble_eq_true rfl⟩) ⟨cDbl, (cDpre hPc hK hN hDc)⟩ rfl rfl hl.1 rfl (lv_room (Nat.le_of_ble_eq_true rfl)) dX2_init_35 ⟨(Nat.le_of_ble_eq_true rfl), (Nat.le_of_ble_eq_true rfl)⟩) hS (fun q _ h => hFc q h) hFc (fun u t H1 locs ht hvm hw_r_5 hB hz1 hk1 hS => ?_)
  refine W.widen (k := 4) (n := 38) (Nat.le_refl _) (Nat.le_refl _) ?_
  obtain ⟨hP1, hD1⟩ := hB
  rw [ht] at hP1
  obtain ⟨hP, hD⟩ := va_join (wr := [(g, .inr (iX2, [.int 0, .ref q_1, .ref q_2, .ref q_3, .null, .null, .null, .null])), (q_1, .inl (cI, 12, .inl (fun _ => 0))), (q_2, .inl (cI, 12, .inl (fun _ => 0))), (q_3, .inl (cI, 12, .inl (fun _ => 0)))]) (w1 := [(q_4, .inr (iX1, [.long (frU 1 1), .long (frL 1 1)]))]) hP hD [4] [0, 1, 2, 3] rfl rfl (by decide) (by decide) hk1 hFc hP1 hD1
  have hD := hD.sub (ws' := [(g, .inr (iX2, [.int 0, .ref q_1, .ref q_2, .ref q_3, .null, .null, .null, .null])), (q_1, .inl (cI, 12, .inl (fun _ => 0))), (q_2, .inl (cI, 12, .inl (fun _ => 0))), (q_3, .inl (cI, 12, .inl (fun _ => 0))), (q_4, .inr (iX1, [.long (frU 1 1), .long (frL 1 1)]))]) [0, 1, 2, 3, 4] (by decide) rfl
  have hP : va_P (dC, dI) vwCl ([(g, .inr (iX2, [.int 0, .ref q_1, .ref q_2, .ref q_3, .null, .null, .null, .null])), (q_1, .inl (cI, 12, .inl (fun _ => 0))), (q_2, .inl (cI, 12, .inl (fun _ => 0))), (q_3, .inl (cI, 12, .inl (fun _ => 0))), (q_4, .inr (iX1, [.long (frU 1 1), .long (frL 1 1)]))]) H1 := hP.sub [0, 1, 2, 3, 4] rfl
  generalize H1 = H at hP hS ⊢
  have hP : va_P (dC, dI) vwCl ([(g, .inr (iX2, [.int 0, .ref q_1, .ref q_2, .ref q_3, .null, .null, .null, .null])), (q_1, .inl (cI, 12, .inl (fun _ => 0))), (q_2, .inl (cI, 12, .inl (fun _ => 0))), (q_3, .inl (cI, 12, .inl (fun _ => 0))), (q_4, .inr (iX1, [.long (frU 1 1), .long (frL 1 1)]))]) H := hP
  have hD : va_D A ([(g, .inr (iX2, [.int 0, .ref q_1, .ref q_2, .ref q_3, .null, .null, .null, .null])), (q_1, .inl (cI, 12, .inl (fun _ => 0))), (q_2, .inl (cI, 12, .inl (fun _ => 0))), (q_3, .inl (cI, 12, .inl (fun _ => 0))), (q_4, .inr (iX1, [.long (frU 1 1), .long (frL 1 1)]))]) := hD
  try dsimp only at hw_r_5
  refine va_putF (D := (dC, dI)) (ci := iX2) (v := .ref q_4) (ty := (.object "Greenwheels$Fraction")) (C := RX2) (T := TX2) (N := 8) hx hb hts hin_X2 tyX2 tyX2_ok nmX2 hown hK hP hD hS 0 rfl rfl 4 (by decide) hfl_26 (fun _ h9 => h9) rfl hin rfl (by decide +kernel) rfl rfl (Nat.le_of_ble_eq_true rfl) dX2_init_38 (fun H locs hP hD hS => ?_)
  have hP : va_P (dC, dI) vwCl ([(g, .inr (iX2, [.int 0, .ref q_1, .ref q_2, .ref q_3, .ref q_4, .null, .null, .null])), (q_1, .inl (cI, 12, .inl (fun _ => 0))), (q_2, .inl (cI, 12, .inl (fun _ => 0))), (q_3, .inl (cI, 12, .inl (fun _ => 0))), (q_4, .inr (iX1, [.long (frU 1 1), .long (frL 1 1)]))]) H := hP
  have hD : va_D A ([(g, .inr (iX2, [.int 0, .ref q_1, .ref q_2, .ref q_3, .ref q_4, .null, .null, .null])), (q_1, .inl (cI, 12, .inl (fun _ => 0))), (q_2, .inl (cI, 12, .inl (fun _ => 0))), (q_3, .inl (cI, 12, .inl (fun _ => 0))), (q_4, .inr (iX1, [.long (frU 1 1), .long (frL 1 1)]))]) := hD
  refine lv_aload_n hx hb dX2_init_41 rfl (lv_at hl 0 rfl) ?_
  refine va_new (D := (dC, dI)) (ci := iX1) (fs := [.long 0, .long 0]) (C := RX1) (T := TX1) (N := 2) hx hb hts hin_X1 tyX1 tyX1_ok hown hw_cl21 hw_insX1 hw_iniX1 hK hP hD hS hA rfl (fun j hj => by rcases (show j = 0 ∨ j = 1 by omega) with rfl | rfl <;> rfl) (Nat.le_of_ble_eq_true rfl) (Nat.le_of_ble_eq_true rfl) dX2_init_42 (fun q_6 H hP hD hS => ?_)
  have hP : va_P (dC, dI) vwCl ([(g, .inr (iX2, [.int 0, .ref q_1, .ref q_2, .ref q_3, .ref q_4, .null, .null, .null])), (q_1, .inl (cI, 12, .inl (fun _ => 0))), (q_2, .inl (cI, 12, .inl (fun _ => 0))), (q_3, .inl (cI, 12, .inl (fun _ => 0))), (q_4, .inr (iX1, [.long (frU 1 1), .long (frL 1 1)])), (q_6, .inr (iX1, [.long 0, .long 0]))]) H := hP
  have hD : va_D A ([(g, .inr (iX2, [.int 0, .ref q_1, .ref q_2, .ref q_3, .ref q_4, .null, .null, .null])), (q_1, .inl (cI, 12, .inl (fun _ => 0))), (q_2, .inl (cI, 12, .inl (fun _ => 0))), (q_3, .inl (cI, 12, .inl (fun _ => 0))), (q_4, .inr (iX1, [.long (frU 1 1), .long (frL 1 1)])), (q_6, .inr (iX1, [.long 0, .long 0]))]) := hD
  refine lv_dup hx hb dX2_init_45 rfl ?_
  refine lv_lconst (v := 0) hx hb dX2_init_46 (by decide) ?_
  refine lv_lconst (v := 1) hx hb dX2_init_47 (by decide) ?_
  have hPc : va_P (dC, dI) vwCl ([(q_6, .inr (iX1, [.long 0, .long 0]))]) _ := hP.sub [5] rfl
  have hDc : va_D (fun _ => True) ([(q_6, .inr (iX1, [.long 0, .long 0]))]) := (hD.sub (ws' := [(q_6, .inr (iX1, [.long 0, .long 0]))]) [5] (by decide) rfl).weaken (fun _ _ _ _ => trivial)
  have hFc := va_free (wc := [(q_6, .inr (iX1, [.long 0, .long 0]))]) hD hS hA [5] rfl
  refine va_callv (va_runI (As := [.long 0, .long 1]) (rest := [.ref q_6, .ref g]) ⟨hx, hb, hml, hown, hts⟩ (c_X1_init l dC dI cI cF tr (H).size q_6 0 0 0 1) (cwI 2 hts gX2_init_X1_init rfl rfl rfl hw_iniX1 hw_ml23 hw_imX1_init rfl (by decide +kernel) ⟨Nat.le_of_ble_eq_true rfl, Nat.le_of_ble_eq_true rfl⟩) ⟨cDbl, (cDpre hPc hK hN hDc)⟩ rfl rfl hl.1 rfl (lv_room (Nat.le_of_ble_eq_true rfl)) dX2_init_48 ⟨(Nat.le_of_ble_eq_true rfl), (Nat.le_of_ble_eq_true rfl)⟩) hS (fun q _ h => hFc q h) hFc (fun u t H1 locs ht hvm hw_r_7 hB hz1 hk1 hS => ?_)
  refine W.widen (k := 5) (n := 40) (Nat.le_refl _) (Nat.le_refl _) ?_
  obtain ⟨hP1, hD1⟩ := hB
  rw [ht] at hP1
  obtain ⟨hP, hD⟩ := va_join (wr := [(g, .inr (iX2, [.int 0, .ref q_1, .ref q_2, .ref q_3, .ref q_4, .null, .null, .null])), (q_1, .inl (cI, 12, .inl (fun _ => 0))), (q_2, .inl (cI, 12, .inl (fun _ => 0))), (q_3, .inl (cI, 12, .inl (fun _ => 0))), (q_4, .inr (iX1, [.long (frU 1 1), .long (frL 1 1)]))]) (w1 := [(q_6, .inr (iX1, [.long (frU 0 1), .long (frL 0 1)]))]) hP hD [5] [0, 1, 2, 3, 4] rfl rfl (by decide) (by decide) hk1 hFc hP1 hD1
  have hD := hD.sub (ws' := [(g, .inr (iX2, [.int 0, .ref q_1, .ref q_2, .ref q_3, .ref q_4, .null, .null, .null])), (q_1, .inl (cI, 12, .inl (fun _ => 0))), (q_2, .inl (cI, 12, .inl (fun _ => 0))), (q_3, .inl (cI, 12, .inl (fun _ => 0))), (q_4, .inr (iX1, [.long (frU 1 1), .long (frL 1 1)])), (q_6, .inr (iX1, [.long (frU 0 1), .long (frL 0 1)]))]) [0, 1, 2, 3, 4, 5] (by decide) rfl
  have hP : va_P (dC, dI) vwCl ([(g, .inr (iX2, [.int 0, .ref q_1, .ref q_2, .ref q_3, .ref q_4, .null, .null, .null])), (q_1, .inl (cI, 12, .inl (fun _ => 0))), (q_2, .inl (cI, 12, .inl (fun _ => 0))), (q_3, .inl (cI, 12, .inl (fun _ => 0))), (q_4, .inr (iX1, [.long (frU 1 1), .long (frL 1 1)])), (q_6, .inr (iX1, [.long (frU 0 1), .long (frL 0 1)]))]) H1 := hP.sub [0, 1, 2, 3, 4, 5] rfl
  generalize H1 = H at hP hS ⊢
  have hP : va_P (dC, dI) vwCl ([(g, .inr (iX2, [.int 0, .ref q_1, .ref q_2, .ref q_3, .ref q_4, .null, .null, .null])), (q_1, .inl (cI, 12, .inl (fun _ => 0))), (q_2, .inl (cI, 12, .inl (fun _ => 0))), (q_3, .inl (cI, 12, .inl (fun _ => 0))), (q_4, .inr (iX1, [.long (frU 1 1), .long (frL 1 1)])), (q_6, .inr (iX1, [.long (frU 0 1), .long (frL 0 1)]))]) H := hP
  have hD : va_D A ([(g, .inr (iX2, [.int 0, .ref q_1, .ref q_2, .ref q_3, .ref q_4, .null, .null, .null])), (q_1, .inl (cI, 12, .inl (fun _ => 0))), (q_2, .inl (cI, 12, .inl (fun _ => 0))), (q_3, .inl (cI, 12, .inl (fun _ => 0))), (q_4, .inr (iX1, [.long (frU 1 1), .long (frL 1 1)])), (q_6, .inr (iX1, [.long (frU 0 1), .long (frL 0 1)]))]) := hD
  try dsimp only at hw_r_7
  refine va_putF (D := (dC, dI)) (ci := iX2) (v := .ref q_6) (ty := (.object "Greenwheels$Fraction")) (C := RX2) (T := TX2) (N := 8) hx hb hts hin_X2 tyX2 tyX2_ok nmX2 hown hK hP hD hS 0 rfl rfl 5 (by decide) hfl_30 (fun _ h9 => h9) rfl hin rfl (by decide +kernel) rfl rfl (Nat.le_of_ble_eq_true rfl) dX2_init_51 (fun H locs hP hD hS => ?_)
  have hP : va_P (dC, dI) vwCl ([(g, .inr (iX2, [.int 0, .ref q_1, .ref q_2, .ref q_3, .ref q_4, .ref q_6, .null, .null])), (q_1, .inl (cI, 12, .inl (fun _ => 0))), (q_2, .inl (cI, 12, .inl (fun _ => 0))), (q_3, .inl (cI, 12, .inl (fun _ => 0))), (q_4, .inr (iX1, [.long (frU 1 1), .long (frL 1 1)])), (q_6, .inr (iX1, [.long (frU 0 1), .long (frL 0 1)]))]) H := hP
  have hD : va_D A ([(g, .inr (iX2, [.int 0, .ref q_1, .ref q_2, .ref q_3, .ref q_4, .ref q_6, .null, .null])), (q_1, .inl (cI, 12, .inl (fun _ => 0))), (q_2, .inl (cI, 12, .inl (fun _ => 0))), (q_3, .inl (cI, 12, .inl (fun _ => 0))), (q_4, .inr (iX1, [.long (frU 1 1), .long (frL 1 1)])), (q_6, .inr (iX1, [.long (frU 0 1), .long (frL 0 1)]))]) := hD
  refine lv_aload_n hx hb dX2_init_54 rfl (lv_at hl 0 rfl) ?_
  refine lv_bipush (v := 7) hx hb dX2_init_55 (by decide) ?_
  refine va_newq (D := (dC, dI)) (C := RX1) (N' := 7) hx hb hown hw_cl21 (aoAt hN) hK hP hD hS hA (by decide) (by decide) (by decide) (Nat.le_of_ble_eq_true rfl) (Nat.le_of_ble_eq_true rfl) dX2_init_57 (fun q_8 cN H hKn hP hD hS => ?_)
  obtain rfl : cF = cN := (tyEq hKn hK 1 rfl).symm
  have hP : va_P (dC, dI) vwCl ([(g, .inr (iX2, [.int 0, .ref q_1, .ref q_2, .ref q_3, .ref q_4, .ref q_6, .null, .null])), (q_1, .inl (cI, 12, .inl (fun _ => 0))), (q_2, .inl (cI, 12, .inl (fun _ => 0))), (q_3, .inl (cI, 12, .inl (fun _ => 0))), (q_4, .inr (iX1, [.long (frU 1 1), .long (frL 1 1)])), (q_6, .inr (iX1, [.long (frU 0 1), .long (frL 0 1)])), (q_8, .inl (cF, 7, .inr (.inr (.inr (.inr (fun _ => none))))))]) H := hP
  have hD : va_D A ([(g, .inr (iX2, [.int 0, .ref q_1, .ref q_2, .ref q_3, .ref q_4, .ref q_6, .null, .null])), (q_1, .inl (cI, 12, .inl (fun _ => 0))), (q_2, .inl (cI, 12, .inl (fun _ => 0))), (q_3, .inl (cI, 12, .inl (fun _ => 0))), (q_4, .inr (iX1, [.long (frU 1 1), .long (frL 1 1)])), (q_6, .inr (iX1, [.long (frU 0 1), .long (frL 0 1)])), (q_8, .inl (cF, 7, .inr (.inr (.inr (.inr (fun _ => none))))))]) := hD
  refine va_putF (D := (dC, dI)) (ci := iX2) (v := .ref q_8) (ty := (.array (.object "Greenwheels$Fraction"))) (C := RX2) (T := TX2) (N := 8) hx hb hts hin_X2 tyX2 tyX2_ok nmX2 hown hK hP hD hS 0 rfl rfl 6 (by decide) hfl_33 (fun _ h9 => h9) rfl hin rfl (by decide +kernel) rfl rfl (Nat.le_of_ble_eq_true rfl) dX2_init_60 (fun H locs hP hD hS => ?_)
  have hP : va_P (dC, dI) vwCl ([(g, .inr (iX2, [.int 0, .ref q_1, .ref q_2, .ref q_3, .ref q_4, .ref q_6, .ref q_8, .null])), (q_1, .inl (cI, 12, .inl (fun _ => 0))), (q_2, .inl (cI, 12, .inl (fun _ => 0))), (q_3, .inl (cI, 12, .inl (fun _ => 0))), (q_4, .inr (iX1, [.long (frU 1 1), .long (frL 1 1)])), (q_6, .inr (iX1, [.long (frU 0 1), .long (frL 0 1)])), (q_8, .inl (cF, 7, .inr (.inr (.inr (.inr (fun _ => none))))))]) H := hP
  have hD : va_D A ([(g, .inr (iX2, [.int 0, .ref q_1, .ref q_2, .ref q_3, .ref q_4, .ref q_6, .ref q_8, .null])), (q_1, .inl (cI, 12, .inl (fun _ => 0))), (q_2, .inl (cI, 12, .inl (fun _ => 0))), (q_3, .inl (cI, 12, .inl (fun _ => 0))), (q_4, .inr (iX1, [.long (frU 1 1), .long (frL 1 1)])), (q_6, .inr (iX1, [.long (frU 0 1), .long (frL 0 1)])), (q_8, .inl (cF, 7, .inr (.inr (.inr (.inr (fun _ => none))))))]) := hD
  refine lv_aload_n hx hb dX2_init_63 rfl (lv_at hl 0 rfl) ?_
  refine lv_bipush (v := 7) hx hb dX2_init_64 (by decide) ?_
  refine va_newq (D := (dC, dI)) (C := RX1) (N' := 7) hx hb hown hw_cl21 (aoAt hN) hK hP hD hS hA (by decide) (by decide) (by decide) (Nat.le_of_ble_eq_true rfl) (Nat.le_of_ble_eq_true rfl) dX2_init_66 (fun q_9 cN H hKn hP hD hS => ?_)
  obtain rfl : cF = cN := (tyEq hKn hK 1 rfl).symm
  have hP : va_P (dC, dI) vwCl ([(g, .inr (iX2, [.int 0, .ref q_1, .ref q_2, .ref q_3, .ref q_4, .ref q_6, .ref q_8, .null])), (q_1, .inl (cI, 12, .inl (fun _ => 0))), (q_2, .inl (cI, 12, .inl (fun _ => 0))), (q_3, .inl (cI, 12, .inl (fun _ => 0))), (q_4, .inr (iX1, [.long (frU 1 1), .long (frL 1 1)])), (q_6, .inr (iX1, [.long (frU 0 1), .long (frL 0 1)])), (q_8, .inl (cF, 7, .inr (.inr (.inr (.inr (fun _ => none)))))), (q_9, .inl (cF, 7, .inr (.inr (.inr (.inr (fun _ => none))))))]) H := hP
  have hD : va_D A ([(g, .inr (iX2, [.int 0, .ref q_1, .ref q_2, .ref q_3, .ref q_4, .ref q_6, .ref q_8, .null])), (q_1, .inl (cI, 12, .inl (fun _ => 0))), (q_2, .inl (cI, 12, .inl (fun _ => 0))), (q_3, .inl (cI, 12, .inl (fun _ => 0))), (q_4, .inr (iX1, [.long (frU 1 1), .long (frL 1 1)])), (q_6, .inr (iX1, [.long (frU 0 1), .long (frL 0 1)])), (q_8, .inl (cF, 7, .inr (.inr (.inr (.inr (fun _ => none)))))), (q_9, .inl (cF, 7, .inr (.inr (.inr (.inr (fun _ => none))))))]) := hD
  refine va_putF (D := (dC, dI)) (ci := iX2) (v := .ref q_9) (ty := (.array (.object "Greenwheels$Fraction"))) (C := RX2) (T := TX2) (N := 8) hx hb hts hin_X2 tyX2 tyX2_ok nmX2 hown hK hP hD hS 0 rfl rfl 7 (by decide) hfl_37 (fun _ h9 => h9) rfl hin rfl (by decide +kernel) rfl rfl (Nat.le_of_ble_eq_true rfl) dX2_init_69 (fun H locs hP hD hS => ?_)
  have hP : va_P (dC, dI) vwCl ([(g, .inr (iX2, [.int 0, .ref q_1, .ref q_2, .ref q_3, .ref q_4, .ref q_6, .ref q_8, .ref q_9])), (q_1, .inl (cI, 12, .inl (fun _ => 0))), (q_2, .inl (cI, 12, .inl (fun _ => 0))), (q_3, .inl (cI, 12, .inl (fun _ => 0))), (q_4, .inr (iX1, [.long (frU 1 1), .long (frL 1 1)])), (q_6, .inr (iX1, [.long (frU 0 1), .long (frL 0 1)])), (q_8, .inl (cF, 7, .inr (.inr (.inr (.inr (fun _ => none)))))), (q_9, .inl (cF, 7, .inr (.inr (.inr (.inr (fun _ => none))))))]) H := hP
  have hD : va_D A ([(g, .inr (iX2, [.int 0, .ref q_1, .ref q_2, .ref q_3, .ref q_4, .ref q_6, .ref q_8, .ref q_9])), (q_1, .inl (cI, 12, .inl (fun _ => 0))), (q_2, .inl (cI, 12, .inl (fun _ => 0))), (q_3, .inl (cI, 12, .inl (fun _ => 0))), (q_4, .inr (iX1, [.long (frU 1 1), .long (frL 1 1)])), (q_6, .inr (iX1, [.long (frU 0 1), .long (frL 0 1)])), (q_8, .inl (cF, 7, .inr (.inr (.inr (.inr (fun _ => none)))))), (q_9, .inl (cF, 7, .inr (.inr (.inr (.inr (fun _ => none))))))]) := hD
  have hne : q_6 ≠ q_4 := fun z => absurd (hD.1 5 4 _ _ rfl rfl z) (by decide)
  have hD := hD.sub (ws' := [(g, .inr (iX2, [.int 0, .ref q_1, .ref q_2, .ref q_3, .ref q_4, .ref q_6, .ref q_8, .ref q_9])), (q_1, .inl (cI, 12, .inl (fun _ => 0))), (q_2, .inl (cI, 12, .inl (fun _ => 0))), (q_3, .inl (cI, 12, .inl (fun _ => 0))), (q_8, .inl (cF, 7, .inr (.inr (.inr (.inr (fun _ => none)))))), (q_9, .inl (cF, 7, .inr (.inr (.inr (.inr (fun _ => none))))))] ++ [(q_4, .inr (iX1, [.long (frU 1 1), .long (frL 1 1)])), (q_6, .inr (iX1, [.long (frU 0 1), .long (frL 0 1)]))]) [0, 1, 2, 3, 6, 7, 4, 5] (by decide) rfl
  have hP : va_P (dC, dI) vwCl ([(g, .inr (iX2, [.int 0, .ref q_1, .ref q_2, .ref q_3, .ref q_4, .ref q_6, .ref q_8, .ref q_9])), (q_1, .inl (cI, 12, .inl (fun _ => 0))), (q_2, .inl (cI, 12, .inl (fun _ => 0))), (q_3, .inl (cI, 12, .inl (fun _ => 0))), (q_8, .inl (cF, 7, .inr (.inr (.inr (.inr (fun _ => none)))))), (q_9, .inl (cF, 7, .inr (.inr (.inr (.inr (fun _ => none))))))] ++ [(q_4, .inr (iX1, [.long (frU 1 1), .long (frL 1 1)])), (q_6, .inr (iX1, [.long (frU 0 1), .long (frL 0 1)]))]) _ := hP.sub [0, 1, 2, 3, 6, 7, 4, 5] rfl
  rw [show ([(q_4, .inr (iX1, [.long (frU 1 1), .long (frL 1 1)])), (q_6, .inr (iX1, [.long (frU 0 1), .long (frL 0 1)]))] : va_W) = va_pl [q_4, q_6] (fe (va_up (fun _ => fZ) q_4 fW)) from poolE (p := fW) (q := fZ) hne] at hP hD
  have hG : ([(g, .inr (iX2, [.int 0, .ref q_1, .ref q_2, .ref q_3, .ref q_4, .ref q_6, .ref q_8, .ref q_9])), (q_1, .inl (cI, 12, .inl (fun _ => 0))), (q_2, .inl (cI, 12, .inl (fun _ => 0))), (q_3, .inl (cI, 12, .inl (fun _ => 0))), (q_8, .inl (cF, 7, .inr (.inr (.inr (.inr (fun _ => none)))))), (q_9, .inl (cF, 7, .inr (.inr (.inr (.inr (fun _ => none))))))] : va_W) = [(g, .inr (iX2, [.int 0, .ref q_1, .ref q_2, .ref q_3, .ref q_4, .ref q_6, .ref q_8, .ref q_9])), (q_1, .inl (cI, 12, .inl (zI))), (q_2, .inl (cI, 12, .inl (zI))), (q_3, .inl (cI, 12, .inl (zI))), (q_8, .inl (cF, 7, .inr (.inr (.inr (.inr (nQ)))))), (q_9, .inl (cF, 7, .inr (.inr (.inr (.inr (nQ))))))] := rfl
  rw [hG] at hP hD
  have hG0 : ([(g, .inr (iX2, [.int 0, .ref q_1, .ref q_2, .ref q_3, .ref q_4, .ref q_6, .ref q_8, .ref q_9]))] : va_W) = [(g, .inr (iX2, [.int (nI 0), .ref q_1, .ref q_2, .ref q_3, .ref q_4, .ref q_6, .ref q_8, .ref q_9]))] := rfl
  have hP : va_P (dC, dI) vwCl ([(g, .inr (iX2, [.int (nI 0), .ref q_1, .ref q_2, .ref q_3, .ref q_4, .ref q_6, .ref q_8, .ref q_9])), (q_1, .inl (cI, 12, .inl (zI))), (q_2, .inl (cI, 12, .inl (zI))), (q_3, .inl (cI, 12, .inl (zI))), (q_8, .inl (cF, 7, .inr (.inr (.inr (.inr (nQ)))))), (q_9, .inl (cF, 7, .inr (.inr (.inr (.inr (nQ))))))] ++ va_pl ([q_4, q_6]) (fe (va_up (fun _ => fZ) q_4 fW))) _ := hP
  have hD : va_D A ([(g, .inr (iX2, [.int (nI 0), .ref q_1, .ref q_2, .ref q_3, .ref q_4, .ref q_6, .ref q_8, .ref q_9])), (q_1, .inl (cI, 12, .inl (zI))), (q_2, .inl (cI, 12, .inl (zI))), (q_3, .inl (cI, 12, .inl (zI))), (q_8, .inl (cF, 7, .inr (.inr (.inr (.inr (nQ)))))), (q_9, .inl (cF, 7, .inr (.inr (.inr (.inr (nQ))))))] ++ va_pl ([q_4, q_6]) (fe (va_up (fun _ => fZ) q_4 fW))) := hD
  refine lv_aload_n hx hb dX2_init_72 rfl (lv_at hl 0 rfl) ?_
  refine lv_iconst (v := 0) hx hb dX2_init_73 (by decide) ?_
  refine lv_aload_n hx hb dX2_init_74 rfl (lv_at hl 0 rfl) ?_
  refine va_get (D := (dC, dI)) (ci := iX2) (v := .ref q_8) (C := RX2) (T := TX2) (N := 8) hx hb hts hin_X2 hown hK hP 0 rfl rfl 6 (by decide) hfl_33 (fun _ h9 => h9) rfl dX2_init_75 ?_
  have hPc : va_P (dC, dI) vwCl ([(g, .inr (iX2, [.int (nI 0), .ref q_1, .ref q_2, .ref q_3, .ref q_4, .ref q_6, .ref q_8, .ref q_9])), (q_1, .inl (cI, 12, .inl (zI))), (q_2, .inl (cI, 12, .inl (zI))), (q_3, .inl (cI, 12, .inl (zI))), (q_8, .inl (cF, 7, .inr (.inr (.inr (.inr (nQ))))))] ++ va_pl ([q_4, q_6]) (fe (va_up (fun _ => fZ) q_4 fW))) _ := hP.part [0, 1, 2, 3, 4] rfl
  have hDc : va_D (fun _ => True) ([(g, .inr (iX2, [.int (nI 0), .ref q_1, .ref q_2, .ref q_3, .ref q_4, .ref q_6, .ref q_8, .ref q_9])), (q_1, .inl (cI, 12, .inl (zI))), (q_2, .inl (cI, 12, .inl (zI))), (q_3, .inl (cI, 12, .inl (zI))), (q_8, .inl (cF, 7, .inr (.inr (.inr (.inr (nQ))))))] ++ va_pl ([q_4, q_6]) (fe (va_up (fun _ => fZ) q_4 fW))) := (hD.part (cx := [(g, .inr (iX2, [.int (nI 0), .ref q_1, .ref q_2, .ref q_3, .ref q_4, .ref q_6, .ref q_8, .ref q_9])), (q_1, .inl (cI, 12, .inl (zI))), (q_2, .inl (cI, 12, .inl (zI))), (q_3, .inl (cI, 12, .inl (zI))), (q_8, .inl (cF, 7, .inr (.inr (.inr (.inr (nQ))))))]) [0, 1, 2, 3, 4] (by decide) rfl).weaken (fun _ _ _ _ => trivial)
  have hFc := va_freeP (cx := [(g, .inr (iX2, [.int (nI 0), .ref q_1, .ref q_2, .ref q_3, .ref q_4, .ref q_6, .ref q_8, .ref q_9])), (q_1, .inl (cI, 12, .inl (zI))), (q_2, .inl (cI, 12, .inl (zI))), (q_3, .inl (cI, 12, .inl (zI))), (q_8, .inl (cF, 7, .inr (.inr (.inr (.inr (nQ))))))]) hD hS hA [0, 1, 2, 3, 4] rfl
  refine va_callv (va_runV (As := [.int 0, .ref q_8]) (rest := []) ⟨hx, hb, hml, hown, hts⟩ (c_X2_spreadRates l dC dI cI cF tr (H).size g 0 q_1 q_2 q_3 q_4 q_6 q_8 q_9 zI zI zI q_8 nQ ([q_4, q_6]) (va_up (fun _ => fZ) q_4 fW) 0 bOK_nQ (by decide) (by simp)) (cwV 2 hts gX2_init_X2_spreadRates rfl rfl rfl (by decide +kernel) ⟨Nat.le_of_ble_eq_true rfl, Nat.le_of_ble_eq_true rfl⟩) ⟨cDbl, (va_recv hK hPc (ci := iX2) (q0 := 0) rfl rfl), (cDpre hPc hK hN hDc)⟩ rfl rfl hl.1 rfl (lv_room (Nat.le_of_ble_eq_true rfl)) dX2_init_78 ⟨(Nat.le_of_ble_eq_true rfl), (Nat.le_of_ble_eq_true rfl)⟩) hS (fun q _ h => hFc q h) hFc (fun u t H1 locs ht hvm hw_r_10 hB hz1 hk1 hS => ?_)
  refine W.widen (k := 1015) (n := 2070) (by omega) (by omega) ?_
  obtain ⟨hP1, hD1⟩ := hB
  rw [ht] at hP1
  obtain ⟨b1_11, LP1_12, v1_13⟩ := u
  obtain ⟨hP, hD⟩ := va_joinP (wr := [(q_9, .inl (cF, 7, .inr (.inr (.inr (.inr (nQ))))))]) (rx := [(g, .inr (iX2, [.int (nI 0), .ref q_1, .ref q_2, .ref q_3, .ref q_4, .ref q_6, .ref q_8, .ref q_9])), (q_1, .inl (cI, 12, .inl (zI))), (q_2, .inl (cI, 12, .inl (zI))), (q_3, .inl (cI, 12, .inl (zI))), (q_8, .inl (cF, 7, .inr (.inr (.inr (.inr (b1_11))))))]) (pl1 := va_pl LP1_12 (fe v1_13)) hP hD [0, 1, 2, 3, 4] [5] rfl rfl (by decide) (by decide) hk1 hFc hP1 hD1
  have hD := hD.part (cx := [(g, .inr (iX2, [.int (nI 0), .ref q_1, .ref q_2, .ref q_3, .ref q_4, .ref q_6, .ref q_8, .ref q_9])), (q_1, .inl (cI, 12, .inl (zI))), (q_2, .inl (cI, 12, .inl (zI))), (q_3, .inl (cI, 12, .inl (zI))), (q_8, .inl (cF, 7, .inr (.inr (.inr (.inr (b1_11)))))), (q_9, .inl (cF, 7, .inr (.inr (.inr (.inr (nQ))))))]) [1, 2, 3, 4, 5, 0] (by decide) rfl
  have hP : va_P (dC, dI) vwCl ([(g, .inr (iX2, [.int (nI 0), .ref q_1, .ref q_2, .ref q_3, .ref q_4, .ref q_6, .ref q_8, .ref q_9])), (q_1, .inl (cI, 12, .inl (zI))), (q_2, .inl (cI, 12, .inl (zI))), (q_3, .inl (cI, 12, .inl (zI))), (q_8, .inl (cF, 7, .inr (.inr (.inr (.inr (b1_11)))))), (q_9, .inl (cF, 7, .inr (.inr (.inr (.inr (nQ))))))] ++ va_pl LP1_12 (fe v1_13)) H1 := hP.part [1, 2, 3, 4, 5, 0] rfl
  generalize H1 = H at hP hS ⊢
  have hP : va_P (dC, dI) vwCl ([(g, .inr (iX2, [.int (nI 0), .ref q_1, .ref q_2, .ref q_3, .ref q_4, .ref q_6, .ref q_8, .ref q_9])), (q_1, .inl (cI, 12, .inl (zI))), (q_2, .inl (cI, 12, .inl (zI))), (q_3, .inl (cI, 12, .inl (zI))), (q_8, .inl (cF, 7, .inr (.inr (.inr (.inr (b1_11)))))), (q_9, .inl (cF, 7, .inr (.inr (.inr (.inr (nQ))))))] ++ va_pl LP1_12 (fe v1_13)) H := hP
  have hD : va_D A ([(g, .inr (iX2, [.int (nI 0), .ref q_1, .ref q_2, .ref q_3, .ref q_4, .ref q_6, .ref q_8, .ref q_9])), (q_1, .inl (cI, 12, .inl (zI))), (q_2, .inl (cI, 12, .inl (zI))), (q_3, .inl (cI, 12, .inl (zI))), (q_8, .inl (cF, 7, .inr (.inr (.inr (.inr (b1_11)))))), (q_9, .inl (cF, 7, .inr (.inr (.inr (.inr (nQ))))))] ++ va_pl LP1_12 (fe v1_13)) := hD
  try dsimp only at hw_r_10
  obtain ⟨hq1, hq2, hq3⟩ := hw_r_10
  refine W.widen (k := 1015) (n := 2070) (by omega) (by omega) ?_
  have eq_14 : ([(g, .inr (iX2, [.int (nI 0), .ref q_1, .ref q_2, .ref q_3, .ref q_4, .ref q_6, .ref q_8, .ref q_9])), (q_1, .inl (cI, 12, .inl (zI))), (q_2, .inl (cI, 12, .inl (zI))), (q_3, .inl (cI, 12, .inl (zI))), (q_8, .inl (cF, 7, .inr (.inr (.inr (.inr (b1_11)))))), (q_9, .inl (cF, 7, .inr (.inr (.inr (.inr (nQ))))))] : va_W) = [(g, .inr (iX2, [.int 0, .ref q_1, .ref q_2, .ref q_3, .ref q_4, .ref q_6, .ref q_8, .ref q_9])), (q_1, .inl (cI, 12, .inl (zI))), (q_2, .inl (cI, 12, .inl (zI))), (q_3, .inl (cI, 12, .inl (zI))), (q_8, .inl (cF, 7, .inr (.inr (.inr (.inr (b1_11)))))), (q_9, .inl (cF, 7, .inr (.inr (.inr (.inr (nQ))))))] := (by first | rfl | (simp []; done) | contradiction)
  rw [eq_14] at hP hD
  exact W.vret hx hb hr (fun t ht hW => ⟨⟨(q_1, q_2, q_3, q_4, q_6, q_8, q_9, b1_11, LP1_12, v1_13), rfl, ⟨(hq2 _ (by simp)).1, (hq2 _ (by simp)).1, by show v1_13 q_4 = fW; rw [(hq2 _ (by simp)).2, va_up_self], by show v1_13 q_6 = fZ; rw [(hq2 _ (by simp)).2, va_up_ne _ _ hne], hq1, by show abR b1_11 v1_13 = _; rw [hq3, va_up_self]⟩, by rw [ht]; exact hP, hAe ▸ hD⟩, hS.F ht⟩) hS.2.2 dX2_init_81
end
section
/-! the claims -/
def stL (nr : Nat → Int32) (tk : Int32) : Nat → Int32
  | 0 => 0
  | k + 1 => if isInF tk (nI k) = 0 then (if atF 12 nr (nI k) &&& (stL nr tk k ^^^ (-1)) = 0 then stL nr tk k ||| 1 <<< (nI k &&& 31) else stL nr tk k) else stL nr tk k
def acL (on : Int32) (nf : Nat → Int32) : Nat → Int32
  | 0 => on
  | k + 1 => if isInF on (nI k) = 0 then acL on nf k else acL on nf k ||| atF 12 nf (nI k)
def swF (wd c b : Int32) : Int32 := if b = 0 then wd &&& (1 <<< (c &&& 31) ^^^ (-1)) else wd ||| 1 <<< (c &&& 31)
def acnL (S wd : Int32) (nf : Nat → Int32) : Nat → Nat → Int32
  | 0, _ => 1
  | r + 1, k => if isInF S (nI k) = (if (atF 12 nf (nI k) ||| 1 <<< (nI k &&& 31)) &&& wd = 0 then 1 else 0) then acnL S wd nf r (k + 1) else 0
theorem Lib_abs_trivial : True := trivial

set_option maxHeartbeats 4000000 in
set_option maxRecDepth 100000 in
theorem c_X0_init (l : Launch) (dC : Nat → ClassId) (dI : Nat → Nat → Nat) (cI cF : ClassId) (tr : List (ClassId × FieldType)) (sz : Nat) (g : Nat) : Met l yX0_init wsX0_init ({ frames := 1, cells := 2, slots := 24, locals := 12 } : Room) (cPd dC dI ((cI, .int) :: (cF, .object RX1) :: tr) sz ([(g, .inr (iX0, [.int 0, .int 0, .null, .null]))]) [.ref g]) (va_Qv (fun _ : Nat × Nat => True) (fun ⟨xn, xf⟩ t => va_P (dC, dI) vwCl ([(g, .inr (iX0, [.int 0, .int 0, .ref xn, .ref xf])), (xn, .inl (cI, 12, .inl (zI))), (xf, .inl (cI, 12, .inl (zI)))]) t.heap ∧ va_D (va_A ([(g, .inr (iX0, [.int 0, .int 0, .null, .null]))]) sz) ([(g, .inr (iX0, [.int 0, .int 0, .ref xn, .ref xf])), (xn, .inl (cI, 12, .inl (zI))), (xf, .inl (cI, 12, .inl (zI)))])) (va_A ([(g, .inr (iX0, [.int 0, .int 0, .null, .null]))]) sz)) 2 24 (va_A ([(g, .inr (iX0, [.int 0, .int 0, .null, .null]))]) sz) := by
  refine Met.ofW (cc := cX0_init) (maxL := 1) (ret := none) (by decide) rfl ?_
  intro p e s m args below meth c s₁ B hml hv
  obtain ⟨rfl, hsz, hP, hK, hN, hD0⟩ := hv
  have hx := B.exec
  have hb := B.bytes
  have hr := B.returns
  have hts := atoms_spec (ws := wsX0_init) B.pre
  have hown : s.vm.findClass RX0 = some m.cls := findClass_of_methodNamed B.named
  have hlocks := B.notSynchronized
  have hin : meth.name = "<init>" := (name_of_methodNamed B.named B.method).1
  subst hsz
  have hD := hD0.self (sz := s.heap.size)
  generalize hAe : va_A ([(g, .inr (iX0, [.int 0, .int 0, .null, .null]))]) s.heap.size = A at hD ⊢
  have hA : ∀ q : Nat, s.heap.size ≤ q → A q := fun q h => by rw [← hAe]; exact Or.inr h
  have hS : va_S A s.heap s.heap [] := va_S.rf
  have hP : va_P (dC, dI) vwCl ([(g, .inr (iX0, [.int 0, .int 0, .null, .null]))]) s.heap := hP
  have hl := lv_entry ([.ref g]) (n := 1) (Nat.le_of_ble_eq_true rfl)
  rw [lg_entry_eq]
  generalize (lg_sl ([.ref g]) ++ List.replicate (1 - (lg_sl ([.ref g])).length) Slot.unset).toArray = ls at hl ⊢
  have hl : lv_has ls 1 [(0, .ref g)] := hl
  have hw_oi_l := hts (.methodLink RX0 3 objectInit) (by decide +kernel)
  have hw_oi_i := hts (.instanceMethod objectInit) (by decide +kernel)
  have hw_oi_c := hts (.code objectInit ⟨#[0xb1]⟩ 1 none) (by decide +kernel)
  have hw_arr_int := hts (.arrayClass (newarray.typeOf .int)) (by decide +kernel)
  have hfl_9 := hts (.fieldLink RX0 9 "Greenwheels$Claims" "near" "[I") (by decide +kernel)
  have hin_X0 : ∀ w ∈ u_ws RX0 TX0 4, w ∈ wsX0_init := by decide +kernel
  have hfl_15 := hts (.fieldLink RX0 15 "Greenwheels$Claims" "nearAndFar" "[I") (by decide +kernel)
  refine lv_aload_n hx hb dX0_init_0 rfl (lv_at hl 0 rfl) ?_
  refine W.objInit hx hb hown hw_oi_l hw_oi_i hw_oi_c rfl (by rw [hml]; exact hl.1) rfl dX0_init_1 (Nat.le_of_ble_eq_true rfl) (Nat.le_of_ble_eq_true rfl) ?_
  refine W.eq (g2 := F0 m 4 ls []) rfl ?_
  refine lv_aload_n hx hb dX0_init_4 rfl (lv_at hl 0 rfl) ?_
  refine lv_bipush (v := 12) hx hb dX0_init_5 (by decide) ?_
  refine va_newa (D := (dC, dI)) (atype := .int) (ty := .int) (N' := 12) (a0 := (12, .inl (fun _ => 0))) hx hb hw_arr_int rfl hK hP hD hS hA (fun _ => rfl) (by decide) (by decide) (by decide) (Nat.le_of_ble_eq_true rfl) (Nat.le_of_ble_eq_true rfl) dX0_init_7 (fun q_1 cN H hKn hP hD hS => ?_)
  obtain rfl : cI = cN := (tyEq hKn hK 0 rfl).symm
  have hP : va_P (dC, dI) vwCl ([(g, .inr (iX0, [.int 0, .int 0, .null, .null])), (q_1, .inl (cI, 12, .inl (fun _ => 0)))]) H := hP
  have hD : va_D A ([(g, .inr (iX0, [.int 0, .int 0, .null, .null])), (q_1, .inl (cI, 12, .inl (fun _ => 0)))]) := hD
  refine va_putF (D := (dC, dI)) (ci := iX0) (v := .ref q_1) (ty := (.array .int)) (C := RX0) (T := TX0) (N := 4) hx hb hts hin_X0 tyX0 tyX0_ok nmX0 hown hK hP hD hS 0 rfl rfl 2 (by decide) hfl_9 (fun _ h9 => h9) rfl hin rfl (by decide +kernel) rfl rfl (Nat.le_of_ble_eq_true rfl) dX0_init_9 (fun H locs hP hD hS => ?_)
  have hP : va_P (dC, dI) vwCl ([(g, .inr (iX0, [.int 0, .int 0, .ref q_1, .null])), (q_1, .inl (cI, 12, .inl (fun _ => 0)))]) H := hP
  have hD : va_D A ([(g, .inr (iX0, [.int 0, .int 0, .ref q_1, .null])), (q_1, .inl (cI, 12, .inl (fun _ => 0)))]) := hD
  refine lv_aload_n hx hb dX0_init_12 rfl (lv_at hl 0 rfl) ?_
  refine lv_bipush (v := 12) hx hb dX0_init_13 (by decide) ?_
  refine va_newa (D := (dC, dI)) (atype := .int) (ty := .int) (N' := 12) (a0 := (12, .inl (fun _ => 0))) hx hb hw_arr_int rfl hK hP hD hS hA (fun _ => rfl) (by decide) (by decide) (by decide) (Nat.le_of_ble_eq_true rfl) (Nat.le_of_ble_eq_true rfl) dX0_init_15 (fun q_2 cN H hKn hP hD hS => ?_)
  obtain rfl : cI = cN := (tyEq hKn hK 0 rfl).symm
  have hP : va_P (dC, dI) vwCl ([(g, .inr (iX0, [.int 0, .int 0, .ref q_1, .null])), (q_1, .inl (cI, 12, .inl (fun _ => 0))), (q_2, .inl (cI, 12, .inl (fun _ => 0)))]) H := hP
  have hD : va_D A ([(g, .inr (iX0, [.int 0, .int 0, .ref q_1, .null])), (q_1, .inl (cI, 12, .inl (fun _ => 0))), (q_2, .inl (cI, 12, .inl (fun _ => 0)))]) := hD
  refine va_putF (D := (dC, dI)) (ci := iX0) (v := .ref q_2) (ty := (.array .int)) (C := RX0) (T := TX0) (N := 4) hx hb hts hin_X0 tyX0 tyX0_ok nmX0 hown hK hP hD hS 0 rfl rfl 3 (by decide) hfl_15 (fun _ h9 => h9) rfl hin rfl (by decide +kernel) rfl rfl (Nat.le_of_ble_eq_true rfl) dX0_init_17 (fun H locs hP hD hS => ?_)
  have hP : va_P (dC, dI) vwCl ([(g, .inr (iX0, [.int 0, .int 0, .ref q_1, .ref q_2])), (q_1, .inl (cI, 12, .inl (fun _ => 0))), (q_2, .inl (cI, 12, .inl (fun _ => 0)))]) H := hP
  have hD : va_D A ([(g, .inr (iX0, [.int 0, .int 0, .ref q_1, .ref q_2])), (q_1, .inl (cI, 12, .inl (fun _ => 0))), (q_2, .inl (cI, 12, .inl (fun _ => 0)))]) := hD
  refine W.widen (k := 2) (n := 24) (by omega) (by omega) ?_
  have eq_3 : ([(g, .inr (iX0, [.int 0, .int 0, .ref q_1, .ref q_2])), (q_1, .inl (cI, 12, .inl (fun _ => 0))), (q_2, .inl (cI, 12, .inl (fun _ => 0)))] : va_W) = [(g, .inr (iX0, [.int 0, .int 0, .ref q_1, .ref q_2])), (q_1, .inl (cI, 12, .inl (zI))), (q_2, .inl (cI, 12, .inl (zI)))] := (by first | rfl | (simp []; done) | contradiction)
  rw [eq_3] at hP hD
  exact W.vret hx hb hr (fun t ht hW => ⟨⟨(q_1, q_2), rfl, trivial, by rw [ht]; exact hP, hAe ▸ hD⟩, hS.F ht⟩) hS.2.2 dX0_init_20

set_option maxHeartbeats 4000000 in
set_option maxRecDepth 100000 in
theorem c_X0_isSetOfThem (l : Launch) (dC : Nat → ClassId) (dI : Nat → Nat → Nat) (cI cF : ClassId) (tr : List (ClassId × FieldType)) (sz : Nat) (g : Nat) (n : Nat) (wd : Int32) (xn : Nat) (xf : Nat) (i : Int32) : Met l yX0_isSetOfThem wsX0_isSetOfThem ({ frames := 0, cells := 0, slots := 0, locals := 0 } : Room) (cPc dC dI ((cI, .int) :: (cF, .object RX1) :: tr) sz ([(g, .inr (iX0, [.int (nI n), .int wd, .ref xn, .ref xf]))]) [.ref g, .int i]) (va_Qi (fun (r : Int32) (_ : Unit) => r = if i < 0 then 0 else if i >>> (nI n &&& 31) = 0 then 1 else 0) (fun _ _ => True) (va_A ([]) sz)) 0 0 (va_A ([]) sz) := by
  refine Met.ofW (cc := cX0_isSetOfThem) (maxL := 2) (ret := (some .boolean)) (by decide) rfl ?_
  intro p e s m args below meth c s₁ B hml hv
  obtain ⟨rfl, hsz, hP, hK, hN⟩ := hv
  have hx := B.exec
  have hb := B.bytes
  have hr := B.returns
  have hts := atoms_spec (ws := wsX0_isSetOfThem) B.pre
  have hown : s.vm.findClass RX0 = some m.cls := findClass_of_methodNamed B.named
  have hlocks := B.notSynchronized
  subst hsz
  generalize hAe : va_A [] s.heap.size = A
  have hA : ∀ q : Nat, s.heap.size ≤ q → A q := fun q h => by rw [← hAe]; exact Or.inr h
  have hS : va_S A s.heap s.heap [] := va_S.rf
  have hAn : ∀ q : Nat, q < s.heap.size → ¬ A q := fun q h => by rw [← hAe]; exact notZ h
  have hAg : ∀ q : Nat, A q → s.heap.size ≤ q := fun q h => geZ (hAe ▸ h)
  have hR0 : va_P (dC, dI) vwCl ([(g, .inr (iX0, [.int (nI n), .int wd, .ref xn, .ref xf]))]) s.heap := hP
  have hR : va_P (dC, dI) vwCl ([(g, .inr (iX0, [.int (nI n), .int wd, .ref xn, .ref xf]))]) s.heap := hP
  have hP : va_P (dC, dI) vwCl [] s.heap := fun k q h => by simp at h
  have hD : va_D A [] := ⟨fun i j p q h => by simp at h, fun k q h => by simp at h⟩
  have hl := lv_entry ([.ref g, .int i]) (n := 2) (Nat.le_of_ble_eq_true rfl)
  rw [lg_entry_eq]
  generalize (lg_sl ([.ref g, .int i]) ++ List.replicate (2 - (lg_sl ([.ref g, .int i])).length) Slot.unset).toArray = ls at hl ⊢
  have hl : lv_has ls 2 [(0, .ref g), (1, .int i)] := hl
  have hfl_18 := hts (.fieldLink RX0 18 "Greenwheels$Claims" "count" "I") (by decide +kernel)
  have hin_X0 : ∀ w ∈ u_ws RX0 TX0 4, w ∈ wsX0_isSetOfThem := by decide +kernel
  refine lv_iload_n hx hb dX0_isSetOfThem_0 rfl (lv_at hl 1 rfl) ?_
  refine lv_if_lt (tgt := 17) hx hb dX0_isSetOfThem_1 (by decide) (fun c_1 => ?_) (fun c_1 => ?_)
  · refine lv_iconst (v := 0) hx hb dX0_isSetOfThem_17 (by decide) ?_
    refine W.widen (k := 0) (n := 0) (by omega) (by omega) ?_
    exact W.zret (v := 0) hx hb hr (by first | rfl | simp [narrow] | assumption) (fun t ht hW => ⟨⟨0, (), rfl, (by first | (simp [c_1]; done) | contradiction), trivial⟩, hS.F ht⟩) hS.2.2 dX0_isSetOfThem_18
  · refine lv_iload_n hx hb dX0_isSetOfThem_4 rfl (lv_at hl 1 rfl) ?_
    refine lv_aload_n hx hb dX0_isSetOfThem_5 rfl (lv_at hl 0 rfl) ?_
    refine va_get (D := (dC, dI)) (ci := iX0) (v := .int (nI n)) (C := RX0) (T := TX0) (N := 4) hx hb hts hin_X0 hown hK hR 0 rfl rfl 0 (by decide) hfl_18 (fun _ h9 => h9) rfl dX0_isSetOfThem_6 ?_
    refine lv_ishr hx hb dX0_isSetOfThem_9 ?_
    refine lv_if_ne (tgt := 17) hx hb dX0_isSetOfThem_10 (by decide) (fun c_2 => ?_) (fun c_2 => ?_)
    · refine lv_iconst (v := 0) hx hb dX0_isSetOfThem_17 (by decide) ?_
      refine W.widen (k := 0) (n := 0) (by omega) (by omega) ?_
      exact W.zret (v := 0) hx hb hr (by first | rfl | simp [narrow] | assumption) (fun t ht hW => ⟨⟨0, (), rfl, (by first | (simp [c_1, c_2]; done) | contradiction), trivial⟩, hS.F ht⟩) hS.2.2 dX0_isSetOfThem_18
    · refine lv_iconst (v := 1) hx hb dX0_isSetOfThem_13 (by decide) ?_
      refine lv_goto (tgt := 18) hx hb dX0_isSetOfThem_14 (by decide) ?_
      refine W.widen (k := 0) (n := 0) (by omega) (by omega) ?_
      exact W.zret (v := 1) hx hb hr (by first | rfl | simp [narrow] | assumption) (fun t ht hW => ⟨⟨1, (), rfl, (by first | (simp [c_1, c_2]; done) | contradiction), trivial⟩, hS.F ht⟩) hS.2.2 dX0_isSetOfThem_18

set_option maxHeartbeats 4000000 in
set_option maxRecDepth 100000 in
theorem c_X0_addClaim (l : Launch) (dC : Nat → ClassId) (dI : Nat → Nat → Nat) (cI cF : ClassId) (tr : List (ClassId × FieldType)) (sz : Nat) (g : Nat) (n : Nat) (wd : Int32) (xn : Nat) (xf : Nat) (nr : Nat → Int32) (nf : Nat → Int32) (i : Int32) (hn : n ≤ 12) : Met l yX0_addClaim wsX0_addClaim ({ frames := 1, cells := 0, slots := 0, locals := 22 } : Room) (cPd dC dI ((cI, .int) :: (cF, .object RX1) :: tr) sz ([(g, .inr (iX0, [.int (nI n), .int wd, .ref xn, .ref xf])), (xn, .inl (cI, 12, .inl (nr))), (xf, .inl (cI, 12, .inl (nf)))]) [.ref g, .int i]) (va_Qi (fun (r : Int32) (_ : Unit) => r = nI n) (fun _ t => va_P (dC, dI) vwCl ([(g, .inr (iX0, [.int (nI (n + 1)), .int wd, .ref xn, .ref xf])), (xn, .inl (cI, 12, .inl (putF 12 nr (nI n) i))), (xf, .inl (cI, 12, .inl (putF 12 nf (nI n) (acL i nf n))))]) t.heap ∧ va_D (va_A ([(g, .inr (iX0, [.int (nI n), .int wd, .ref xn, .ref xf])), (xn, .inl (cI, 12, .inl (nr))), (xf, .inl (cI, 12, .inl (nf)))]) sz) ([(g, .inr (iX0, [.int (nI (n + 1)), .int wd, .ref xn, .ref xf])), (xn, .inl (cI, 12, .inl (putF 12 nr (nI n) i))), (xf, .inl (cI, 12, .inl (putF 12 nf (nI n) (acL i nf n))))])) (va_A ([(g, .inr (iX0, [.int (nI n), .int wd, .ref xn, .ref xf])), (xn, .inl (cI, 12, .inl (nr))), (xf, .inl (cI, 12, .inl (nf)))]) sz)) 0 0 (va_A ([(g, .inr (iX0, [.int (nI n), .int wd, .ref xn, .ref xf])), (xn, .inl (cI, 12, .inl (nr))), (xf, .inl (cI, 12, .inl (nf)))]) sz) := by
  refine Met.ofW (cc := cX0_addClaim) (maxL := 5) (ret := (some .int)) (by decide) rfl ?_
  intro p e s m args below meth c s₁ B hml hv
  obtain ⟨rfl, hsz, hP, hK, hN, hD0⟩ := hv
  have hx := B.exec
  have hb := B.bytes
  have hr := B.returns
  have hts := atoms_spec (ws := wsX0_addClaim) B.pre
  have hown : s.vm.findClass RX0 = some m.cls := findClass_of_methodNamed B.named
  have hlocks := B.notSynchronized
  subst hsz
  have hD := hD0.self (sz := s.heap.size)
  generalize hAe : va_A ([(g, .inr (iX0, [.int (nI n), .int wd, .ref xn, .ref xf])), (xn, .inl (cI, 12, .inl (nr))), (xf, .inl (cI, 12, .inl (nf)))]) s.heap.size = A at hD ⊢
  have hA : ∀ q : Nat, s.heap.size ≤ q → A q := fun q h => by rw [← hAe]; exact Or.inr h
  have hS : va_S A s.heap s.heap [] := va_S.rf
  have hP : va_P (dC, dI) vwCl ([(g, .inr (iX0, [.int (nI n), .int wd, .ref xn, .ref xf])), (xn, .inl (cI, 12, .inl (nr))), (xf, .inl (cI, 12, .inl (nf)))]) s.heap := hP
  have hl := lv_entry ([.ref g, .int i]) (n := 5) (Nat.le_of_ble_eq_true rfl)
  rw [lg_entry_eq]
  generalize (lg_sl ([.ref g, .int i]) ++ List.replicate (5 - (lg_sl ([.ref g, .int i])).length) Slot.unset).toArray = ls at hl ⊢
  have hl : lv_has ls 5 [(0, .ref g), (1, .int i)] := hl
  have hfl_18 := hts (.fieldLink RX0 18 "Greenwheels$Claims" "count" "I") (by decide +kernel)
  have hin_X0 : ∀ w ∈ u_ws RX0 TX0 4, w ∈ wsX0_addClaim := by decide +kernel
  have hfl_9 := hts (.fieldLink RX0 9 "Greenwheels$Claims" "near" "[I") (by decide +kernel)
  have hw_iniX5 := hts (.initialized RX5) (by decide +kernel)
  have hw_staX5_put := hts (.static yX5_put) (by decide +kernel)
  have hfl_15 := hts (.fieldLink RX0 15 "Greenwheels$Claims" "nearAndFar" "[I") (by decide +kernel)
  have hw_staX5_isIn := hts (.static yX5_isIn) (by decide +kernel)
  have hw_staX5_at := hts (.static yX5_at) (by decide +kernel)
  refine lv_aload_n hx hb dX0_addClaim_0 rfl (lv_at hl 0 rfl) ?_
  refine va_get (D := (dC, dI)) (ci := iX0) (v := .int (nI n)) (C := RX0) (T := TX0) (N := 4) hx hb hts hin_X0 hown hK hP 0 rfl rfl 0 (by decide) hfl_18 (fun _ h9 => h9) rfl dX0_addClaim_1 ?_
  refine lv_istore_n (lv' := [(2, .int (nI n)), (0, .ref g), (1, .int i)]) hx hb dX0_addClaim_4 rfl hl (by decide) rfl (fun ls hl => ?_)
  refine lv_iload_n hx hb dX0_addClaim_5 rfl (lv_at hl 2 rfl) ?_
  refine lv_istore_n (lv' := [(3, .int i), (2, .int (nI n)), (0, .ref g), (1, .int i)]) hx hb dX0_addClaim_6 rfl hl (by decide) rfl (fun ls hl => ?_)
  refine lv_iconst (v := 0) hx hb dX0_addClaim_7 (by decide) ?_
  refine lv_istore (lv' := [(4, .int 0), (3, .int i), (2, .int (nI n)), (0, .ref g), (1, .int i)]) hx hb dX0_addClaim_8 hl (by decide) rfl (fun ls hl => ?_)
  have K10 : ∀ (NN : Nat), ∀ (k : Nat) (acc : Int32), (n - k) < NN → (k ≤ n) → (acc = acL i nf k) → ∀ (H : Heap) (locs : List Loc) (ls : Array Slot), va_P (dC, dI) vwCl ([(g, .inr (iX0, [.int (nI n), .int wd, .ref xn, .ref xf])), (xn, .inl (cI, 12, .inl (nr))), (xf, .inl (cI, 12, .inl (nf)))]) H → va_D A ([(g, .inr (iX0, [.int (nI n), .int wd, .ref xn, .ref xf])), (xn, .inl (cI, 12, .inl (nr))), (xf, .inl (cI, 12, .inl (nf)))]) → va_S A s.heap H locs → lv_has ls 5 [(0, .ref g), (1, .int i), (2, .int (nI n)), (3, .int acc), (4, .int (nI k))] → W p l e (headSpec wsX0_addClaim ({ frames := 1, cells := 0, slots := 0, locals := 22 } : Room)).room s m #[Value.ref g, Value.int i] below meth c H locs (0) (0) (MQ below (va_Qi (fun (r : Int32) (_ : Unit) => r = nI n) (fun _ t => va_P (dC, dI) vwCl ([(g, .inr (iX0, [.int (nI (n + 1)), .int wd, .ref xn, .ref xf])), (xn, .inl (cI, 12, .inl (putF 12 nr (nI n) i))), (xf, .inl (cI, 12, .inl (putF 12 nf (nI n) (acL i nf n))))]) t.heap ∧ va_D A ([(g, .inr (iX0, [.int (nI (n + 1)), .int wd, .ref xn, .ref xf])), (xn, .inl (cI, 12, .inl (putF 12 nr (nI n) i))), (xf, .inl (cI, 12, .inl (putF 12 nf (nI n) (acL i nf n))))])) A) #[Value.ref g, Value.int i] s 0 0 A) (F0 m 10 ls []) := by
    intro NN
    induction NN with
    | zero =>
      intro k acc hmu hk hacc H locs ls hP hD hS hl
      exact absurd hmu (Nat.not_lt_zero _)
    | succ NN ih10 =>
      intro k acc hmu hk hacc H locs ls hP hD hS hl
      refine lv_iload hx hb dX0_addClaim_10 (lv_at hl 4 rfl) ?_
      refine lv_iload_n hx hb dX0_addClaim_12 rfl (lv_at hl 2 rfl) ?_
      refine lv_icmp_ge (tgt := 43) hx hb dX0_addClaim_13 (by decide) (fun c_1 => ?_) (fun c_1 => ?_)
      · have hke : n ≤ k := leK (by omega) (by omega) c_1
        have hkn : k = n := by omega
        rw [hkn] at hacc
        refine lv_aload_n hx hb dX0_addClaim_43 rfl (lv_at hl 0 rfl) ?_
        refine va_get (D := (dC, dI)) (ci := iX0) (v := .ref xn) (C := RX0) (T := TX0) (N := 4) hx hb hts hin_X0 hown hK hP 0 rfl rfl 2 (by decide) hfl_9 (fun _ h9 => h9) rfl dX0_addClaim_44 ?_
        refine lv_iload_n hx hb dX0_addClaim_47 rfl (lv_at hl 2 rfl) ?_
        refine lv_iload_n hx hb dX0_addClaim_48 rfl (lv_at hl 1 rfl) ?_
        have hPc : va_P (dC, dI) vwCl ([(xn, .inl (cI, 12, .inl (nr)))]) _ := hP.sub [1] rfl
        have hDc : va_D (fun _ => True) ([(xn, .inl (cI, 12, .inl (nr)))]) := (hD.sub (ws' := [(xn, .inl (cI, 12, .inl (nr)))]) [1] (by decide) rfl).weaken (fun _ _ _ _ => trivial)
        have hFc := va_free (wc := [(xn, .inl (cI, 12, .inl (nr)))]) hD hS hA [1] rfl
        refine va_callv (va_runSN (host := RX5) (As := [.ref xn, .int (nI n), .int i]) (rest := []) ⟨hx, hb, hml, hown, hts⟩ (c_X5_put l dC dI cI cF tr (H).size xn 12 nr (nI n) i (by decide)) ⟨va_cnB 3 hts gX0_addClaim_X5_put_n30 rfl rfl rfl (nwAt hN (RX0, 30, yX5_put) (by decide +kernel)) hw_iniX5 (by decide +kernel) ⟨Nat.le_of_ble_eq_true rfl, Nat.le_of_ble_eq_true rfl⟩, hw_staX5_put, trivial⟩ ⟨cDbl, (cDpre hPc hK hN hDc)⟩ rfl rfl hl.1 rfl (lv_room (Nat.le_of_ble_eq_true rfl)) dX0_addClaim_49 ⟨(Nat.le_of_ble_eq_true rfl), (Nat.le_of_ble_eq_true rfl)⟩) hS (fun q _ h => hFc q h) hFc (fun u t H1 locs ht hvm hw_r_2 hB hz1 hk1 hS => ?_)
        refine W.widen (k := 0) (n := 0) (Nat.le_refl _) (Nat.le_refl _) ?_
        obtain ⟨hP1, hD1⟩ := hB
        rw [ht] at hP1
        obtain ⟨hP, hD⟩ := va_join (wr := [(g, .inr (iX0, [.int (nI n), .int wd, .ref xn, .ref xf])), (xf, .inl (cI, 12, .inl (nf)))]) (w1 := [(xn, .inl (cI, 12, .inl (putF 12 nr (nI n) i)))]) hP hD [1] [0, 2] rfl rfl (by decide) (by decide) hk1 hFc hP1 hD1
        have hD := hD.sub (ws' := [(g, .inr (iX0, [.int (nI n), .int wd, .ref xn, .ref xf])), (xn, .inl (cI, 12, .inl (putF 12 nr (nI n) i))), (xf, .inl (cI, 12, .inl (nf)))]) [0, 2, 1] (by decide) rfl
        have hP : va_P (dC, dI) vwCl ([(g, .inr (iX0, [.int (nI n), .int wd, .ref xn, .ref xf])), (xn, .inl (cI, 12, .inl (putF 12 nr (nI n) i))), (xf, .inl (cI, 12, .inl (nf)))]) H1 := hP.sub [0, 2, 1] rfl
        generalize H1 = H at hP hS ⊢
        have hP : va_P (dC, dI) vwCl ([(g, .inr (iX0, [.int (nI n), .int wd, .ref xn, .ref xf])), (xn, .inl (cI, 12, .inl (putF 12 nr (nI n) i))), (xf, .inl (cI, 12, .inl (nf)))]) H := hP
        have hD : va_D A ([(g, .inr (iX0, [.int (nI n), .int wd, .ref xn, .ref xf])), (xn, .inl (cI, 12, .inl (putF 12 nr (nI n) i))), (xf, .inl (cI, 12, .inl (nf)))]) := hD
        try dsimp only at hw_r_2
        refine lv_aload_n hx hb dX0_addClaim_52 rfl (lv_at hl 0 rfl) ?_
        refine va_get (D := (dC, dI)) (ci := iX0) (v := .ref xf) (C := RX0) (T := TX0) (N := 4) hx hb hts hin_X0 hown hK hP 0 rfl rfl 3 (by decide) hfl_15 (fun _ h9 => h9) rfl dX0_addClaim_53 ?_
        refine lv_iload_n hx hb dX0_addClaim_56 rfl (lv_at hl 2 rfl) ?_
        refine lv_iload_n hx hb dX0_addClaim_57 rfl (lv_at hl 3 rfl) ?_
        have hPc : va_P (dC, dI) vwCl ([(xf, .inl (cI, 12, .inl (nf)))]) _ := hP.sub [2] rfl
        have hDc : va_D (fun _ => True) ([(xf, .inl (cI, 12, .inl (nf)))]) := (hD.sub (ws' := [(xf, .inl (cI, 12, .inl (nf)))]) [2] (by decide) rfl).weaken (fun _ _ _ _ => trivial)
        have hFc := va_free (wc := [(xf, .inl (cI, 12, .inl (nf)))]) hD hS hA [2] rfl
        refine va_callv (va_runSN (host := RX5) (As := [.ref xf, .int (nI n), .int acc]) (rest := []) ⟨hx, hb, hml, hown, hts⟩ (c_X5_put l dC dI cI cF tr (H).size xf 12 nf (nI n) acc (by decide)) ⟨va_cnB 3 hts gX0_addClaim_X5_put_n30 rfl rfl rfl (nwAt hN (RX0, 30, yX5_put) (by decide +kernel)) hw_iniX5 (by decide +kernel) ⟨Nat.le_of_ble_eq_true rfl, Nat.le_of_ble_eq_true rfl⟩, hw_staX5_put, trivial⟩ ⟨cDbl, (cDpre hPc hK hN hDc)⟩ rfl rfl hl.1 rfl (lv_room (Nat.le_of_ble_eq_true rfl)) dX0_addClaim_58 ⟨(Nat.le_of_ble_eq_true rfl), (Nat.le_of_ble_eq_true rfl)⟩) hS (fun q _ h => hFc q h) hFc (fun u t H1 locs ht hvm hw_r_3 hB hz1 hk1 hS => ?_)
        refine W.widen (k := 0) (n := 0) (Nat.le_refl _) (Nat.le_refl _) ?_
        obtain ⟨hP1, hD1⟩ := hB
        rw [ht] at hP1
        obtain ⟨hP, hD⟩ := va_join (wr := [(g, .inr (iX0, [.int (nI n), .int wd, .ref xn, .ref xf])), (xn, .inl (cI, 12, .inl (putF 12 nr (nI n) i)))]) (w1 := [(xf, .inl (cI, 12, .inl (putF 12 nf (nI n) acc)))]) hP hD [2] [0, 1] rfl rfl (by decide) (by decide) hk1 hFc hP1 hD1
        have hD := hD.sub (ws' := [(g, .inr (iX0, [.int (nI n), .int wd, .ref xn, .ref xf])), (xn, .inl (cI, 12, .inl (putF 12 nr (nI n) i))), (xf, .inl (cI, 12, .inl (putF 12 nf (nI n) acc)))]) [0, 1, 2] (by decide) rfl
        have hP : va_P (dC, dI) vwCl ([(g, .inr (iX0, [.int (nI n), .int wd, .ref xn, .ref xf])), (xn, .inl (cI, 12, .inl (putF 12 nr (nI n) i))), (xf, .inl (cI, 12, .inl (putF 12 nf (nI n) acc)))]) H1 := hP.sub [0, 1, 2] rfl
        generalize H1 = H at hP hS ⊢
        have hP : va_P (dC, dI) vwCl ([(g, .inr (iX0, [.int (nI n), .int wd, .ref xn, .ref xf])), (xn, .inl (cI, 12, .inl (putF 12 nr (nI n) i))), (xf, .inl (cI, 12, .inl (putF 12 nf (nI n) acc)))]) H := hP
        have hD : va_D A ([(g, .inr (iX0, [.int (nI n), .int wd, .ref xn, .ref xf])), (xn, .inl (cI, 12, .inl (putF 12 nr (nI n) i))), (xf, .inl (cI, 12, .inl (putF 12 nf (nI n) acc)))]) := hD
        try dsimp only at hw_r_3
        refine lv_aload_n hx hb dX0_addClaim_61 rfl (lv_at hl 0 rfl) ?_
        refine lv_dup hx hb dX0_addClaim_62 rfl ?_
        refine va_get (D := (dC, dI)) (ci := iX0) (v := .int (nI n)) (C := RX0) (T := TX0) (N := 4) hx hb hts hin_X0 hown hK hP 0 rfl rfl 0 (by decide) hfl_18 (fun _ h9 => h9) rfl dX0_addClaim_63 ?_
        refine lv_iconst (v := 1) hx hb dX0_addClaim_66 (by decide) ?_
        refine lv_iadd hx hb dX0_addClaim_67 ?_
        refine va_put (D := (dC, dI)) (ci := iX0) (v := .int ((nI n) + 1)) (ty := .int) (C := RX0) (T := TX0) (N := 4) hx hb hts hin_X0 tyX0 tyX0_ok nmX0 hown hK hP hD hS 0 rfl rfl 0 (by decide) hfl_18 (fun _ h9 => h9) rfl (by decide +kernel) rfl rfl (Nat.le_of_ble_eq_true rfl) dX0_addClaim_68 (fun H locs hP hD hS => ?_)
        have hP : va_P (dC, dI) vwCl ([(g, .inr (iX0, [.int ((nI n) + 1), .int wd, .ref xn, .ref xf])), (xn, .inl (cI, 12, .inl (putF 12 nr (nI n) i))), (xf, .inl (cI, 12, .inl (putF 12 nf (nI n) acc)))]) H := hP
        have hD : va_D A ([(g, .inr (iX0, [.int ((nI n) + 1), .int wd, .ref xn, .ref xf])), (xn, .inl (cI, 12, .inl (putF 12 nr (nI n) i))), (xf, .inl (cI, 12, .inl (putF 12 nf (nI n) acc)))]) := hD
        refine lv_iload_n hx hb dX0_addClaim_71 rfl (lv_at hl 2 rfl) ?_
        refine W.widen (k := 0) (n := 0) (by omega) (by omega) ?_
        have eq_4 : ([(g, .inr (iX0, [.int ((nI n) + 1), .int wd, .ref xn, .ref xf])), (xn, .inl (cI, 12, .inl (putF 12 nr (nI n) i))), (xf, .inl (cI, 12, .inl (putF 12 nf (nI n) acc)))] : va_W) = [(g, .inr (iX0, [.int (nI (n + 1)), .int wd, .ref xn, .ref xf])), (xn, .inl (cI, 12, .inl (putF 12 nr (nI n) i))), (xf, .inl (cI, 12, .inl (putF 12 nf (nI n) (acL i nf n))))] := (by rw [nI_1, hacc])
        rw [eq_4] at hP hD
        exact W.iret (v := nI n) hx hb hr (fun t ht hW => ⟨⟨nI n, (), rfl, rfl, by rw [ht]; exact hP, hAe ▸ hD⟩, hS.F ht⟩) hS.2.2 dX0_addClaim_72
      · have hkl : k < n := ltK (by omega) (by omega) c_1
        refine lv_iload_n hx hb dX0_addClaim_16 rfl (lv_at hl 1 rfl) ?_
        refine lv_iload hx hb dX0_addClaim_17 (lv_at hl 4 rfl) ?_
        have hPc : va_P (dC, dI) vwCl [] H := nilP
        have hFc := frZ hS hA
        refine va_calli (va_runSN (host := RX5) (As := [.int i, .int (nI k)]) (rest := []) ⟨hx, hb, hml, hown, hts⟩ (c_X5_isIn l dC dI cI cF tr (H).size i (nI k)) ⟨va_cnB 2 hts gX0_addClaim_X5_isIn_n22 rfl rfl rfl (nwAt hN (RX0, 22, yX5_isIn) (by decide +kernel)) hw_iniX5 (by decide +kernel) ⟨Nat.le_of_ble_eq_true rfl, Nat.le_of_ble_eq_true rfl⟩, hw_staX5_isIn, trivial⟩ ⟨cBl, (cPre hPc hK hN)⟩ rfl rfl hl.1 rfl (lv_room (Nat.le_of_ble_eq_true rfl)) dX0_addClaim_19 ⟨(Nat.le_of_ble_eq_true rfl), (Nat.le_of_ble_eq_true rfl)⟩) hS (fun q _ h => hFc q h) hFc (fun r_5 u t H1 locs ht hvm hw_r_5 hB hz1 hk1 hS => ?_)
        refine W.widen (k := 0) (n := 0) (Nat.le_refl _) (Nat.le_refl _) ?_
        have hP := keepP hP hk1
        generalize H1 = H at hP hS ⊢
        have hP : va_P (dC, dI) vwCl ([(g, .inr (iX0, [.int (nI n), .int wd, .ref xn, .ref xf])), (xn, .inl (cI, 12, .inl (nr))), (xf, .inl (cI, 12, .inl (nf)))]) H := hP
        try dsimp only at hw_r_5
        subst hw_r_5
        refine lv_if_eq (tgt := 37) hx hb dX0_addClaim_22 (by decide) (fun c_6 => ?_) (fun c_6 => ?_)
        · refine lv_iinc (v := nI (k + 1)) (lv' := [(4, .int (nI (k + 1))), (0, .ref g), (1, .int i), (2, .int (nI n)), (3, .int acc)]) hx hb dX0_addClaim_37 hl (k := 4) rfl (nI_1 k) (by decide) rfl (fun ls hl => ?_)
          refine lv_goto (tgt := 10) hx hb dX0_addClaim_40 (by decide) ?_
          refine W.widen (k := 0) (n := 0) (by omega) (by omega) ?_
          exact ih10 (k + 1) acc (by omega) hkl (by rw [hacc]; simp [acL, c_6]) _ _ ls hP hD hS (lv_sub hl [1, 2, 3, 4, 0] rfl)
        · refine lv_iload_n hx hb dX0_addClaim_25 rfl (lv_at hl 3 rfl) ?_
          refine lv_aload_n hx hb dX0_addClaim_26 rfl (lv_at hl 0 rfl) ?_
          refine va_get (D := (dC, dI)) (ci := iX0) (v := .ref xf) (C := RX0) (T := TX0) (N := 4) hx hb hts hin_X0 hown hK hP 0 rfl rfl 3 (by decide) hfl_15 (fun _ h9 => h9) rfl dX0_addClaim_27 ?_
          refine lv_iload hx hb dX0_addClaim_30 (lv_at hl 4 rfl) ?_
          have hPc : va_P (dC, dI) vwCl ([(xf, .inl (cI, 12, .inl (nf)))]) _ := hP.sub [2] rfl
          have hFc := frZ hS hA
          refine va_calli (va_runSN (host := RX5) (As := [.ref xf, .int (nI k)]) (rest := [.int acc]) ⟨hx, hb, hml, hown, hts⟩ (c_X5_at l dC dI cI cF tr (H).size xf 12 nf (nI k) (by decide)) ⟨va_cnB 2 hts gX0_addClaim_X5_at_n26 rfl rfl rfl (nwAt hN (RX0, 26, yX5_at) (by decide +kernel)) hw_iniX5 (by decide +kernel) ⟨Nat.le_of_ble_eq_true rfl, Nat.le_of_ble_eq_true rfl⟩, hw_staX5_at, trivial⟩ ⟨cBl, (cPre hPc hK hN)⟩ rfl rfl hl.1 rfl (lv_room (Nat.le_of_ble_eq_true rfl)) dX0_addClaim_32 ⟨(Nat.le_of_ble_eq_true rfl), (Nat.le_of_ble_eq_true rfl)⟩) hS (fun q _ h => hFc q h) hFc (fun r_7 u t H1 locs ht hvm hw_r_7 hB hz1 hk1 hS => ?_)
          refine W.widen (k := 0) (n := 0) (Nat.le_refl _) (Nat.le_refl _) ?_
          have hP := keepP hP hk1
          generalize H1 = H at hP hS ⊢
          have hP : va_P (dC, dI) vwCl ([(g, .inr (iX0, [.int (nI n), .int wd, .ref xn, .ref xf])), (xn, .inl (cI, 12, .inl (nr))), (xf, .inl (cI, 12, .inl (nf)))]) H := hP
          try dsimp only at hw_r_7
          subst hw_r_7
          refine lv_ior hx hb dX0_addClaim_35 ?_
          refine lv_istore_n (lv' := [(3, .int (acc ||| (atF 12 nf (nI k)))), (0, .ref g), (1, .int i), (2, .int (nI n)), (4, .int (nI k))]) hx hb dX0_addClaim_36 rfl hl (by decide) rfl (fun ls hl => ?_)
          refine lv_iinc (v := nI (k + 1)) (lv' := [(4, .int (nI (k + 1))), (3, .int (acc ||| (atF 12 nf (nI k)))), (0, .ref g), (1, .int i), (2, .int (nI n))]) hx hb dX0_addClaim_37 hl (k := 4) rfl (nI_1 k) (by decide) rfl (fun ls hl => ?_)
          refine lv_goto (tgt := 10) hx hb dX0_addClaim_40 (by decide) ?_
          refine W.widen (k := 0) (n := 0) (by omega) (by omega) ?_
          exact ih10 (k + 1) (acc ||| (atF 12 nf (nI k))) (by omega) hkl (by rw [hacc]; simp [acL, c_6]) _ _ ls hP hD hS (lv_sub hl [2, 3, 4, 1, 0] rfl)
  refine W.widen (k := 0) (n := 0) (by omega) (by omega) ?_
  exact K10 (n - 0 + 1) 0 i (by omega) (Nat.zero_le _) rfl _ _ ls hP hD hS (lv_sub hl [3, 4, 2, 1, 0] rfl)

set_option maxHeartbeats 4000000 in
set_option maxRecDepth 100000 in
theorem c_X0_setWithdrawn (l : Launch) (dC : Nat → ClassId) (dI : Nat → Nat → Nat) (cI cF : ClassId) (tr : List (ClassId × FieldType)) (sz : Nat) (g : Nat) (n : Nat) (wd : Int32) (xn : Nat) (xf : Nat) (i : Int32) (j : Int32) : Met l yX0_setWithdrawn wsX0_setWithdrawn ({ frames := 0, cells := 0, slots := 0, locals := 0 } : Room) (cPd dC dI ((cI, .int) :: (cF, .object RX1) :: tr) sz ([(g, .inr (iX0, [.int (nI n), .int wd, .ref xn, .ref xf]))]) [.ref g, .int i, .int j]) (va_Qv (fun _ : Unit => True) (fun _ t => va_P (dC, dI) vwCl ([(g, .inr (iX0, [.int (nI n), .int (swF wd i j), .ref xn, .ref xf]))]) t.heap ∧ va_D (va_A ([(g, .inr (iX0, [.int (nI n), .int wd, .ref xn, .ref xf]))]) sz) ([(g, .inr (iX0, [.int (nI n), .int (swF wd i j), .ref xn, .ref xf]))])) (va_A ([(g, .inr (iX0, [.int (nI n), .int wd, .ref xn, .ref xf]))]) sz)) 0 0 (va_A ([(g, .inr (iX0, [.int (nI n), .int wd, .ref xn, .ref xf]))]) sz) := by
  refine Met.ofW (cc := cX0_setWithdrawn) (maxL := 3) (ret := none) (by decide) rfl ?_
  intro p e s m args below meth c s₁ B hml hv
  obtain ⟨rfl, hsz, hP, hK, hN, hD0⟩ := hv
  have hx := B.exec
  have hb := B.bytes
  have hr := B.returns
  have hts := atoms_spec (ws := wsX0_setWithdrawn) B.pre
  have hown : s.vm.findClass RX0 = some m.cls := findClass_of_methodNamed B.named
  have hlocks := B.notSynchronized
  subst hsz
  have hD := hD0.self (sz := s.heap.size)
  generalize hAe : va_A ([(g, .inr (iX0, [.int (nI n), .int wd, .ref xn, .ref xf]))]) s.heap.size = A at hD ⊢
  have hA : ∀ q : Nat, s.heap.size ≤ q → A q := fun q h => by rw [← hAe]; exact Or.inr h
  have hS : va_S A s.heap s.heap [] := va_S.rf
  have hP : va_P (dC, dI) vwCl ([(g, .inr (iX0, [.int (nI n), .int wd, .ref xn, .ref xf]))]) s.heap := hP
  have hl := lv_entry ([.ref g, .int i, .int j]) (n := 3) (Nat.le_of_ble_eq_true rfl)
  rw [lg_entry_eq]
  generalize (lg_sl ([.ref g, .int i, .int j]) ++ List.replicate (3 - (lg_sl ([.ref g, .int i, .int j])).length) Slot.unset).toArray = ls at hl ⊢
  have hl : lv_has ls 3 [(0, .ref g), (1, .int i), (2, .int j)] := hl
  have hfl_34 := hts (.fieldLink RX0 34 "Greenwheels$Claims" "withdrawn" "I") (by decide +kernel)
  have hin_X0 : ∀ w ∈ u_ws RX0 TX0 4, w ∈ wsX0_setWithdrawn := by decide +kernel
  refine lv_aload_n hx hb dX0_setWithdrawn_0 rfl (lv_at hl 0 rfl) ?_
  refine lv_iload_n hx hb dX0_setWithdrawn_1 rfl (lv_at hl 2 rfl) ?_
  refine lv_if_eq (tgt := 16) hx hb dX0_setWithdrawn_2 (by decide) (fun c_1 => ?_) (fun c_1 => ?_)
  · refine lv_aload_n hx hb dX0_setWithdrawn_16 rfl (lv_at hl 0 rfl) ?_
    refine va_get (D := (dC, dI)) (ci := iX0) (v := .int wd) (C := RX0) (T := TX0) (N := 4) hx hb hts hin_X0 hown hK hP 0 rfl rfl 1 (by decide) hfl_34 (fun _ h9 => h9) rfl dX0_setWithdrawn_17 ?_
    refine lv_iconst (v := 1) hx hb dX0_setWithdrawn_20 (by decide) ?_
    refine lv_iload_n hx hb dX0_setWithdrawn_21 rfl (lv_at hl 1 rfl) ?_
    refine lv_ishl hx hb dX0_setWithdrawn_22 ?_
    refine lv_iconst (v := (-1)) hx hb dX0_setWithdrawn_23 (by decide) ?_
    refine lv_ixor hx hb dX0_setWithdrawn_24 ?_
    refine lv_iand hx hb dX0_setWithdrawn_25 ?_
    refine va_put (D := (dC, dI)) (ci := iX0) (v := .int (wd &&& ((1 <<< (i &&& 31)) ^^^ ((-1))))) (ty := .int) (C := RX0) (T := TX0) (N := 4) hx hb hts hin_X0 tyX0 tyX0_ok nmX0 hown hK hP hD hS 0 rfl rfl 1 (by decide) hfl_34 (fun _ h9 => h9) rfl (by decide +kernel) rfl rfl (Nat.le_of_ble_eq_true rfl) dX0_setWithdrawn_26 (fun H locs hP hD hS => ?_)
    have hP : va_P (dC, dI) vwCl ([(g, .inr (iX0, [.int (nI n), .int (wd &&& ((1 <<< (i &&& 31)) ^^^ ((-1)))), .ref xn, .ref xf]))]) H := hP
    have hD : va_D A ([(g, .inr (iX0, [.int (nI n), .int (wd &&& ((1 <<< (i &&& 31)) ^^^ ((-1)))), .ref xn, .ref xf]))]) := hD
    refine W.widen (k := 0) (n := 0) (by omega) (by omega) ?_
    have eq_2 : ([(g, .inr (iX0, [.int (nI n), .int (wd &&& ((1 <<< (i &&& 31)) ^^^ ((-1)))), .ref xn, .ref xf]))] : va_W) = [(g, .inr (iX0, [.int (nI n), .int (swF wd i j), .ref xn, .ref xf]))] := (by first | rfl | (simp [swF, c_1]; done) | contradiction)
    rw [eq_2] at hP hD
    exact W.vret hx hb hr (fun t ht hW => ⟨⟨(), rfl, trivial, ⟨by rw [ht]; exact hP, hAe ▸ hD⟩⟩, hS.F ht⟩) hS.2.2 dX0_setWithdrawn_29
  · refine lv_aload_n hx hb dX0_setWithdrawn_5 rfl (lv_at hl 0 rfl) ?_
    refine va_get (D := (dC, dI)) (ci := iX0) (v := .int wd) (C := RX0) (T := TX0) (N := 4) hx hb hts hin_X0 hown hK hP 0 rfl rfl 1 (by decide) hfl_34 (fun _ h9 => h9) rfl dX0_setWithdrawn_6 ?_
    refine lv_iconst (v := 1) hx hb dX0_setWithdrawn_9 (by decide) ?_
    refine lv_iload_n hx hb dX0_setWithdrawn_10 rfl (lv_at hl 1 rfl) ?_
    refine lv_ishl hx hb dX0_setWithdrawn_11 ?_
    refine lv_ior hx hb dX0_setWithdrawn_12 ?_
    refine lv_goto (tgt := 26) hx hb dX0_setWithdrawn_13 (by decide) ?_
    refine va_put (D := (dC, dI)) (ci := iX0) (v := .int (wd ||| (1 <<< (i &&& 31)))) (ty := .int) (C := RX0) (T := TX0) (N := 4) hx hb hts hin_X0 tyX0 tyX0_ok nmX0 hown hK hP hD hS 0 rfl rfl 1 (by decide) hfl_34 (fun _ h9 => h9) rfl (by decide +kernel) rfl rfl (Nat.le_of_ble_eq_true rfl) dX0_setWithdrawn_26 (fun H locs hP hD hS => ?_)
    have hP : va_P (dC, dI) vwCl ([(g, .inr (iX0, [.int (nI n), .int (wd ||| (1 <<< (i &&& 31))), .ref xn, .ref xf]))]) H := hP
    have hD : va_D A ([(g, .inr (iX0, [.int (nI n), .int (wd ||| (1 <<< (i &&& 31))), .ref xn, .ref xf]))]) := hD
    refine W.widen (k := 0) (n := 0) (by omega) (by omega) ?_
    have eq_3 : ([(g, .inr (iX0, [.int (nI n), .int (wd ||| (1 <<< (i &&& 31))), .ref xn, .ref xf]))] : va_W) = [(g, .inr (iX0, [.int (nI n), .int (swF wd i j), .ref xn, .ref xf]))] := (by first | rfl | (simp [swF, c_1]; done) | contradiction)
    rw [eq_3] at hP hD
    exact W.vret hx hb hr (fun t ht hW => ⟨⟨(), rfl, trivial, ⟨by rw [ht]; exact hP, hAe ▸ hD⟩⟩, hS.F ht⟩) hS.2.2 dX0_setWithdrawn_29

set_option maxHeartbeats 4000000 in
set_option maxRecDepth 100000 in
theorem c_X0_hangsOn (l : Launch) (dC : Nat → ClassId) (dI : Nat → Nat → Nat) (cI cF : ClassId) (tr : List (ClassId × FieldType)) (sz : Nat) (g : Nat) (n : Nat) (wd : Int32) (xn : Nat) (xf : Nat) (nr : Nat → Int32) (i : Int32) : Met l yX0_hangsOn wsX0_hangsOn ({ frames := 1, cells := 0, slots := 0, locals := 21 } : Room) (cPc dC dI ((cI, .int) :: (cF, .object RX1) :: tr) sz ([(g, .inr (iX0, [.int (nI n), .int wd, .ref xn, .ref xf])), (xn, .inl (cI, 12, .inl (nr)))]) [.ref g, .int i]) (va_Qi (fun (r : Int32) (_ : Unit) => r = atF 12 nr i) (fun _ _ => True) (va_A ([]) sz)) 0 0 (va_A ([]) sz) := by
  refine Met.ofW (cc := cX0_hangsOn) (maxL := 2) (ret := (some .int)) (by decide) rfl ?_
  intro p e s m args below meth c s₁ B hml hv
  obtain ⟨rfl, hsz, hP, hK, hN⟩ := hv
  have hx := B.exec
  have hb := B.bytes
  have hr := B.returns
  have hts := atoms_spec (ws := wsX0_hangsOn) B.pre
  have hown : s.vm.findClass RX0 = some m.cls := findClass_of_methodNamed B.named
  have hlocks := B.notSynchronized
  subst hsz
  generalize hAe : va_A [] s.heap.size = A
  have hA : ∀ q : Nat, s.heap.size ≤ q → A q := fun q h => by rw [← hAe]; exact Or.inr h
  have hS : va_S A s.heap s.heap [] := va_S.rf
  have hAn : ∀ q : Nat, q < s.heap.size → ¬ A q := fun q h => by rw [← hAe]; exact notZ h
  have hAg : ∀ q : Nat, A q → s.heap.size ≤ q := fun q h => geZ (hAe ▸ h)
  have hR0 : va_P (dC, dI) vwCl ([(g, .inr (iX0, [.int (nI n), .int wd, .ref xn, .ref xf])), (xn, .inl (cI, 12, .inl (nr)))]) s.heap := hP
  have hR : va_P (dC, dI) vwCl ([(g, .inr (iX0, [.int (nI n), .int wd, .ref xn, .ref xf])), (xn, .inl (cI, 12, .inl (nr)))]) s.heap := hP
  have hP : va_P (dC, dI) vwCl [] s.heap := fun k q h => by simp at h
  have hD : va_D A [] := ⟨fun i j p q h => by simp at h, fun k q h => by simp at h⟩
  have hl := lv_entry ([.ref g, .int i]) (n := 2) (Nat.le_of_ble_eq_true rfl)
  rw [lg_entry_eq]
  generalize (lg_sl ([.ref g, .int i]) ++ List.replicate (2 - (lg_sl ([.ref g, .int i])).length) Slot.unset).toArray = ls at hl ⊢
  have hl : lv_has ls 2 [(0, .ref g), (1, .int i)] := hl
  have hfl_9 := hts (.fieldLink RX0 9 "Greenwheels$Claims" "near" "[I") (by decide +kernel)
  have hin_X0 : ∀ w ∈ u_ws RX0 TX0 4, w ∈ wsX0_hangsOn := by decide +kernel
  have hw_iniX5 := hts (.initialized RX5) (by decide +kernel)
  have hw_staX5_at := hts (.static yX5_at) (by decide +kernel)
  refine lv_aload_n hx hb dX0_hangsOn_0 rfl (lv_at hl 0 rfl) ?_
  refine va_get (D := (dC, dI)) (ci := iX0) (v := .ref xn) (C := RX0) (T := TX0) (N := 4) hx hb hts hin_X0 hown hK hR 0 rfl rfl 2 (by decide) hfl_9 (fun _ h9 => h9) rfl dX0_hangsOn_1 ?_
  refine lv_iload_n hx hb dX0_hangsOn_4 rfl (lv_at hl 1 rfl) ?_
  have hPc : va_P (dC, dI) vwCl ([(xn, .inl (cI, 12, .inl (nr)))]) _ := hR.sub [1] rfl
  have hFc := frZ hS hA
  refine va_calli (va_runSN (host := RX5) (As := [.ref xn, .int i]) (rest := []) ⟨hx, hb, hml, hown, hts⟩ (c_X5_at l dC dI cI cF tr (s.heap).size xn 12 nr i (by decide)) ⟨va_cnB 2 hts gX0_hangsOn_X5_at_n26 rfl rfl rfl (nwAt hN (RX0, 26, yX5_at) (by decide +kernel)) hw_iniX5 (by decide +kernel) ⟨Nat.le_of_ble_eq_true rfl, Nat.le_of_ble_eq_true rfl⟩, hw_staX5_at, trivial⟩ ⟨cBl, (cPre hPc hK hN)⟩ rfl rfl hl.1 rfl (lv_room (Nat.le_of_ble_eq_true rfl)) dX0_hangsOn_5 ⟨(Nat.le_of_ble_eq_true rfl), (Nat.le_of_ble_eq_true rfl)⟩) hS (fun q _ h => hFc q h) hFc (fun r_1 u t H1 locs ht hvm hw_r_1 hB hz1 hk1 hS => ?_)
  refine W.widen (k := 0) (n := 0) (Nat.le_refl _) (Nat.le_refl _) ?_
  have hP := keepP hP hk1
  have hR := keepP hR hk1
  generalize H1 = H at hP hR hS ⊢
  have hP : va_P (dC, dI) vwCl ([]) H := hP
  try dsimp only at hw_r_1
  subst hw_r_1
  refine W.widen (k := 0) (n := 0) (by omega) (by omega) ?_
  exact W.iret (v := atF 12 nr i) hx hb hr (fun t ht hW => ⟨⟨atF 12 nr i, (), rfl, (by first | (simp []; done) | contradiction), trivial⟩, hS.F ht⟩) hS.2.2 dX0_hangsOn_8

set_option maxHeartbeats 4000000 in
set_option maxRecDepth 100000 in
theorem c_X0_isWithdrawn (l : Launch) (dC : Nat → ClassId) (dI : Nat → Nat → Nat) (cI cF : ClassId) (tr : List (ClassId × FieldType)) (sz : Nat) (g : Nat) (n : Nat) (wd : Int32) (xn : Nat) (xf : Nat) (i : Int32) : Met l yX0_isWithdrawn wsX0_isWithdrawn ({ frames := 1, cells := 0, slots := 0, locals := 21 } : Room) (cPc dC dI ((cI, .int) :: (cF, .object RX1) :: tr) sz ([(g, .inr (iX0, [.int (nI n), .int wd, .ref xn, .ref xf]))]) [.ref g, .int i]) (va_Qi (fun (r : Int32) (_ : Unit) => r = isInF wd i) (fun _ _ => True) (va_A ([]) sz)) 0 0 (va_A ([]) sz) := by
  refine Met.ofW (cc := cX0_isWithdrawn) (maxL := 2) (ret := (some .boolean)) (by decide) rfl ?_
  intro p e s m args below meth c s₁ B hml hv
  obtain ⟨rfl, hsz, hP, hK, hN⟩ := hv
  have hx := B.exec
  have hb := B.bytes
  have hr := B.returns
  have hts := atoms_spec (ws := wsX0_isWithdrawn) B.pre
  have hown : s.vm.findClass RX0 = some m.cls := findClass_of_methodNamed B.named
  have hlocks := B.notSynchronized
  subst hsz
  generalize hAe : va_A [] s.heap.size = A
  have hA : ∀ q : Nat, s.heap.size ≤ q → A q := fun q h => by rw [← hAe]; exact Or.inr h
  have hS : va_S A s.heap s.heap [] := va_S.rf
  have hAn : ∀ q : Nat, q < s.heap.size → ¬ A q := fun q h => by rw [← hAe]; exact notZ h
  have hAg : ∀ q : Nat, A q → s.heap.size ≤ q := fun q h => geZ (hAe ▸ h)
  have hR0 : va_P (dC, dI) vwCl ([(g, .inr (iX0, [.int (nI n), .int wd, .ref xn, .ref xf]))]) s.heap := hP
  have hR : va_P (dC, dI) vwCl ([(g, .inr (iX0, [.int (nI n), .int wd, .ref xn, .ref xf]))]) s.heap := hP
  have hP : va_P (dC, dI) vwCl [] s.heap := fun k q h => by simp at h
  have hD : va_D A [] := ⟨fun i j p q h => by simp at h, fun k q h => by simp at h⟩
  have hl := lv_entry ([.ref g, .int i]) (n := 2) (Nat.le_of_ble_eq_true rfl)
  rw [lg_entry_eq]
  generalize (lg_sl ([.ref g, .int i]) ++ List.replicate (2 - (lg_sl ([.ref g, .int i])).length) Slot.unset).toArray = ls at hl ⊢
  have hl : lv_has ls 2 [(0, .ref g), (1, .int i)] := hl
  have hfl_34 := hts (.fieldLink RX0 34 "Greenwheels$Claims" "withdrawn" "I") (by decide +kernel)
  have hin_X0 : ∀ w ∈ u_ws RX0 TX0 4, w ∈ wsX0_isWithdrawn := by decide +kernel
  have hw_iniX5 := hts (.initialized RX5) (by decide +kernel)
  have hw_staX5_isIn := hts (.static yX5_isIn) (by decide +kernel)
  refine lv_aload_n hx hb dX0_isWithdrawn_0 rfl (lv_at hl 0 rfl) ?_
  refine va_get (D := (dC, dI)) (ci := iX0) (v := .int wd) (C := RX0) (T := TX0) (N := 4) hx hb hts hin_X0 hown hK hR 0 rfl rfl 1 (by decide) hfl_34 (fun _ h9 => h9) rfl dX0_isWithdrawn_1 ?_
  refine lv_iload_n hx hb dX0_isWithdrawn_4 rfl (lv_at hl 1 rfl) ?_
  have hPc : va_P (dC, dI) vwCl [] s.heap := nilP
  have hFc := frZ hS hA
  refine va_calli (va_runSN (host := RX5) (As := [.int wd, .int i]) (rest := []) ⟨hx, hb, hml, hown, hts⟩ (c_X5_isIn l dC dI cI cF tr (s.heap).size wd i) ⟨va_cnB 2 hts gX0_isWithdrawn_X5_isIn_n22 rfl rfl rfl (nwAt hN (RX0, 22, yX5_isIn) (by decide +kernel)) hw_iniX5 (by decide +kernel) ⟨Nat.le_of_ble_eq_true rfl, Nat.le_of_ble_eq_true rfl⟩, hw_staX5_isIn, trivial⟩ ⟨cBl, (cPre hPc hK hN)⟩ rfl rfl hl.1 rfl (lv_room (Nat.le_of_ble_eq_true rfl)) dX0_isWithdrawn_5 ⟨(Nat.le_of_ble_eq_true rfl), (Nat.le_of_ble_eq_true rfl)⟩) hS (fun q _ h => hFc q h) hFc (fun r_1 u t H1 locs ht hvm hw_r_1 hB hz1 hk1 hS => ?_)
  refine W.widen (k := 0) (n := 0) (Nat.le_refl _) (Nat.le_refl _) ?_
  have hP := keepP hP hk1
  have hR := keepP hR hk1
  generalize H1 = H at hP hR hS ⊢
  have hP : va_P (dC, dI) vwCl ([]) H := hP
  try dsimp only at hw_r_1
  subst hw_r_1
  refine W.widen (k := 0) (n := 0) (by omega) (by omega) ?_
  exact W.zret (v := isInF wd i) hx hb hr (isInF_01 _ _) (fun t ht hW => ⟨⟨isInF wd i, (), rfl, (by first | (simp []; done) | contradiction), trivial⟩, hS.F ht⟩) hS.2.2 dX0_isWithdrawn_8

set_option maxHeartbeats 4000000 in
set_option maxRecDepth 100000 in
theorem c_X0_standingWithout (l : Launch) (dC : Nat → ClassId) (dI : Nat → Nat → Nat) (cI cF : ClassId) (tr : List (ClassId × FieldType)) (sz : Nat) (g : Nat) (n : Nat) (wd : Int32) (xn : Nat) (xf : Nat) (nr : Nat → Int32) (i : Int32) (hn : n ≤ 12) : Met l yX0_standingWithout wsX0_standingWithout ({ frames := 1, cells := 0, slots := 0, locals := 21 } : Room) (cPc dC dI ((cI, .int) :: (cF, .object RX1) :: tr) sz ([(g, .inr (iX0, [.int (nI n), .int wd, .ref xn, .ref xf])), (xn, .inl (cI, 12, .inl (nr)))]) [.ref g, .int i]) (va_Qi (fun (r : Int32) (_ : Unit) => r = stL nr i n) (fun _ _ => True) (va_A ([]) sz)) 0 0 (va_A ([]) sz) := by
  refine Met.ofW (cc := cX0_standingWithout) (maxL := 4) (ret := (some .int)) (by decide) rfl ?_
  intro p e s m args below meth c s₁ B hml hv
  obtain ⟨rfl, hsz, hP, hK, hN⟩ := hv
  have hx := B.exec
  have hb := B.bytes
  have hr := B.returns
  have hts := atoms_spec (ws := wsX0_standingWithout) B.pre
  have hown : s.vm.findClass RX0 = some m.cls := findClass_of_methodNamed B.named
  have hlocks := B.notSynchronized
  subst hsz
  generalize hAe : va_A [] s.heap.size = A
  have hA : ∀ q : Nat, s.heap.size ≤ q → A q := fun q h => by rw [← hAe]; exact Or.inr h
  have hS : va_S A s.heap s.heap [] := va_S.rf
  have hAn : ∀ q : Nat, q < s.heap.size → ¬ A q := fun q h => by rw [← hAe]; exact notZ h
  have hAg : ∀ q : Nat, A q → s.heap.size ≤ q := fun q h => geZ (hAe ▸ h)
  have hR0 : va_P (dC, dI) vwCl ([(g, .inr (iX0, [.int (nI n), .int wd, .ref xn, .ref xf])), (xn, .inl (cI, 12, .inl (nr)))]) s.heap := hP
  have hR : va_P (dC, dI) vwCl ([(g, .inr (iX0, [.int (nI n), .int wd, .ref xn, .ref xf])), (xn, .inl (cI, 12, .inl (nr)))]) s.heap := hP
  have hP : va_P (dC, dI) vwCl [] s.heap := fun k q h => by simp at h
  have hD : va_D A [] := ⟨fun i j p q h => by simp at h, fun k q h => by simp at h⟩
  have hl := lv_entry ([.ref g, .int i]) (n := 4) (Nat.le_of_ble_eq_true rfl)
  rw [lg_entry_eq]
  generalize (lg_sl ([.ref g, .int i]) ++ List.replicate (4 - (lg_sl ([.ref g, .int i])).length) Slot.unset).toArray = ls at hl ⊢
  have hl : lv_has ls 4 [(0, .ref g), (1, .int i)] := hl
  have hfl_18 := hts (.fieldLink RX0 18 "Greenwheels$Claims" "count" "I") (by decide +kernel)
  have hin_X0 : ∀ w ∈ u_ws RX0 TX0 4, w ∈ wsX0_standingWithout := by decide +kernel
  have hw_iniX5 := hts (.initialized RX5) (by decide +kernel)
  have hw_staX5_isIn := hts (.static yX5_isIn) (by decide +kernel)
  have hfl_9 := hts (.fieldLink RX0 9 "Greenwheels$Claims" "near" "[I") (by decide +kernel)
  have hw_staX5_at := hts (.static yX5_at) (by decide +kernel)
  refine lv_iconst (v := 0) hx hb dX0_standingWithout_0 (by decide) ?_
  refine lv_istore_n (lv' := [(2, .int 0), (0, .ref g), (1, .int i)]) hx hb dX0_standingWithout_1 rfl hl (by decide) rfl (fun ls hl => ?_)
  refine lv_iconst (v := 0) hx hb dX0_standingWithout_2 (by decide) ?_
  refine lv_istore_n (lv' := [(3, .int 0), (2, .int 0), (0, .ref g), (1, .int i)]) hx hb dX0_standingWithout_3 rfl hl (by decide) rfl (fun ls hl => ?_)
  have K4 : ∀ (NN : Nat), ∀ (k : Nat) (acc : Int32), (n - k) < NN → (k ≤ n) → (acc = stL nr i k) → ∀ (H : Heap) (locs : List Loc) (ls : Array Slot), va_P (dC, dI) vwCl ([]) H → va_S A s.heap H locs → lv_has ls 4 [(0, .ref g), (1, .int i), (2, .int acc), (3, .int (nI k))] → W p l e (headSpec wsX0_standingWithout ({ frames := 1, cells := 0, slots := 0, locals := 21 } : Room)).room s m #[Value.ref g, Value.int i] below meth c H locs (0) (0) (MQ below (va_Qi (fun (r : Int32) (_ : Unit) => r = stL nr i n) (fun _ _ => True) A) #[Value.ref g, Value.int i] s 0 0 A) (F0 m 4 ls []) := by
    intro NN
    induction NN with
    | zero =>
      intro k acc hmu hk hacc H locs ls hP hS hl
      exact absurd hmu (Nat.not_lt_zero _)
    | succ NN ih4 =>
      intro k acc hmu hk hacc H locs ls hP hS hl
      have hR := keepR hR0 hS hAn
      refine lv_iload_n hx hb dX0_standingWithout_4 rfl (lv_at hl 3 rfl) ?_
      refine lv_aload_n hx hb dX0_standingWithout_5 rfl (lv_at hl 0 rfl) ?_
      refine va_get (D := (dC, dI)) (ci := iX0) (v := .int (nI n)) (C := RX0) (T := TX0) (N := 4) hx hb hts hin_X0 hown hK hR 0 rfl rfl 0 (by decide) hfl_18 (fun _ h9 => h9) rfl dX0_standingWithout_6 ?_
      refine lv_icmp_ge (tgt := 47) hx hb dX0_standingWithout_9 (by decide) (fun c_1 => ?_) (fun c_1 => ?_)
      · have hke : n ≤ k := leK (by omega) (by omega) c_1
        have hkn : k = n := by omega
        rw [hkn] at hacc
        refine lv_iload_n hx hb dX0_standingWithout_47 rfl (lv_at hl 2 rfl) ?_
        refine W.widen (k := 0) (n := 0) (by omega) (by omega) ?_
        exact W.iret (v := acc) hx hb hr (fun t ht hW => ⟨⟨acc, (), rfl, hacc, trivial⟩, hS.F ht⟩) hS.2.2 dX0_standingWithout_48
      · have hkl : k < n := ltK (by omega) (by omega) c_1
        refine lv_iload_n hx hb dX0_standingWithout_12 rfl (lv_at hl 1 rfl) ?_
        refine lv_iload_n hx hb dX0_standingWithout_13 rfl (lv_at hl 3 rfl) ?_
        have hPc : va_P (dC, dI) vwCl [] H := nilP
        have hFc := frZ hS hA
        refine va_calli (va_runSN (host := RX5) (As := [.int i, .int (nI k)]) (rest := []) ⟨hx, hb, hml, hown, hts⟩ (c_X5_isIn l dC dI cI cF tr (H).size i (nI k)) ⟨va_cnB 2 hts gX0_standingWithout_X5_isIn_n22 rfl rfl rfl (nwAt hN (RX0, 22, yX5_isIn) (by decide +kernel)) hw_iniX5 (by decide +kernel) ⟨Nat.le_of_ble_eq_true rfl, Nat.le_of_ble_eq_true rfl⟩, hw_staX5_isIn, trivial⟩ ⟨cBl, (cPre hPc hK hN)⟩ rfl rfl hl.1 rfl (lv_room (Nat.le_of_ble_eq_true rfl)) dX0_standingWithout_14 ⟨(Nat.le_of_ble_eq_true rfl), (Nat.le_of_ble_eq_true rfl)⟩) hS (fun q _ h => hFc q h) hFc (fun r_2 u t H1 locs ht hvm hw_r_2 hB hz1 hk1 hS => ?_)
        refine W.widen (k := 0) (n := 0) (Nat.le_refl _) (Nat.le_refl _) ?_
        have hP := keepP hP hk1
        have hR := keepP hR hk1
        generalize H1 = H at hP hR hS ⊢
        have hP : va_P (dC, dI) vwCl ([]) H := hP
        try dsimp only at hw_r_2
        subst hw_r_2
        refine lv_if_ne (tgt := 41) hx hb dX0_standingWithout_17 (by decide) (fun c_3 => ?_) (fun c_3 => ?_)
        · refine lv_iinc (v := nI (k + 1)) (lv' := [(3, .int (nI (k + 1))), (0, .ref g), (1, .int i), (2, .int acc)]) hx hb dX0_standingWithout_41 hl (k := 3) rfl (nI_1 k) (by decide) rfl (fun ls hl => ?_)
          refine lv_goto (tgt := 4) hx hb dX0_standingWithout_44 (by decide) ?_
          refine W.widen (k := 0) (n := 0) (by omega) (by omega) ?_
          exact ih4 (k + 1) acc (by omega) hkl (by rw [hacc] at *; simp only [stL, ↓reduceIte, c_3]) _ _ ls hP hS (lv_sub hl [1, 2, 3, 0] rfl)
        · refine lv_aload_n hx hb dX0_standingWithout_20 rfl (lv_at hl 0 rfl) ?_
          refine va_get (D := (dC, dI)) (ci := iX0) (v := .ref xn) (C := RX0) (T := TX0) (N := 4) hx hb hts hin_X0 hown hK hR 0 rfl rfl 2 (by decide) hfl_9 (fun _ h9 => h9) rfl dX0_standingWithout_21 ?_
          refine lv_iload_n hx hb dX0_standingWithout_24 rfl (lv_at hl 3 rfl) ?_
          have hPc : va_P (dC, dI) vwCl ([(xn, .inl (cI, 12, .inl (nr)))]) _ := hR.sub [1] rfl
          have hFc := frZ hS hA
          refine va_calli (va_runSN (host := RX5) (As := [.ref xn, .int (nI k)]) (rest := []) ⟨hx, hb, hml, hown, hts⟩ (c_X5_at l dC dI cI cF tr (H).size xn 12 nr (nI k) (by decide)) ⟨va_cnB 2 hts gX0_standingWithout_X5_at_n26 rfl rfl rfl (nwAt hN (RX0, 26, yX5_at) (by decide +kernel)) hw_iniX5 (by decide +kernel) ⟨Nat.le_of_ble_eq_true rfl, Nat.le_of_ble_eq_true rfl⟩, hw_staX5_at, trivial⟩ ⟨cBl, (cPre hPc hK hN)⟩ rfl rfl hl.1 rfl (lv_room (Nat.le_of_ble_eq_true rfl)) dX0_standingWithout_25 ⟨(Nat.le_of_ble_eq_true rfl), (Nat.le_of_ble_eq_true rfl)⟩) hS (fun q _ h => hFc q h) hFc (fun r_4 u t H1 locs ht hvm hw_r_4 hB hz1 hk1 hS => ?_)
          refine W.widen (k := 0) (n := 0) (Nat.le_refl _) (Nat.le_refl _) ?_
          have hP := keepP hP hk1
          have hR := keepP hR hk1
          generalize H1 = H at hP hR hS ⊢
          have hP : va_P (dC, dI) vwCl ([]) H := hP
          try dsimp only at hw_r_4
          subst hw_r_4
          refine lv_iload_n hx hb dX0_standingWithout_28 rfl (lv_at hl 2 rfl) ?_
          refine lv_iconst (v := (-1)) hx hb dX0_standingWithout_29 (by decide) ?_
          refine lv_ixor hx hb dX0_standingWithout_30 ?_
          refine lv_iand hx hb dX0_standingWithout_31 ?_
          refine lv_if_ne (tgt := 41) hx hb dX0_standingWithout_32 (by decide) (fun c_5 => ?_) (fun c_5 => ?_)
          · refine lv_iinc (v := nI (k + 1)) (lv' := [(3, .int (nI (k + 1))), (0, .ref g), (1, .int i), (2, .int acc)]) hx hb dX0_standingWithout_41 hl (k := 3) rfl (nI_1 k) (by decide) rfl (fun ls hl => ?_)
            refine lv_goto (tgt := 4) hx hb dX0_standingWithout_44 (by decide) ?_
            refine W.widen (k := 0) (n := 0) (by omega) (by omega) ?_
            exact ih4 (k + 1) acc (by omega) hkl (by rw [hacc] at *; simp only [stL, ↓reduceIte, c_3, c_5]) _ _ ls hP hS (lv_sub hl [1, 2, 3, 0] rfl)
          · refine lv_iload_n hx hb dX0_standingWithout_35 rfl (lv_at hl 2 rfl) ?_
            refine lv_iconst (v := 1) hx hb dX0_standingWithout_36 (by decide) ?_
            refine lv_iload_n hx hb dX0_standingWithout_37 rfl (lv_at hl 3 rfl) ?_
            refine lv_ishl hx hb dX0_standingWithout_38 ?_
            refine lv_ior hx hb dX0_standingWithout_39 ?_
            refine lv_istore_n (lv' := [(2, .int (acc ||| (1 <<< ((nI k) &&& 31)))), (0, .ref g), (1, .int i), (3, .int (nI k))]) hx hb dX0_standingWithout_40 rfl hl (by decide) rfl (fun ls hl => ?_)
            refine lv_iinc (v := nI (k + 1)) (lv' := [(3, .int (nI (k + 1))), (2, .int (acc ||| (1 <<< ((nI k) &&& 31)))), (0, .ref g), (1, .int i)]) hx hb dX0_standingWithout_41 hl (k := 3) rfl (nI_1 k) (by decide) rfl (fun ls hl => ?_)
            refine lv_goto (tgt := 4) hx hb dX0_standingWithout_44 (by decide) ?_
            refine W.widen (k := 0) (n := 0) (by omega) (by omega) ?_
            exact ih4 (k + 1) (acc ||| (1 <<< ((nI k) &&& 31))) (by omega) hkl (by rw [hacc] at *; simp only [stL, ↓reduceIte, c_3, c_5]) _ _ ls hP hS (lv_sub hl [2, 3, 1, 0] rfl)
  refine W.widen (k := 0) (n := 0) (by omega) (by omega) ?_
  exact K4 (n - 0 + 1) 0 0 (by omega) (Nat.zero_le _) rfl _ _ ls hP hS (lv_sub hl [2, 3, 1, 0] rfl)

set_option maxHeartbeats 4000000 in
set_option maxRecDepth 100000 in
theorem c_X0_isStanding (l : Launch) (dC : Nat → ClassId) (dI : Nat → Nat → Nat) (cI cF : ClassId) (tr : List (ClassId × FieldType)) (sz : Nat) (g : Nat) (n : Nat) (wd : Int32) (xn : Nat) (xf : Nat) (nr : Nat → Int32) (i : Int32) (hn : n ≤ 12) : Met l yX0_isStanding wsX0_isStanding ({ frames := 2, cells := 0, slots := 0, locals := 44 } : Room) (cPc dC dI ((cI, .int) :: (cF, .object RX1) :: tr) sz ([(g, .inr (iX0, [.int (nI n), .int wd, .ref xn, .ref xf])), (xn, .inl (cI, 12, .inl (nr)))]) [.ref g, .int i]) (va_Qi (fun (r : Int32) (_ : Unit) => r = isInF (stL nr wd n) i) (fun _ _ => True) (va_A ([]) sz)) 0 0 (va_A ([]) sz) := by
  refine Met.ofW (cc := cX0_isStanding) (maxL := 2) (ret := (some .boolean)) (by decide) rfl ?_
  intro p e s m args below meth c s₁ B hml hv
  obtain ⟨rfl, hsz, hP, hK, hN⟩ := hv
  have hx := B.exec
  have hb := B.bytes
  have hr := B.returns
  have hts := atoms_spec (ws := wsX0_isStanding) B.pre
  have hown : s.vm.findClass RX0 = some m.cls := findClass_of_methodNamed B.named
  have hlocks := B.notSynchronized
  subst hsz
  generalize hAe : va_A [] s.heap.size = A
  have hA : ∀ q : Nat, s.heap.size ≤ q → A q := fun q h => by rw [← hAe]; exact Or.inr h
  have hS : va_S A s.heap s.heap [] := va_S.rf
  have hAn : ∀ q : Nat, q < s.heap.size → ¬ A q := fun q h => by rw [← hAe]; exact notZ h
  have hAg : ∀ q : Nat, A q → s.heap.size ≤ q := fun q h => geZ (hAe ▸ h)
  have hR0 : va_P (dC, dI) vwCl ([(g, .inr (iX0, [.int (nI n), .int wd, .ref xn, .ref xf])), (xn, .inl (cI, 12, .inl (nr)))]) s.heap := hP
  have hR : va_P (dC, dI) vwCl ([(g, .inr (iX0, [.int (nI n), .int wd, .ref xn, .ref xf])), (xn, .inl (cI, 12, .inl (nr)))]) s.heap := hP
  have hP : va_P (dC, dI) vwCl [] s.heap := fun k q h => by simp at h
  have hD : va_D A [] := ⟨fun i j p q h => by simp at h, fun k q h => by simp at h⟩
  have hl := lv_entry ([.ref g, .int i]) (n := 2) (Nat.le_of_ble_eq_true rfl)
  rw [lg_entry_eq]
  generalize (lg_sl ([.ref g, .int i]) ++ List.replicate (2 - (lg_sl ([.ref g, .int i])).length) Slot.unset).toArray = ls at hl ⊢
  have hl : lv_has ls 2 [(0, .ref g), (1, .int i)] := hl
  have hfl_34 := hts (.fieldLink RX0 34 "Greenwheels$Claims" "withdrawn" "I") (by decide +kernel)
  have hin_X0 : ∀ w ∈ u_ws RX0 TX0 4, w ∈ wsX0_isStanding := by decide +kernel
  have hw_iniX5 := hts (.initialized RX5) (by decide +kernel)
  have hw_staX5_isIn := hts (.static yX5_isIn) (by decide +kernel)
  refine lv_aload_n hx hb dX0_isStanding_0 rfl (lv_at hl 0 rfl) ?_
  refine lv_aload_n hx hb dX0_isStanding_1 rfl (lv_at hl 0 rfl) ?_
  refine va_get (D := (dC, dI)) (ci := iX0) (v := .int wd) (C := RX0) (T := TX0) (N := 4) hx hb hts hin_X0 hown hK hR 0 rfl rfl 1 (by decide) hfl_34 (fun _ h9 => h9) rfl dX0_isStanding_2 ?_
  have hPc : va_P (dC, dI) vwCl ([(g, .inr (iX0, [.int (nI n), .int wd, .ref xn, .ref xf])), (xn, .inl (cI, 12, .inl (nr)))]) _ := hR.sub [0, 1] rfl
  have hFc := frZ hS hA
  refine va_calli (va_runV (As := [.int wd]) (rest := []) ⟨hx, hb, hml, hown, hts⟩ (c_X0_standingWithout l dC dI cI cF tr (s.heap).size g n wd xn xf nr wd (by assumption)) (cwV 1 hts gX0_isStanding_X0_standingWithout rfl rfl rfl (by decide +kernel) ⟨Nat.le_of_ble_eq_true rfl, Nat.le_of_ble_eq_true rfl⟩) ⟨cBl, (va_recv hK hPc (ci := iX0) (q0 := 0) rfl rfl), (cPre hPc hK hN)⟩ rfl rfl hl.1 rfl (lv_room (Nat.le_of_ble_eq_true rfl)) dX0_isStanding_5 ⟨(Nat.le_of_ble_eq_true rfl), (Nat.le_of_ble_eq_true rfl)⟩) hS (fun q _ h => hFc q h) hFc (fun r_1 u t H1 locs ht hvm hw_r_1 hB hz1 hk1 hS => ?_)
  refine W.widen (k := 0) (n := 0) (Nat.le_refl _) (Nat.le_refl _) ?_
  have hP := keepP hP hk1
  have hR := keepP hR hk1
  generalize H1 = H at hP hR hS ⊢
  have hP : va_P (dC, dI) vwCl ([]) H := hP
  try dsimp only at hw_r_1
  subst hw_r_1
  refine lv_iload_n hx hb dX0_isStanding_8 rfl (lv_at hl 1 rfl) ?_
  have hPc : va_P (dC, dI) vwCl [] H := nilP
  have hFc := frZ hS hA
  refine va_calli (va_runSN (host := RX5) (As := [.int (stL nr wd n), .int i]) (rest := []) ⟨hx, hb, hml, hown, hts⟩ (c_X5_isIn l dC dI cI cF tr (H).size (stL nr wd n) i) ⟨va_cnB 2 hts gX0_isStanding_X5_isIn_n22 rfl rfl rfl (nwAt hN (RX0, 22, yX5_isIn) (by decide +kernel)) hw_iniX5 (by decide +kernel) ⟨Nat.le_of_ble_eq_true rfl, Nat.le_of_ble_eq_true rfl⟩, hw_staX5_isIn, trivial⟩ ⟨cBl, (cPre hPc hK hN)⟩ rfl rfl hl.1 rfl (lv_room (Nat.le_of_ble_eq_true rfl)) dX0_isStanding_9 ⟨(Nat.le_of_ble_eq_true rfl), (Nat.le_of_ble_eq_true rfl)⟩) hS (fun q _ h => hFc q h) hFc (fun r_2 u t H1 locs ht hvm hw_r_2 hB hz1 hk1 hS => ?_)
  refine W.widen (k := 0) (n := 0) (Nat.le_refl _) (Nat.le_refl _) ?_
  have hP := keepP hP hk1
  have hR := keepP hR hk1
  generalize H1 = H at hP hR hS ⊢
  have hP : va_P (dC, dI) vwCl ([]) H := hP
  try dsimp only at hw_r_2
  subst hw_r_2
  refine W.widen (k := 0) (n := 0) (by omega) (by omega) ?_
  exact W.zret (v := isInF (stL nr wd n) i) hx hb hr (isInF_01 _ _) (fun t ht hW => ⟨⟨isInF (stL nr wd n) i, (), rfl, (by first | (simp []; done) | contradiction), trivial⟩, hS.F ht⟩) hS.2.2 dX0_isStanding_12

set_option maxHeartbeats 4000000 in
set_option maxRecDepth 100000 in
theorem c_X0_countStanding (l : Launch) (dC : Nat → ClassId) (dI : Nat → Nat → Nat) (cI cF : ClassId) (tr : List (ClassId × FieldType)) (sz : Nat) (g : Nat) (n : Nat) (wd : Int32) (xn : Nat) (xf : Nat) (nr : Nat → Int32) (hn : n ≤ 12) : Met l yX0_countStanding wsX0_countStanding ({ frames := 2, cells := 0, slots := 0, locals := 44 } : Room) (cPc dC dI ((cI, .int) :: (cF, .object RX1) :: tr) sz ([(g, .inr (iX0, [.int (nI n), .int wd, .ref xn, .ref xf])), (xn, .inl (cI, 12, .inl (nr)))]) [.ref g]) (va_Qi (fun (r : Int32) (_ : Unit) => r = bcF (stL nr wd n)) (fun _ _ => True) (va_A ([]) sz)) 0 0 (va_A ([]) sz) := by
  refine Met.ofW (cc := cX0_countStanding) (maxL := 1) (ret := (some .int)) (by decide) rfl ?_
  intro p e s m args below meth c s₁ B hml hv
  obtain ⟨rfl, hsz, hP, hK, hN⟩ := hv
  have hx := B.exec
  have hb := B.bytes
  have hr := B.returns
  have hts := atoms_spec (ws := wsX0_countStanding) B.pre
  have hown : s.vm.findClass RX0 = some m.cls := findClass_of_methodNamed B.named
  have hlocks := B.notSynchronized
  subst hsz
  generalize hAe : va_A [] s.heap.size = A
  have hA : ∀ q : Nat, s.heap.size ≤ q → A q := fun q h => by rw [← hAe]; exact Or.inr h
  have hS : va_S A s.heap s.heap [] := va_S.rf
  have hAn : ∀ q : Nat, q < s.heap.size → ¬ A q := fun q h => by rw [← hAe]; exact notZ h
  have hAg : ∀ q : Nat, A q → s.heap.size ≤ q := fun q h => geZ (hAe ▸ h)
  have hR0 : va_P (dC, dI) vwCl ([(g, .inr (iX0, [.int (nI n), .int wd, .ref xn, .ref xf])), (xn, .inl (cI, 12, .inl (nr)))]) s.heap := hP
  have hR : va_P (dC, dI) vwCl ([(g, .inr (iX0, [.int (nI n), .int wd, .ref xn, .ref xf])), (xn, .inl (cI, 12, .inl (nr)))]) s.heap := hP
  have hP : va_P (dC, dI) vwCl [] s.heap := fun k q h => by simp at h
  have hD : va_D A [] := ⟨fun i j p q h => by simp at h, fun k q h => by simp at h⟩
  have hl := lv_entry ([.ref g]) (n := 1) (Nat.le_of_ble_eq_true rfl)
  rw [lg_entry_eq]
  generalize (lg_sl ([.ref g]) ++ List.replicate (1 - (lg_sl ([.ref g])).length) Slot.unset).toArray = ls at hl ⊢
  have hl : lv_has ls 1 [(0, .ref g)] := hl
  have hfl_34 := hts (.fieldLink RX0 34 "Greenwheels$Claims" "withdrawn" "I") (by decide +kernel)
  have hin_X0 : ∀ w ∈ u_ws RX0 TX0 4, w ∈ wsX0_countStanding := by decide +kernel
  refine lv_aload_n hx hb dX0_countStanding_0 rfl (lv_at hl 0 rfl) ?_
  refine lv_aload_n hx hb dX0_countStanding_1 rfl (lv_at hl 0 rfl) ?_
  refine va_get (D := (dC, dI)) (ci := iX0) (v := .int wd) (C := RX0) (T := TX0) (N := 4) hx hb hts hin_X0 hown hK hR 0 rfl rfl 1 (by decide) hfl_34 (fun _ h9 => h9) rfl dX0_countStanding_2 ?_
  have hPc : va_P (dC, dI) vwCl ([(g, .inr (iX0, [.int (nI n), .int wd, .ref xn, .ref xf])), (xn, .inl (cI, 12, .inl (nr)))]) _ := hR.sub [0, 1] rfl
  have hFc := frZ hS hA
  refine va_calli (va_runV (As := [.int wd]) (rest := []) ⟨hx, hb, hml, hown, hts⟩ (c_X0_standingWithout l dC dI cI cF tr (s.heap).size g n wd xn xf nr wd (by assumption)) (cwV 1 hts gX0_countStanding_X0_standingWithout rfl rfl rfl (by decide +kernel) ⟨Nat.le_of_ble_eq_true rfl, Nat.le_of_ble_eq_true rfl⟩) ⟨cBl, (va_recv hK hPc (ci := iX0) (q0 := 0) rfl rfl), (cPre hPc hK hN)⟩ rfl rfl hl.1 rfl (lv_room (Nat.le_of_ble_eq_true rfl)) dX0_countStanding_5 ⟨(Nat.le_of_ble_eq_true rfl), (Nat.le_of_ble_eq_true rfl)⟩) hS (fun q _ h => hFc q h) hFc (fun r_1 u t H1 locs ht hvm hw_r_1 hB hz1 hk1 hS => ?_)
  refine W.widen (k := 0) (n := 0) (Nat.le_refl _) (Nat.le_refl _) ?_
  have hP := keepP hP hk1
  have hR := keepP hR hk1
  generalize H1 = H at hP hR hS ⊢
  have hP : va_P (dC, dI) vwCl ([]) H := hP
  try dsimp only at hw_r_1
  subst hw_r_1
  have hPc : va_P (dC, dI) vwCl [] H := nilP
  have hFc := frZ hS hA
  refine va_calli (va_runS (As := [.int (stL nr wd n)]) (rest := []) ⟨hx, hb, hml, hown, hts⟩ (c_J6_bitCount_0f7a4 l dC dI cI cF tr (H).size (stL nr wd n)) (va_cwS 1 hts gX0_countStanding_J6_bitCount_0f7a4 rfl rfl rfl (by decide +kernel) ⟨Nat.le_of_ble_eq_true rfl, Nat.le_of_ble_eq_true rfl⟩) ⟨cBl, (cPre hPc hK hN)⟩ rfl rfl hl.1 rfl (lv_room (Nat.le_of_ble_eq_true rfl)) dX0_countStanding_8 ⟨(Nat.le_of_ble_eq_true rfl), (Nat.le_of_ble_eq_true rfl)⟩) hS (fun q _ h => hFc q h) hFc (fun r_2 u t H1 locs ht hvm hw_r_2 hB hz1 hk1 hS => ?_)
  refine W.widen (k := 0) (n := 0) (Nat.le_refl _) (Nat.le_refl _) ?_
  have hP := keepP hP hk1
  have hR := keepP hR hk1
  generalize H1 = H at hP hR hS ⊢
  have hP : va_P (dC, dI) vwCl ([]) H := hP
  try dsimp only at hw_r_2
  subst hw_r_2
  refine W.widen (k := 0) (n := 0) (by omega) (by omega) ?_
  exact W.iret (v := bcF (stL nr wd n)) hx hb hr (fun t ht hW => ⟨⟨bcF (stL nr wd n), (), rfl, (by first | (simp []; done) | contradiction), trivial⟩, hS.F ht⟩) hS.2.2 dX0_countStanding_11

set_option maxHeartbeats 4000000 in
set_option maxRecDepth 100000 in
theorem c_X0_fallingWith (l : Launch) (dC : Nat → ClassId) (dI : Nat → Nat → Nat) (cI cF : ClassId) (tr : List (ClassId × FieldType)) (sz : Nat) (g : Nat) (n : Nat) (wd : Int32) (xn : Nat) (xf : Nat) (nr : Nat → Int32) (i : Int32) (hn : n ≤ 12) : Met l yX0_fallingWith wsX0_fallingWith ({ frames := 3, cells := 0, slots := 0, locals := 64 } : Room) (cPc dC dI ((cI, .int) :: (cF, .object RX1) :: tr) sz ([(g, .inr (iX0, [.int (nI n), .int wd, .ref xn, .ref xf])), (xn, .inl (cI, 12, .inl (nr)))]) [.ref g, .int i]) (va_Qi (fun (r : Int32) (_ : Unit) => r = bcF (stL nr wd n) - bcF (stL nr (wd ||| 1 <<< (i &&& 31)) n)) (fun _ _ => True) (va_A ([]) sz)) 0 0 (va_A ([]) sz) := by
  refine Met.ofW (cc := cX0_fallingWith) (maxL := 2) (ret := (some .int)) (by decide) rfl ?_
  intro p e s m args below meth c s₁ B hml hv
  obtain ⟨rfl, hsz, hP, hK, hN⟩ := hv
  have hx := B.exec
  have hb := B.bytes
  have hr := B.returns
  have hts := atoms_spec (ws := wsX0_fallingWith) B.pre
  have hown : s.vm.findClass RX0 = some m.cls := findClass_of_methodNamed B.named
  have hlocks := B.notSynchronized
  subst hsz
  generalize hAe : va_A [] s.heap.size = A
  have hA : ∀ q : Nat, s.heap.size ≤ q → A q := fun q h => by rw [← hAe]; exact Or.inr h
  have hS : va_S A s.heap s.heap [] := va_S.rf
  have hAn : ∀ q : Nat, q < s.heap.size → ¬ A q := fun q h => by rw [← hAe]; exact notZ h
  have hAg : ∀ q : Nat, A q → s.heap.size ≤ q := fun q h => geZ (hAe ▸ h)
  have hR0 : va_P (dC, dI) vwCl ([(g, .inr (iX0, [.int (nI n), .int wd, .ref xn, .ref xf])), (xn, .inl (cI, 12, .inl (nr)))]) s.heap := hP
  have hR : va_P (dC, dI) vwCl ([(g, .inr (iX0, [.int (nI n), .int wd, .ref xn, .ref xf])), (xn, .inl (cI, 12, .inl (nr)))]) s.heap := hP
  have hP : va_P (dC, dI) vwCl [] s.heap := fun k q h => by simp at h
  have hD : va_D A [] := ⟨fun i j p q h => by simp at h, fun k q h => by simp at h⟩
  have hl := lv_entry ([.ref g, .int i]) (n := 2) (Nat.le_of_ble_eq_true rfl)
  rw [lg_entry_eq]
  generalize (lg_sl ([.ref g, .int i]) ++ List.replicate (2 - (lg_sl ([.ref g, .int i])).length) Slot.unset).toArray = ls at hl ⊢
  have hl : lv_has ls 2 [(0, .ref g), (1, .int i)] := hl
  have hfl_34 := hts (.fieldLink RX0 34 "Greenwheels$Claims" "withdrawn" "I") (by decide +kernel)
  have hin_X0 : ∀ w ∈ u_ws RX0 TX0 4, w ∈ wsX0_fallingWith := by decide +kernel
  refine lv_aload_n hx hb dX0_fallingWith_0 rfl (lv_at hl 0 rfl) ?_
  have hPc : va_P (dC, dI) vwCl ([(g, .inr (iX0, [.int (nI n), .int wd, .ref xn, .ref xf])), (xn, .inl (cI, 12, .inl (nr)))]) _ := hR.sub [0, 1] rfl
  have hFc := frZ hS hA
  refine va_calli (va_runV (As := []) (rest := []) ⟨hx, hb, hml, hown, hts⟩ (c_X0_countStanding l dC dI cI cF tr (s.heap).size g n wd xn xf nr (by assumption)) (cwV 0 hts gX0_fallingWith_X0_countStanding rfl rfl rfl (by decide +kernel) ⟨Nat.le_of_ble_eq_true rfl, Nat.le_of_ble_eq_true rfl⟩) ⟨cBl, (va_recv hK hPc (ci := iX0) (q0 := 0) rfl rfl), (cPre hPc hK hN)⟩ rfl rfl hl.1 rfl (lv_room (Nat.le_of_ble_eq_true rfl)) dX0_fallingWith_1 ⟨(Nat.le_of_ble_eq_true rfl), (Nat.le_of_ble_eq_true rfl)⟩) hS (fun q _ h => hFc q h) hFc (fun r_1 u t H1 locs ht hvm hw_r_1 hB hz1 hk1 hS => ?_)
  refine W.widen (k := 0) (n := 0) (Nat.le_refl _) (Nat.le_refl _) ?_
  have hP := keepP hP hk1
  have hR := keepP hR hk1
  generalize H1 = H at hP hR hS ⊢
  have hP : va_P (dC, dI) vwCl ([]) H := hP
  try dsimp only at hw_r_1
  subst hw_r_1
  refine lv_aload_n hx hb dX0_fallingWith_4 rfl (lv_at hl 0 rfl) ?_
  refine lv_aload_n hx hb dX0_fallingWith_5 rfl (lv_at hl 0 rfl) ?_
  refine va_get (D := (dC, dI)) (ci := iX0) (v := .int wd) (C := RX0) (T := TX0) (N := 4) hx hb hts hin_X0 hown hK hR 0 rfl rfl 1 (by decide) hfl_34 (fun _ h9 => h9) rfl dX0_fallingWith_6 ?_
  refine lv_iconst (v := 1) hx hb dX0_fallingWith_9 (by decide) ?_
  refine lv_iload_n hx hb dX0_fallingWith_10 rfl (lv_at hl 1 rfl) ?_
  refine lv_ishl hx hb dX0_fallingWith_11 ?_
  refine lv_ior hx hb dX0_fallingWith_12 ?_
  have hPc : va_P (dC, dI) vwCl ([(g, .inr (iX0, [.int (nI n), .int wd, .ref xn, .ref xf])), (xn, .inl (cI, 12, .inl (nr)))]) _ := hR.sub [0, 1] rfl
  have hFc := frZ hS hA
  refine va_calli (va_runV (As := [.int (wd ||| (1 <<< (i &&& 31)))]) (rest := [.int (bcF (stL nr wd n))]) ⟨hx, hb, hml, hown, hts⟩ (c_X0_standingWithout l dC dI cI cF tr (H).size g n wd xn xf nr (wd ||| (1 <<< (i &&& 31))) (by assumption)) (cwV 1 hts gX0_fallingWith_X0_standingWithout rfl rfl rfl (by decide +kernel) ⟨Nat.le_of_ble_eq_true rfl, Nat.le_of_ble_eq_true rfl⟩) ⟨cBl, (va_recv hK hPc (ci := iX0) (q0 := 0) rfl rfl), (cPre hPc hK hN)⟩ rfl rfl hl.1 rfl (lv_room (Nat.le_of_ble_eq_true rfl)) dX0_fallingWith_13 ⟨(Nat.le_of_ble_eq_true rfl), (Nat.le_of_ble_eq_true rfl)⟩) hS (fun q _ h => hFc q h) hFc (fun r_2 u t H1 locs ht hvm hw_r_2 hB hz1 hk1 hS => ?_)
  refine W.widen (k := 0) (n := 0) (Nat.le_refl _) (Nat.le_refl _) ?_
  have hP := keepP hP hk1
  have hR := keepP hR hk1
  generalize H1 = H at hP hR hS ⊢
  have hP : va_P (dC, dI) vwCl ([]) H := hP
  try dsimp only at hw_r_2
  subst hw_r_2
  have hPc : va_P (dC, dI) vwCl [] H := nilP
  have hFc := frZ hS hA
  refine va_calli (va_runS (As := [.int (stL nr (wd ||| (1 <<< (i &&& 31))) n)]) (rest := [.int (bcF (stL nr wd n))]) ⟨hx, hb, hml, hown, hts⟩ (c_J6_bitCount_0f7a4 l dC dI cI cF tr (H).size (stL nr (wd ||| (1 <<< (i &&& 31))) n)) (va_cwS 1 hts gX0_fallingWith_J6_bitCount_0f7a4 rfl rfl rfl (by decide +kernel) ⟨Nat.le_of_ble_eq_true rfl, Nat.le_of_ble_eq_true rfl⟩) ⟨cBl, (cPre hPc hK hN)⟩ rfl rfl hl.1 rfl (lv_room (Nat.le_of_ble_eq_true rfl)) dX0_fallingWith_16 ⟨(Nat.le_of_ble_eq_true rfl), (Nat.le_of_ble_eq_true rfl)⟩) hS (fun q _ h => hFc q h) hFc (fun r_3 u t H1 locs ht hvm hw_r_3 hB hz1 hk1 hS => ?_)
  refine W.widen (k := 0) (n := 0) (Nat.le_refl _) (Nat.le_refl _) ?_
  have hP := keepP hP hk1
  have hR := keepP hR hk1
  generalize H1 = H at hP hR hS ⊢
  have hP : va_P (dC, dI) vwCl ([]) H := hP
  try dsimp only at hw_r_3
  subst hw_r_3
  refine lv_isub hx hb dX0_fallingWith_19 ?_
  refine W.widen (k := 0) (n := 0) (by omega) (by omega) ?_
  exact W.iret (v := (bcF (stL nr wd n)) - (bcF (stL nr (wd ||| (1 <<< (i &&& 31))) n))) hx hb hr (fun t ht hW => ⟨⟨(bcF (stL nr wd n)) - (bcF (stL nr (wd ||| (1 <<< (i &&& 31))) n)), (), rfl, (by first | (simp []; done) | contradiction), trivial⟩, hS.F ht⟩) hS.2.2 dX0_fallingWith_20

set_option maxHeartbeats 4000000 in
set_option maxRecDepth 100000 in
theorem c_X0_areConsistent (l : Launch) (dC : Nat → ClassId) (dI : Nat → Nat → Nat) (cI cF : ClassId) (tr : List (ClassId × FieldType)) (sz : Nat) (g : Nat) (n : Nat) (wd : Int32) (xn : Nat) (xf : Nat) (nr : Nat → Int32) (nf : Nat → Int32) (hn : n ≤ 12) : Met l yX0_areConsistent wsX0_areConsistent ({ frames := 2, cells := 0, slots := 0, locals := 44 } : Room) (cPc dC dI ((cI, .int) :: (cF, .object RX1) :: tr) sz ([(g, .inr (iX0, [.int (nI n), .int wd, .ref xn, .ref xf])), (xn, .inl (cI, 12, .inl (nr))), (xf, .inl (cI, 12, .inl (nf)))]) [.ref g]) (va_Qi (fun (r : Int32) (_ : Unit) => r = acnL (stL nr wd n) wd nf n 0) (fun _ _ => True) (va_A ([]) sz)) 0 0 (va_A ([]) sz) := by
  refine Met.ofW (cc := cX0_areConsistent) (maxL := 4) (ret := (some .boolean)) (by decide) rfl ?_
  intro p e s m args below meth c s₁ B hml hv
  obtain ⟨rfl, hsz, hP, hK, hN⟩ := hv
  have hx := B.exec
  have hb := B.bytes
  have hr := B.returns
  have hts := atoms_spec (ws := wsX0_areConsistent) B.pre
  have hown : s.vm.findClass RX0 = some m.cls := findClass_of_methodNamed B.named
  have hlocks := B.notSynchronized
  subst hsz
  generalize hAe : va_A [] s.heap.size = A
  have hA : ∀ q : Nat, s.heap.size ≤ q → A q := fun q h => by rw [← hAe]; exact Or.inr h
  have hS : va_S A s.heap s.heap [] := va_S.rf
  have hAn : ∀ q : Nat, q < s.heap.size → ¬ A q := fun q h => by rw [← hAe]; exact notZ h
  have hAg : ∀ q : Nat, A q → s.heap.size ≤ q := fun q h => geZ (hAe ▸ h)
  have hR0 : va_P (dC, dI) vwCl ([(g, .inr (iX0, [.int (nI n), .int wd, .ref xn, .ref xf])), (xn, .inl (cI, 12, .inl (nr))), (xf, .inl (cI, 12, .inl (nf)))]) s.heap := hP
  have hR : va_P (dC, dI) vwCl ([(g, .inr (iX0, [.int (nI n), .int wd, .ref xn, .ref xf])), (xn, .inl (cI, 12, .inl (nr))), (xf, .inl (cI, 12, .inl (nf)))]) s.heap := hP
  have hP : va_P (dC, dI) vwCl [] s.heap := fun k q h => by simp at h
  have hD : va_D A [] := ⟨fun i j p q h => by simp at h, fun k q h => by simp at h⟩
  have hl := lv_entry ([.ref g]) (n := 4) (Nat.le_of_ble_eq_true rfl)
  rw [lg_entry_eq]
  generalize (lg_sl ([.ref g]) ++ List.replicate (4 - (lg_sl ([.ref g])).length) Slot.unset).toArray = ls at hl ⊢
  have hl : lv_has ls 4 [(0, .ref g)] := hl
  have hfl_34 := hts (.fieldLink RX0 34 "Greenwheels$Claims" "withdrawn" "I") (by decide +kernel)
  have hin_X0 : ∀ w ∈ u_ws RX0 TX0 4, w ∈ wsX0_areConsistent := by decide +kernel
  have hfl_18 := hts (.fieldLink RX0 18 "Greenwheels$Claims" "count" "I") (by decide +kernel)
  have hfl_15 := hts (.fieldLink RX0 15 "Greenwheels$Claims" "nearAndFar" "[I") (by decide +kernel)
  have hw_iniX5 := hts (.initialized RX5) (by decide +kernel)
  have hw_staX5_at := hts (.static yX5_at) (by decide +kernel)
  have hw_staX5_isIn := hts (.static yX5_isIn) (by decide +kernel)
  refine lv_aload_n hx hb dX0_areConsistent_0 rfl (lv_at hl 0 rfl) ?_
  refine lv_aload_n hx hb dX0_areConsistent_1 rfl (lv_at hl 0 rfl) ?_
  refine va_get (D := (dC, dI)) (ci := iX0) (v := .int wd) (C := RX0) (T := TX0) (N := 4) hx hb hts hin_X0 hown hK hR 0 rfl rfl 1 (by decide) hfl_34 (fun _ h9 => h9) rfl dX0_areConsistent_2 ?_
  have hPc : va_P (dC, dI) vwCl ([(g, .inr (iX0, [.int (nI n), .int wd, .ref xn, .ref xf])), (xn, .inl (cI, 12, .inl (nr)))]) _ := hR.sub [0, 1] rfl
  have hFc := frZ hS hA
  refine va_calli (va_runV (As := [.int wd]) (rest := []) ⟨hx, hb, hml, hown, hts⟩ (c_X0_standingWithout l dC dI cI cF tr (s.heap).size g n wd xn xf nr wd (by assumption)) (cwV 1 hts gX0_areConsistent_X0_standingWithout rfl rfl rfl (by decide +kernel) ⟨Nat.le_of_ble_eq_true rfl, Nat.le_of_ble_eq_true rfl⟩) ⟨cBl, (va_recv hK hPc (ci := iX0) (q0 := 0) rfl rfl), (cPre hPc hK hN)⟩ rfl rfl hl.1 rfl (lv_room (Nat.le_of_ble_eq_true rfl)) dX0_areConsistent_5 ⟨(Nat.le_of_ble_eq_true rfl), (Nat.le_of_ble_eq_true rfl)⟩) hS (fun q _ h => hFc q h) hFc (fun r_1 u t H1 locs ht hvm hw_r_1 hB hz1 hk1 hS => ?_)
  refine W.widen (k := 0) (n := 0) (Nat.le_refl _) (Nat.le_refl _) ?_
  have hP := keepP hP hk1
  have hR := keepP hR hk1
  generalize H1 = H at hP hR hS ⊢
  have hP : va_P (dC, dI) vwCl ([]) H := hP
  try dsimp only at hw_r_1
  subst hw_r_1
  refine lv_istore_n (lv' := [(1, .int (stL nr wd n)), (0, .ref g)]) hx hb dX0_areConsistent_8 rfl hl (by decide) rfl (fun ls hl => ?_)
  refine lv_iconst (v := 0) hx hb dX0_areConsistent_9 (by decide) ?_
  refine lv_istore_n (lv' := [(2, .int 0), (1, .int (stL nr wd n)), (0, .ref g)]) hx hb dX0_areConsistent_10 rfl hl (by decide) rfl (fun ls hl => ?_)
  have K11 : ∀ (NN : Nat), ∀ (k : Nat), (n - k) < NN → (k ≤ n) → (acnL (stL nr wd n) wd nf (n - k) k = acnL (stL nr wd n) wd nf n 0) → ∀ (H : Heap) (locs : List Loc) (ls : Array Slot), va_P (dC, dI) vwCl ([]) H → va_S A s.heap H locs → lv_has ls 4 [(0, .ref g), (1, .int (stL nr wd n)), (2, .int (nI k))] → W p l e (headSpec wsX0_areConsistent ({ frames := 2, cells := 0, slots := 0, locals := 44 } : Room)).room s m #[Value.ref g] below meth c H locs (0) (0) (MQ below (va_Qi (fun (r : Int32) (_ : Unit) => r = acnL (stL nr wd n) wd nf n 0) (fun _ _ => True) A) #[Value.ref g] s 0 0 A) (F0 m 11 ls []) := by
    intro NN
    induction NN with
    | zero =>
      intro k hmu hk hacc H locs ls hP hS hl
      exact absurd hmu (Nat.not_lt_zero _)
    | succ NN ih11 =>
      intro k hmu hk hacc H locs ls hP hS hl
      have hR := keepR hR0 hS hAn
      refine lv_iload_n hx hb dX0_areConsistent_11 rfl (lv_at hl 2 rfl) ?_
      refine lv_aload_n hx hb dX0_areConsistent_12 rfl (lv_at hl 0 rfl) ?_
      refine va_get (D := (dC, dI)) (ci := iX0) (v := .int (nI n)) (C := RX0) (T := TX0) (N := 4) hx hb hts hin_X0 hown hK hR 0 rfl rfl 0 (by decide) hfl_18 (fun _ h9 => h9) rfl dX0_areConsistent_13 ?_
      refine lv_icmp_ge (tgt := 62) hx hb dX0_areConsistent_16 (by decide) (fun c_2 => ?_) (fun c_2 => ?_)
      · have hke : n ≤ k := leK (by omega) (by omega) c_2
        have hkn : k = n := by omega
        refine lv_iconst (v := 1) hx hb dX0_areConsistent_62 (by decide) ?_
        refine W.widen (k := 0) (n := 0) (by omega) (by omega) ?_
        exact W.zret (v := 1) hx hb hr (by first | rfl | simp [narrow] | assumption) (fun t ht hW => ⟨⟨1, (), rfl, (by rw [← hacc, hkn, Nat.sub_self]; rfl), trivial⟩, hS.F ht⟩) hS.2.2 dX0_areConsistent_63
      · have hkl : k < n := ltK (by omega) (by omega) c_2
        refine lv_aload_n hx hb dX0_areConsistent_19 rfl (lv_at hl 0 rfl) ?_
        refine va_get (D := (dC, dI)) (ci := iX0) (v := .ref xf) (C := RX0) (T := TX0) (N := 4) hx hb hts hin_X0 hown hK hR 0 rfl rfl 3 (by decide) hfl_15 (fun _ h9 => h9) rfl dX0_areConsistent_20 ?_
        refine lv_iload_n hx hb dX0_areConsistent_23 rfl (lv_at hl 2 rfl) ?_
        have hPc : va_P (dC, dI) vwCl ([(xf, .inl (cI, 12, .inl (nf)))]) _ := hR.sub [2] rfl
        have hFc := frZ hS hA
        refine va_calli (va_runSN (host := RX5) (As := [.ref xf, .int (nI k)]) (rest := []) ⟨hx, hb, hml, hown, hts⟩ (c_X5_at l dC dI cI cF tr (H).size xf 12 nf (nI k) (by decide)) ⟨va_cnB 2 hts gX0_areConsistent_X5_at_n26 rfl rfl rfl (nwAt hN (RX0, 26, yX5_at) (by decide +kernel)) hw_iniX5 (by decide +kernel) ⟨Nat.le_of_ble_eq_true rfl, Nat.le_of_ble_eq_true rfl⟩, hw_staX5_at, trivial⟩ ⟨cBl, (cPre hPc hK hN)⟩ rfl rfl hl.1 rfl (lv_room (Nat.le_of_ble_eq_true rfl)) dX0_areConsistent_24 ⟨(Nat.le_of_ble_eq_true rfl), (Nat.le_of_ble_eq_true rfl)⟩) hS (fun q _ h => hFc q h) hFc (fun r_3 u t H1 locs ht hvm hw_r_3 hB hz1 hk1 hS => ?_)
        refine W.widen (k := 0) (n := 0) (Nat.le_refl _) (Nat.le_refl _) ?_
        have hP := keepP hP hk1
        have hR := keepP hR hk1
        generalize H1 = H at hP hR hS ⊢
        have hP : va_P (dC, dI) vwCl ([]) H := hP
        try dsimp only at hw_r_3
        subst hw_r_3
        refine lv_iconst (v := 1) hx hb dX0_areConsistent_27 (by decide) ?_
        refine lv_iload_n hx hb dX0_areConsistent_28 rfl (lv_at hl 2 rfl) ?_
        refine lv_ishl hx hb dX0_areConsistent_29 ?_
        refine lv_ior hx hb dX0_areConsistent_30 ?_
        refine lv_aload_n hx hb dX0_areConsistent_31 rfl (lv_at hl 0 rfl) ?_
        refine va_get (D := (dC, dI)) (ci := iX0) (v := .int wd) (C := RX0) (T := TX0) (N := 4) hx hb hts hin_X0 hown hK hR 0 rfl rfl 1 (by decide) hfl_34 (fun _ h9 => h9) rfl dX0_areConsistent_32 ?_
        refine lv_iand hx hb dX0_areConsistent_35 ?_
        refine lv_if_ne (tgt := 43) hx hb dX0_areConsistent_36 (by decide) (fun c_4 => ?_) (fun c_4 => ?_)
        · refine lv_iconst (v := 0) hx hb dX0_areConsistent_43 (by decide) ?_
          refine lv_istore_n (lv' := [(3, .int 0), (0, .ref g), (1, .int (stL nr wd n)), (2, .int (nI k))]) hx hb dX0_areConsistent_44 rfl hl (by decide) rfl (fun ls hl => ?_)
          refine lv_iload_n hx hb dX0_areConsistent_45 rfl (lv_at hl 2 rfl) ?_
          refine lv_iload_n hx hb dX0_areConsistent_46 rfl (lv_at hl 3 rfl) ?_
          have hPc : va_P (dC, dI) vwCl [] H := nilP
          have hFc := frZ hS hA
          refine va_calli (va_runSN (host := RX5) (As := [.int (stL nr wd n), .int (nI k)]) (rest := []) ⟨hx, hb, hml, hown, hts⟩ (c_X5_isIn l dC dI cI cF tr (H).size (stL nr wd n) (nI k)) ⟨va_cnB 2 hts gX0_areConsistent_X5_isIn_n22 rfl rfl rfl (nwAt hN (RX0, 22, yX5_isIn) (by decide +kernel)) hw_iniX5 (by decide +kernel) ⟨Nat.le_of_ble_eq_true rfl, Nat.le_of_ble_eq_true rfl⟩, hw_staX5_isIn, trivial⟩ ⟨cBl, (cPre hPc hK hN)⟩ rfl rfl hl.1 rfl (lv_room (Nat.le_of_ble_eq_true rfl)) dX0_areConsistent_47 ⟨(Nat.le_of_ble_eq_true rfl), (Nat.le_of_ble_eq_true rfl)⟩) hS (fun q _ h => hFc q h) hFc (fun r_5 u t H1 locs ht hvm hw_r_5 hB hz1 hk1 hS => ?_)
          refine W.widen (k := 0) (n := 0) (Nat.le_refl _) (Nat.le_refl _) ?_
          have hP := keepP hP hk1
          have hR := keepP hR hk1
          generalize H1 = H at hP hR hS ⊢
          have hP : va_P (dC, dI) vwCl ([]) H := hP
          try dsimp only at hw_r_5
          subst hw_r_5
          refine lv_iload_n hx hb dX0_areConsistent_50 rfl (lv_at hl 0 rfl) ?_
          refine lv_icmp_eq (tgt := 56) hx hb dX0_areConsistent_51 (by decide) (fun c_6 => ?_) (fun c_6 => ?_)
          · refine lv_iinc (v := nI (k + 1)) (lv' := [(2, .int (nI (k + 1))), (3, .int 0), (0, .ref g), (1, .int (stL nr wd n))]) hx hb dX0_areConsistent_56 hl (k := 3) rfl (nI_1 k) (by decide) rfl (fun ls hl => ?_)
            refine lv_goto (tgt := 11) hx hb dX0_areConsistent_59 (by decide) ?_
            refine W.widen (k := 0) (n := 0) (by omega) (by omega) ?_
            exact ih11 (k + 1) (by omega) hkl (by rw [← hacc, show n - k = (n - (k + 1)) + 1 by omega]; simp [acnL, c_4, c_6]) _ _ ls hP hS (lv_sub hl [2, 3, 0] rfl)
          · refine lv_iconst (v := 0) hx hb dX0_areConsistent_54 (by decide) ?_
            refine W.widen (k := 0) (n := 0) (by omega) (by omega) ?_
            exact W.zret (v := 0) hx hb hr (by first | rfl | simp [narrow] | assumption) (fun t ht hW => ⟨⟨0, (), rfl, (by rw [← hacc, show n - k = (n - (k + 1)) + 1 by omega]; simp [acnL, c_4, c_6]), trivial⟩, hS.F ht⟩) hS.2.2 dX0_areConsistent_55
        · refine lv_iconst (v := 1) hx hb dX0_areConsistent_39 (by decide) ?_
          refine lv_goto (tgt := 44) hx hb dX0_areConsistent_40 (by decide) ?_
          refine lv_istore_n (lv' := [(3, .int 1), (0, .ref g), (1, .int (stL nr wd n)), (2, .int (nI k))]) hx hb dX0_areConsistent_44 rfl hl (by decide) rfl (fun ls hl => ?_)
          refine lv_iload_n hx hb dX0_areConsistent_45 rfl (lv_at hl 2 rfl) ?_
          refine lv_iload_n hx hb dX0_areConsistent_46 rfl (lv_at hl 3 rfl) ?_
          have hPc : va_P (dC, dI) vwCl [] H := nilP
          have hFc := frZ hS hA
          refine va_calli (va_runSN (host := RX5) (As := [.int (stL nr wd n), .int (nI k)]) (rest := []) ⟨hx, hb, hml, hown, hts⟩ (c_X5_isIn l dC dI cI cF tr (H).size (stL nr wd n) (nI k)) ⟨va_cnB 2 hts gX0_areConsistent_X5_isIn_n22 rfl rfl rfl (nwAt hN (RX0, 22, yX5_isIn) (by decide +kernel)) hw_iniX5 (by decide +kernel) ⟨Nat.le_of_ble_eq_true rfl, Nat.le_of_ble_eq_true rfl⟩, hw_staX5_isIn, trivial⟩ ⟨cBl, (cPre hPc hK hN)⟩ rfl rfl hl.1 rfl (lv_room (Nat.le_of_ble_eq_true rfl)) dX0_areConsistent_47 ⟨(Nat.le_of_ble_eq_true rfl), (Nat.le_of_ble_eq_true rfl)⟩) hS (fun q _ h => hFc q h) hFc (fun r_7 u t H1 locs ht hvm hw_r_7 hB hz1 hk1 hS => ?_)
          refine W.widen (k := 0) (n := 0) (Nat.le_refl _) (Nat.le_refl _) ?_
          have hP := keepP hP hk1
          have hR := keepP hR hk1
          generalize H1 = H at hP hR hS ⊢
          have hP : va_P (dC, dI) vwCl ([]) H := hP
          try dsimp only at hw_r_7
          subst hw_r_7
          refine lv_iload_n hx hb dX0_areConsistent_50 rfl (lv_at hl 0 rfl) ?_
          refine lv_icmp_eq (tgt := 56) hx hb dX0_areConsistent_51 (by decide) (fun c_8 => ?_) (fun c_8 => ?_)
          · refine lv_iinc (v := nI (k + 1)) (lv' := [(2, .int (nI (k + 1))), (3, .int 1), (0, .ref g), (1, .int (stL nr wd n))]) hx hb dX0_areConsistent_56 hl (k := 3) rfl (nI_1 k) (by decide) rfl (fun ls hl => ?_)
            refine lv_goto (tgt := 11) hx hb dX0_areConsistent_59 (by decide) ?_
            refine W.widen (k := 0) (n := 0) (by omega) (by omega) ?_
            exact ih11 (k + 1) (by omega) hkl (by rw [← hacc, show n - k = (n - (k + 1)) + 1 by omega]; simp [acnL, c_4, c_8]) _ _ ls hP hS (lv_sub hl [2, 3, 0] rfl)
          · refine lv_iconst (v := 0) hx hb dX0_areConsistent_54 (by decide) ?_
            refine W.widen (k := 0) (n := 0) (by omega) (by omega) ?_
            exact W.zret (v := 0) hx hb hr (by first | rfl | simp [narrow] | assumption) (fun t ht hW => ⟨⟨0, (), rfl, (by rw [← hacc, show n - k = (n - (k + 1)) + 1 by omega]; simp [acnL, c_4, c_8]), trivial⟩, hS.F ht⟩) hS.2.2 dX0_areConsistent_55
  refine W.widen (k := 0) (n := 0) (by omega) (by omega) ?_
  exact K11 (n - 0 + 1) 0 (by omega) (Nat.zero_le _) rfl _ _ ls hP hS (lv_sub hl [2, 1, 0] rfl)
end
