section
-- ===== PART A: goes FIRST, ahead of the names: the tables' words, and 'selects' of the private methods out of them =====
/-- a private method of a class that the tables say can be made, by its rows of tables_1 -/
def lw_okq (q : MethodName × Nat) : Prop := (q.1.cls ≠ "java/lang/invoke/MethodHandle" ∧ q.1.cls ≠ "java/lang/invoke/VarHandle") ∧ Cond.instantiable q.1.cls q.2 ∈ tables_1 ∧ Cond.privateMethod q.1 ∈ tables_1 ∧ Cond.instanceMethod q.1 ∈ tables_1
theorem lw_p0 : lw_okq (⟨"OdometerRing$Story", "signHere", "()I"⟩, 9) := ⟨⟨by decide +kernel, by decide +kernel⟩, List.mem_of_getElem? (i := 25) (by decide +kernel), List.mem_of_getElem? (i := 269) (by decide +kernel), List.mem_of_getElem? (i := 270) (by decide +kernel)⟩
theorem lw_p1 : lw_okq (⟨"OdometerRing$Story", "readNumber", "(III)I"⟩, 9) := ⟨⟨by decide +kernel, by decide +kernel⟩, List.mem_of_getElem? (i := 25) (by decide +kernel), List.mem_of_getElem? (i := 274) (by decide +kernel), List.mem_of_getElem? (i := 275) (by decide +kernel)⟩
theorem lw_p2 : lw_okq (⟨"java/lang/Throwable", "fillInStackTrace", "(I)Ljava/lang/Throwable;"⟩, 6) := ⟨⟨by decide +kernel, by decide +kernel⟩, List.mem_of_getElem? (i := 326) (by decide +kernel), List.mem_of_getElem? (i := 324) (by decide +kernel), List.mem_of_getElem? (i := 325) (by decide +kernel)⟩
theorem lw_p3 : lw_okq (⟨"OdometerRing$Odometer", "writeSlot", "(II)V"⟩, 17) := ⟨⟨by decide +kernel, by decide +kernel⟩, List.mem_of_getElem? (i := 67) (by decide +kernel), List.mem_of_getElem? (i := 386) (by decide +kernel), List.mem_of_getElem? (i := 387) (by decide +kernel)⟩
theorem lw_p4 : lw_okq (⟨"OdometerRing$Odometer", "leftByCut", "(I)I"⟩, 17) := ⟨⟨by decide +kernel, by decide +kernel⟩, List.mem_of_getElem? (i := 67) (by decide +kernel), List.mem_of_getElem? (i := 395) (by decide +kernel), List.mem_of_getElem? (i := 396) (by decide +kernel)⟩
theorem lw_p5 : lw_okq (⟨"OdometerRing$Odometer", "losePower", "(III)V"⟩, 17) := ⟨⟨by decide +kernel, by decide +kernel⟩, List.mem_of_getElem? (i := 67) (by decide +kernel), List.mem_of_getElem? (i := 403) (by decide +kernel), List.mem_of_getElem? (i := 404) (by decide +kernel)⟩
theorem lw_p6 : lw_okq (⟨"OdometerRing$Services", "put", "(III)V"⟩, 3) := ⟨⟨by decide +kernel, by decide +kernel⟩, List.mem_of_getElem? (i := 95) (by decide +kernel), List.mem_of_getElem? (i := 458) (by decide +kernel), List.mem_of_getElem? (i := 459) (by decide +kernel)⟩
theorem lw_p7 : lw_okq (⟨"OdometerRing", "toldAfterCut", "(II)I"⟩, 5) := ⟨⟨by decide +kernel, by decide +kernel⟩, List.mem_of_getElem? (i := 17) (by decide +kernel), List.mem_of_getElem? (i := 736) (by decide +kernel), List.mem_of_getElem? (i := 737) (by decide +kernel)⟩
theorem lw_p8 : lw_okq (⟨"OdometerRing$Odometer", "takeStep", "(I)Z"⟩, 17) := ⟨⟨by decide +kernel, by decide +kernel⟩, List.mem_of_getElem? (i := 67) (by decide +kernel), List.mem_of_getElem? (i := 795) (by decide +kernel), List.mem_of_getElem? (i := 796) (by decide +kernel)⟩
def lw_privs_1 : List (MethodName × Nat) := [(⟨"OdometerRing$Story", "signHere", "()I"⟩, 9), (⟨"OdometerRing$Story", "readNumber", "(III)I"⟩, 9), (⟨"java/lang/Throwable", "fillInStackTrace", "(I)Ljava/lang/Throwable;"⟩, 6), (⟨"OdometerRing$Odometer", "writeSlot", "(II)V"⟩, 17), (⟨"OdometerRing$Odometer", "leftByCut", "(I)I"⟩, 17), (⟨"OdometerRing$Odometer", "losePower", "(III)V"⟩, 17), (⟨"OdometerRing$Services", "put", "(III)V"⟩, 3), (⟨"OdometerRing", "toldAfterCut", "(II)I"⟩, 5), (⟨"OdometerRing$Odometer", "takeStep", "(I)Z"⟩, 17)]
theorem lw_r1 : ∀ q ∈ lw_privs_1, lw_okq q := List.forall_mem_cons.mpr ⟨lw_p0, List.forall_mem_cons.mpr ⟨lw_p1, List.forall_mem_cons.mpr ⟨lw_p2, List.forall_mem_cons.mpr ⟨lw_p3, List.forall_mem_cons.mpr ⟨lw_p4, List.forall_mem_cons.mpr ⟨lw_p5, List.forall_mem_cons.mpr ⟨lw_p6, List.forall_mem_cons.mpr ⟨lw_p7, List.forall_mem_cons.mpr ⟨lw_p8, fun _ h => absurd h List.not_mem_nil⟩⟩⟩⟩⟩⟩⟩⟩⟩
def lw_privs : List (MethodName × Nat) := lw_privs_1
def lw_tbl : List Cond := k2_sels lw_privs ++ tables_1
theorem lw_privs_ok : ∀ q ∈ lw_privs, lw_okq q := lw_r1
-- ===== end of PART A; then your names; then what follows =====
/-! ===== BEGIN words of one list among another's, by their places ===== -/
theorem goodIn_r {big : List Cond} (ws : List Cond) (ps : List Nat) (hp : ws = ps.filterMap (fun i => big[i]?)) (h : ws.all goodWord = true) : GoodIn big ws := by
  intro w hw
  have h1 := List.all_eq_true.mp h w hw
  rw [hp] at hw
  obtain ⟨i, -, hi⟩ := List.mem_filterMap.mp hw
  have hm : w ∈ big := by first | exact List.mem_of_getElem? hi | exact List.getElem?_mem hi
  exact ⟨hm, good_of_word h1⟩
theorem goodIn_app {big a b : List Cond} (ha : GoodIn big a) (hb : GoodIn big b) : GoodIn big (a ++ b) := fun w h => (List.mem_append.mp h).elim (ha w) (hb w)
theorem goodIn_ca {big a b : List Cond} {c : Cond} (ha : GoodIn big (c :: a)) (hb : GoodIn big b) : GoodIn big (c :: (a ++ b)) := fun w h => (List.mem_cons.mp h).elim (fun e => ha w (List.mem_cons.mpr (Or.inl e))) (fun h => (List.mem_append.mp h).elim (fun h => ha w (List.mem_cons.mpr (Or.inr h))) (hb w))
theorem goodIn_sub {big ws : List Cond} (hm : ∀ w ∈ ws, w ∈ big) (h : ws.all goodWord = true) : GoodIn big ws := fun w hw => ⟨hm w hw, good_of_word (List.all_eq_true.mp h w hw)⟩
/-! ===== END ===== -/

/-! ===== BEGIN exceptions that leave a method, and their catching by the caller (launches without stack traces) ===== -/
section VXA
/-! The laws vx_back, vx_callV, vx_callS, vx_callSW, vx_throw0, vx_throwS follow proofs of the library, with one case more: JvmDerived/Free/Laws.lean (Back.of_free), Shelf42/LK1.lean (callV, callS), Shelf/KitTraced.lean (throwNew0V, throwNewS). -/
/-- where a method has thrown q: the class by its name, the cell, what was written, the world -/
def vx_T (XC : String → State → State → Prop) (st : State) (q : Addr) (t : State) (mc ms : Nat) (free : Addr → Prop) : Prop :=
  ∃ (E : String) (ce : Cell) (L : List Loc), XC E st t ∧ t.heap[q]? = some ce ∧ ce.vm = .none ∧ st.vm.findClass E = some ce.cls ∧ st.WarmedH t.vm ∧ st.sameButNew ({ t with vm := st.vm } : State) L mc ms ∧ ∀ z ∈ L, free z.base
def vx_Q (Qc : Array Value → State → Outcome → State → Prop) (XC : String → State → State → Prop) (mc ms : Nat) (free : Addr → Prop) : Array Value → State → Outcome → State → Prop := fun a st o t =>
  (Qc a st o t ∧ ∃ L, FrameEnd st o t L mc ms ∧ ∀ q ∈ L, free q.base) ∨ ∃ q, o = .threw q ∧ vx_T XC st q t mc ms free
/-- a callee that returns or throws -/
def vx_Met (l : Launch) (y : MethodName) (ws : List Cond) (rm : Room) (Pc : Array Value → State → Prop) (Qc : Array Value → State → Outcome → State → Prop) (XC : String → State → State → Prop) (mc ms : Nat) (free : Addr → Prop) : Prop :=
  MetFree l y (headSpec ws rm) Pc (fun _ _ _ _ _ => True) (vx_Q Qc XC mc ms free)
def vx_Post (XC : String → State → State → Prop) (mc ms : Nat) (free : Addr → Prop) : Pt → Array Value → Addr → Pt → Prop := fun A a q B =>
  ∃ (g : JFrame) (mk : MethodId) (t : State) (L : List Loc) (E : String) (ce : Cell), B.U.heap = t.heap ∧ B.U.vm = t.vm ∧ XC E (A.U.calling g mk a) t ∧ t.heap[q]? = some ce ∧ ce.vm = .none ∧ A.U.vm.findClass E = some ce.cls ∧ B.locs = A.locs ++ L ∧ (∀ z ∈ L, free z.base) ∧ B.cells = A.cells + mc ∧ B.slots = A.slots + ms
def vx_Back (l : Launch) (R : Room) (p : Program) (e : Env) (below : List Frame) (s : State) (sargs : Array Value) (y : MethodName) (len W9 : Nat)
    (Pre : Pt → Array Value → Prop) (Post : Pt → Array Value → Option Value → Pt → Prop) (PostX : Pt → Array Value → Addr → Pt → Prop) : Prop :=
  ∀ (m : MethodId) (meth : Method) (c : Code) (A : Pt) (g : JFrame) (ig : Instr) (mk : MethodId) (a : Array Value),
    Stand p l e R s m sargs below meth c A.U A.locs A.cells A.slots → g.method = m → g.locals.size = c.maxLocals → decode c.code g.pc = .ok (ig, len) →
    2 * g.monitorRoom + (g.stack.map fun v => v.category).sum ≤ W9 → A.U.methodNamed? y = some mk → Pre A a →
    (∃ (v : Option Value) (B : Pt), Stand p l e R s m sargs below meth c B.U B.locs B.cells B.slots ∧ Post A a v B ∧
      Steps p.tables e below (doInvoke e (A.U.setTop g) [] mk a).1 (B.U.setTop { g with pc := g.pc + len, stack := v.toList ++ g.stack })) ∨
    (∃ (q : Addr) (B : Pt), Stand p l e R s m sargs below meth c B.U B.locs B.cells B.slots ∧ PostX A a q B ∧
      Steps p.tables e below (doInvoke e (A.U.setTop g) [] mk a).1 ((B.U.setTop g).pushFrame (.throwing q)))
section Payer
variable {l : Launch} {R : Room} {p : Program} {e : Env} {below : List Frame} {s : State} {sargs : Array Value} {y : MethodName} {len W9 : Nat}
theorem vx_back {ws : List Cond} {rm : Room} {Pc : Array Value → State → Prop} {Qc : Array Value → State → Outcome → State → Prop} {XC : String → State → State → Prop} {mc ms : Nat} {free : Addr → Prop} {bytes : ByteArray} {maxL : Nat} {ret : Option FieldType}
    (hM : vx_Met l y ws rm Pc Qc XC mc ms free) (hblind : FrameBlind Pc) (hrc : rm.cells = mc) (hrs : rm.slots = ms)
    (hframes : rm.frames + 1 ≤ R.frames) (hlocals : W9 + (maxL + 11) + rm.locals ≤ R.locals)
    (hws : ∀ w ∈ ws, ∀ a' U, s.WarmedH U.vm → w.before a' U = true) (hcode : Cond.code y bytes maxL ret ∈ ws) (hinit : ∀ a' U, s.WarmedH U.vm → (Cond.initialized y.cls).before a' U = true) :
    vx_Back l R p e below s sargs y len W9 (PreOf R mc ms Pc) (PostOf Qc mc ms free) (vx_Post XC mc ms free) := by
  intro m meth c A g ig mk a X hg hsize hdg hW hn hp
  have h1 : (headSpec ws rm).pre.before a A.U = true := atoms_intro fun w hw => hws w hw _ _ X.warmed
  have h2 : (Cond.code y bytes maxL ret).before a A.U = true := hws _ hcode _ _ X.warmed
  have h3 : (Cond.initialized y.cls).before a A.U = true := hinit _ _ X.warmed
  have h4 : A.cells + (headSpec ws rm).room.cells ≤ R.cells := by rw [show (headSpec ws rm).room.cells = mc from hrc]; exact hp.1
  have h5 : A.slots + (headSpec ws rm).room.slots ≤ R.slots := by rw [show (headSpec ws rm).room.slots = ms from hrs]; exact hp.2.1
  have hPc : Pc a (A.U.calling g mk a) := hblind _ _ _ _ hp.2.2
  obtain ⟨U, Ls, c0, s0⟩ := A
  dsimp only [Pt.U, Pt.locs, Pt.cells, Pt.slots] at h1 h2 h3 h4 h5 X hn hPc ⊢
  obtain ⟨methY, cY, hmY, hcY, -, hlY, -, -, -, -⟩ := Cond.code_spec hn h2
  obtain ⟨kY, hkY, -⟩ := className_of_methodNamed hn
  have hinitY : kY.init = .initialized := Cond.initialized_spec (findClass_of_methodNamed hn) hkY h3
  have h : At U g.method c below := by rw [hg]; exact X.here
  have hlocals9 : W9 + (maxL + 11) + (headSpec ws rm).room.locals ≤ R.locals := hlocals
  have happ : (headSpec ws rm).appliesLoose y e.platform (U.calling g mk a) = true :=
    Spec.appliesLoose_calling (g := g) h hdg hn hkY hinitY
      (X.room_calling (g := g) (R' := (headSpec ws rm).room) hsize hmY hcY hframes (by rw [hlY]; omega) h4 h5) h1
  obtain ⟨mid, hmid⟩ := h.above
  have hfr : (U.setTop g).frames = (.java g :: mid) ++ below := by rw [State.frames_setTop' g h.top, hmid]; rfl
  obtain ⟨o, s₂, hsteps, -, hend, hq⟩ := Steps.callFree hM p X.admits X.cas X.clock (acts := []) hfr happ hPc trivial
  have hq' : vx_Q Qc XC mc ms free a (U.calling g mk a) o s₂ := hq
  rw [State.frames_setTop' g h.top] at hend
  obtain ⟨g₀, hg0⟩ := Option.isSome_iff_exists.mp h.top
  obtain ⟨r, hr⟩ := State.topJava?_eq_some.mp hg0
  have hr' : (({ U with heap := s₂.heap, slotsUsed := s₂.slotsUsed } : State).setVm s₂.vm).frames = .java g₀ :: r := hr
  rcases hq' with ⟨hqc, L, hfe, hL⟩ | ⟨q, rfl, E, ce, L, hx, hce, hcv, hcl, hW₂, hsm, hL⟩
  · obtain ⟨⟨v, rfl⟩, hW₂, e2, q2, q3, q4, q5, q6⟩ := id hfe
    have e3 : s₂ = ({ (U.calling g mk a).setFrames s₂.frames with heap := s₂.heap, slotsUsed := s₂.slotsUsed } : State).setVm s₂.vm := by
      have : s₂ = ({ s₂ with vm := (U.calling g mk a).vm } : State).setVm s₂.vm := rfl
      rw [e2] at this
      exact this
    obtain ⟨c₂, i₂, len₂, hc₂, hd₂, hf₂⟩ := hend
    have hW' : U.WarmedH s₂.vm := hW₂
    have hcc : c₂ = c := by
      have h1 : s₂.code? g.method = U.code? g.method := by
        rw [State.code?_eq, State.code?_eq, hW'.alike.method?]
      exact Option.some.inj (hc₂.symm.trans (h1.trans h.code))
    subst hcc
    have hlen : len₂ = len := by rw [hdg] at hd₂; cases hd₂; rfl
    subst hlen
    have hs₂ : s₂ = (({ U with heap := s₂.heap, slotsUsed := s₂.slotsUsed } : State).setVm s₂.vm).setTop { g with pc := g.pc + len₂, stack := v.toList ++ g.stack } := by
      refine e3.trans ?_
      rw [hf₂, State.calling_eq h.top, State.setFrames_setFrames, State.setTop_of_frames _ hr', hr]
      rfl
    have hsame : U.sameButNew ({ U with heap := s₂.heap, slotsUsed := s₂.slotsUsed } : State) L mc ms := by
      refine ⟨?_, q2, q3, q4, q5, q6⟩
      obtain ⟨t, ht, -⟩ := State.frames_cons hr
      show ({ U with heap := s₂.heap, slotsUsed := s₂.slotsUsed } : State) = { U.setFrames U.frames with heap := s₂.heap, slotsUsed := s₂.slotsUsed }
      rw [State.setFrames_self ht]
    subst hg
    refine Or.inl ⟨v, ⟨(({ U with heap := s₂.heap, slotsUsed := s₂.slotsUsed } : State).setVm s₂.vm), Ls ++ L, c0 + mc, s0 + ms⟩,
      ⟨X.admits, X.cas, X.clock, X.frames, X.room, X.hears, X.method, X.code, (X.here.setHeapUsed s₂.heap s₂.slotsUsed).setVm hW'.alike, X.tail, State.WarmedH.trans X.warmed hW', X.limits, X.bytes, X.same.trans (hsame.setVm s.vm)⟩,
      ⟨g, mk, s₂, L, rfl, rfl, hqc, rfl, hL, rfl, rfl⟩, ?_⟩
    show Steps p.tables e below _ ((({ U with heap := s₂.heap, slotsUsed := s₂.slotsUsed } : State).setVm s₂.vm).setTop { g with pc := g.pc + len₂, stack := v.toList ++ g.stack })
    rw [← hs₂]
    exact hsteps
  · obtain ⟨e2, q2, q3, q4, q5, q6⟩ := id hsm
    have e3 : s₂ = ({ (U.calling g mk a).setFrames s₂.frames with heap := s₂.heap, slotsUsed := s₂.slotsUsed } : State).setVm s₂.vm := by
      have : s₂ = ({ s₂ with vm := (U.calling g mk a).vm } : State).setVm s₂.vm := rfl
      rw [e2] at this
      exact this
    have hf₂ : s₂.frames = .throwing q :: .java g :: U.frames.tail := hend
    have hW' : U.WarmedH s₂.vm := hW₂
    have hs₂ : s₂ = ((({ U with heap := s₂.heap, slotsUsed := s₂.slotsUsed } : State).setVm s₂.vm).setTop g).pushFrame (.throwing q) := by
      refine e3.trans ?_
      rw [hf₂, State.calling_eq h.top, State.setFrames_setFrames, State.pushFrame, State.frames_setTop _ hr', State.setTop_of_frames _ hr', State.setFrames_setFrames, hr]
      rfl
    have hsame : U.sameButNew ({ U with heap := s₂.heap, slotsUsed := s₂.slotsUsed } : State) L mc ms := by
      refine ⟨?_, q2, q3, q4, q5, q6⟩
      obtain ⟨t, ht, -⟩ := State.frames_cons hr
      show ({ U with heap := s₂.heap, slotsUsed := s₂.slotsUsed } : State) = { U.setFrames U.frames with heap := s₂.heap, slotsUsed := s₂.slotsUsed }
      rw [State.setFrames_self ht]
    subst hg
    refine Or.inr ⟨q, ⟨(({ U with heap := s₂.heap, slotsUsed := s₂.slotsUsed } : State).setVm s₂.vm), Ls ++ L, c0 + mc, s0 + ms⟩,
      ⟨X.admits, X.cas, X.clock, X.frames, X.room, X.hears, X.method, X.code, (X.here.setHeapUsed s₂.heap s₂.slotsUsed).setVm hW'.alike, X.tail, State.WarmedH.trans X.warmed hW', X.limits, X.bytes, X.same.trans (hsame.setVm s.vm)⟩,
      ⟨g, mk, s₂, L, E, ce, rfl, rfl, hx, hce, hcv, hcl, rfl, hL, rfl, rfl⟩, ?_⟩
    show Steps p.tables e below _ (((({ U with heap := s₂.heap, slotsUsed := s₂.slotsUsed } : State).setVm s₂.vm).setTop g).pushFrame (.throwing q))
    rw [← hs₂]
    exact hsteps
end Payer
section Calls
variable {p : Program} {l : Launch} {e : Env} {R : Room} {s : State} {m : MethodId} {args : Array Value} {below : List Frame} {meth : Method} {c : Code} {T : State} {locs : List Loc} {cells slots : Nat}
theorem vx_callV (X : Stand p l e R s m args below meth c T locs cells slots) (hexec : p.tables.exec = Jvm.exec) {own C : String} {index : Nat} {y : MethodName} {bytes : ByteArray} {maxL : Nat} {ret : Option FieldType}
    (hown : s.vm.findClass own = some m.cls) (hlink : (Cond.methodLink own index y).before args s = true) (hinst : (Cond.instanceMethod y).before args s = true) (hsel : (Cond.selects C y y).before args s = true)
    (hcode : (Cond.code y bytes maxL ret).before args s = true) (hy : y.cls ≠ "java/lang/invoke/MethodHandle" ∧ y.cls ≠ "java/lang/invoke/VarHandle")
    {W9 : Nat} {Pre : Pt → Array Value → Prop} {Post : Pt → Array Value → Option Value → Pt → Prop} {PostX : Pt → Array Value → Addr → Pt → Prop} (hK : vx_Back l R p e below s args y 3 W9 Pre Post PostX)
    {b : Addr} {cellB : Cell} (hcell : T.heap[b]? = some cellB) (hobj : cellB.vm.isStatics = false) (hcls : s.vm.findClass C = some cellB.cls)
    {g : JFrame} (hg : g.method = m) (hsize : g.locals.size = c.maxLocals) {argsL rest : List Value} (hlen : ∀ sig, parseMethodDescriptor y.desc = some sig → argsL.length = sig.parameters.length)
    (hstack : g.stack = argsL.reverse ++ .ref b :: rest) (hW : 2 * g.monitorRoom + (rest.map fun v => v.category).sum ≤ W9) (hdg : decode c.code g.pc = .ok (.invokevirtual index, 3))
    (hpre : ∀ vm₁, s.WarmedH vm₁ → Pre ⟨T.setVm vm₁, locs, cells, slots⟩ (Value.ref b :: argsL).toArray) :
    (∃ (v : Option Value) (vm₁ : Vm) (B : Pt), s.WarmedH vm₁ ∧ Stand p l e R s m args below meth c B.U B.locs B.cells B.slots ∧ Post ⟨T.setVm vm₁, locs, cells, slots⟩ (Value.ref b :: argsL).toArray v B ∧
      ∀ target, Steps p.tables e below (B.U.setTop { g with pc := g.pc + 3, stack := v.toList ++ rest }) target → Steps p.tables e below (T.setTop g) target) ∨
    (∃ (q : Addr) (vm₁ : Vm) (B : Pt), s.WarmedH vm₁ ∧ Stand p l e R s m args below meth c B.U B.locs B.cells B.slots ∧ PostX ⟨T.setVm vm₁, locs, cells, slots⟩ (Value.ref b :: argsL).toArray q B ∧
      Steps p.tables e below (T.setTop g) ((B.U.setTop { g with stack := rest }).pushFrame (.throwing q))) := by
  obtain ⟨mk, methM, hnamed, hmethM, hstM, habM⟩ := Cond.instanceMethod_spec hinst
  obtain ⟨methM', cM, hmethM', -, -, -, -, -, -, hsigM⟩ := Cond.code_spec hnamed hcode
  cases hmethM.symm.trans hmethM'
  obtain ⟨c2, r2, m2, q1, q2, q3, q4, kP, hkP, hkPi⟩ := Cond.selects_spec hsel
  cases hcls.symm.trans q1
  cases (State.methodFound?_of_named hnamed hy).symm.trans q2
  cases hnamed.symm.trans q3
  have hselP : selectMethod e.platform s.vm cellB.cls mk = .method mk := by rw [Launch.admits_selectMethod X.admits]; exact q4
  obtain ⟨vm₁, X₁, hstep₁⟩ := X.invokevirtual hexec hown hlink hnamed hmethM hstM hkP hkPi hy (a := b) (cell := cellB) hcell
    (fun z h => by rw [h] at hobj; cases hobj) hselP hmethM habM hkP hkPi (g := g) hg (argsL := argsL) (rest := rest) (hlen _ hsigM) hstack hdg
  rcases hK m meth c ⟨T.setVm vm₁, locs, cells, slots⟩ { g with stack := rest } (.invokevirtual index) mk (Value.ref b :: argsL).toArray X₁ hg hsize hdg hW (X₁.named hnamed) (hpre vm₁ X₁.warmed) with ⟨v, B, X', hpost, hsteps⟩ | ⟨q, B, X', hpost, hsteps⟩
  · exact Or.inl ⟨v, vm₁, B, X₁.warmed, X', hpost, fun target h => hstep₁ _ fun acts => by rw [doInvoke_state]; exact hsteps.trans h⟩
  · exact Or.inr ⟨q, vm₁, B, X₁.warmed, X', hpost, hstep₁ _ fun acts => by rw [doInvoke_state]; exact hsteps⟩
theorem vx_callS (X : Stand p l e R s m args below meth c T locs cells slots) (hexec : p.tables.exec = Jvm.exec) {own : String} {index : Nat} {y : MethodName} {bytes : ByteArray} {maxL : Nat} {ret : Option FieldType}
    (hown : s.vm.findClass own = some m.cls) (hlink : (Cond.methodLink own index y).before args s = true) (hstat : (Cond.static y).before args s = true) (hinit : (Cond.initialized y.cls).before args s = true)
    (hcode : (Cond.code y bytes maxL ret).before args s = true) (hy : y.cls ≠ "java/lang/invoke/MethodHandle" ∧ y.cls ≠ "java/lang/invoke/VarHandle")
    {W9 : Nat} {Pre : Pt → Array Value → Prop} {Post : Pt → Array Value → Option Value → Pt → Prop} {PostX : Pt → Array Value → Addr → Pt → Prop} (hK : vx_Back l R p e below s args y 3 W9 Pre Post PostX)
    {g : JFrame} (hg : g.method = m) (hsize : g.locals.size = c.maxLocals) {argsL rest : List Value} (hlen : ∀ sig, parseMethodDescriptor y.desc = some sig → argsL.length = sig.parameters.length)
    (hstack : g.stack = argsL.reverse ++ rest) (hW : 2 * g.monitorRoom + (rest.map fun v => v.category).sum ≤ W9) (hdg : decode c.code g.pc = .ok (.invokestatic index, 3))
    (hpre : ∀ vm₁, s.WarmedH vm₁ → Pre ⟨T.setVm vm₁, locs, cells, slots⟩ argsL.toArray) :
    (∃ (v : Option Value) (vm₁ : Vm) (B : Pt), s.WarmedH vm₁ ∧ Stand p l e R s m args below meth c B.U B.locs B.cells B.slots ∧ Post ⟨T.setVm vm₁, locs, cells, slots⟩ argsL.toArray v B ∧
      ∀ target, Steps p.tables e below (B.U.setTop { g with pc := g.pc + 3, stack := v.toList ++ rest }) target → Steps p.tables e below (T.setTop g) target) ∨
    (∃ (q : Addr) (vm₁ : Vm) (B : Pt), s.WarmedH vm₁ ∧ Stand p l e R s m args below meth c B.U B.locs B.cells B.slots ∧ PostX ⟨T.setVm vm₁, locs, cells, slots⟩ argsL.toArray q B ∧
      Steps p.tables e below (T.setTop g) ((B.U.setTop { g with stack := rest }).pushFrame (.throwing q))) := by
  obtain ⟨mk, hnamed⟩ := Cond.code_named hcode
  obtain ⟨methM, cM, hmethM, -, -, -, -, -, -, hsigM⟩ := Cond.code_spec hnamed hcode
  have hstatic : methM.isStatic = true := Cond.static_spec hnamed hmethM hstat
  obtain ⟨kP, hkP, -⟩ := className_of_methodNamed hnamed
  have hinitP : kP.init = .initialized := Cond.initialized_spec (findClass_of_methodNamed hnamed) hkP hinit
  obtain ⟨vm₁, X₁, hstep₁⟩ := X.invokestatic hexec hown hlink hnamed hmethM hstatic hkP hinitP hy (g := g) hg (argsL := argsL) (rest := rest) (hlen _ hsigM) hstack hdg
  rcases hK m meth c ⟨T.setVm vm₁, locs, cells, slots⟩ { g with stack := rest } (.invokestatic index) mk argsL.toArray X₁ hg hsize hdg hW (X₁.named hnamed) (hpre vm₁ X₁.warmed) with ⟨v, B, X', hpost, hsteps⟩ | ⟨q, B, X', hpost, hsteps⟩
  · exact Or.inl ⟨v, vm₁, B, X₁.warmed, X', hpost, fun target h => hstep₁ _ fun acts => by rw [doInvoke_state]; exact hsteps.trans h⟩
  · exact Or.inr ⟨q, vm₁, B, X₁.warmed, X', hpost, hstep₁ _ fun acts => by rw [doInvoke_state]; exact hsteps⟩
end Calls
theorem vx_cls {s : State} {T : State} {vm₁ : Vm} {E : String} {k : ClassId} (hW : s.WarmedH vm₁) (h : (T.setVm vm₁).vm.findClass E = some k) : s.vm.findClass E = some k := by
  have h1 : vm₁.findClass E = some k := h
  rw [hW.alike.findClass] at h1
  exact h1
/-- the method's frame g, with q thrown over it -/
def vx_W (p : Program) (l : Launch) (e : Env) (R : Room) (s : State) (m : MethodId) (args : Array Value) (below : List Frame) (meth : Method) (c : Code) (H : Heap) (locs : List Loc) (cells slots : Nat) (Q : State → Prop) (g : JFrame) (q : Addr) : Prop :=
  ∀ T : State, T.heap = H → Stand p l e R s m args below meth c T locs cells slots → ∃ t, Steps p.tables e below ((T.setTop g).pushFrame (.throwing q)) t ∧ Q t
def vx_Run (p : Program) (l : Launch) (e : Env) (R : Room) (s : State) (m : MethodId) (args : Array Value) (below : List Frame) (meth : Method) (c : Code) (H : Heap) (locs : List Loc) (cells slots mc ms : Nat) (g : JFrame) (rest : List Value) (Qa : State → Outcome → State → Prop) (XC : String → State → State → Prop) (free : Addr → Prop) : Prop :=
  ∀ T : State, T.heap = H → Stand p l e R s m args below meth c T locs cells slots →
    (∃ (v : Option Value) (st₀ t T' : State) (L : List Loc), st₀.heap = H ∧ Stand p l e R s m args below meth c T' (locs ++ L) (cells + mc) (slots + ms) ∧ (∀ q ∈ L, free q.base) ∧ T'.heap = t.heap ∧ T'.vm = t.vm ∧ Qa st₀ (.returned v) t ∧
      Goes p e below T g T' { g with pc := g.pc + 3, stack := v.toList ++ rest }) ∨
    (∃ (q : Addr) (st₀ t T' : State) (L : List Loc) (E : String) (ce : Cell), st₀.heap = H ∧ Stand p l e R s m args below meth c T' (locs ++ L) (cells + mc) (slots + ms) ∧ (∀ z ∈ L, free z.base) ∧ T'.heap = t.heap ∧ T'.vm = t.vm ∧ XC E st₀ t ∧ t.heap[q]? = some ce ∧ ce.vm = .none ∧ s.vm.findClass E = some ce.cls ∧
      Steps p.tables e below (T.setTop g) ((T'.setTop { g with stack := rest }).pushFrame (.throwing q)))
def vx_X {S : Type} (px : S → Prop) (B : String → S → State → Prop) (A : Nat → Prop) : String → State → State → Prop := fun E st t => ∃ u : S, px u ∧ B E u t ∧ va_F A st t
section Runs
variable {p : Program} {l : Launch} {e : Env} {R : Room} {s : State} {m : MethodId} {args : Array Value} {below : List Frame} {meth : Method} {c : Code} {H : Heap} {locs : List Loc} {cells slots : Nat}
variable {y : MethodName} {bytes cc : ByteArray} {maxL nL mc ms n index : Nat} {ret : Option FieldType} {ws : List Cond} {rm : Room} {Pc : Array Value → State → Prop} {Qc : Array Value → State → Outcome → State → Prop} {XC : String → State → State → Prop} {free : Addr → Prop} {Ts : List Cond} {own C : String} {b : Addr} {As rest : List Value} {g : JFrame}
theorem vx_callBack (cb : CallB R s args own index y bytes maxL ret ws rm mc ms n) (hM : vx_Met l y ws rm Pc Qc XC mc ms free) (hbl : FrameBlind Pc) : vx_Back l R p e below s args y 3 8 (PreOf R mc ms Pc) (PostOf Qc mc ms free) (vx_Post XC mc ms free) := by
  obtain ⟨hrc, hrs, hfr, hlo, hws, hcw, -, hini, -⟩ := cb
  exact vx_back (bytes := bytes) (maxL := maxL) (ret := ret) hM hbl hrc hrs hfr hlo hws hcw (fun a' U hW => word_at hW (Or.inl (by first | rfl | simp [Cond.onTables, Cond.keeps, Cond.steady])) hini)
theorem vx_runV (S : CallFix p m c cc nL s args Ts own) (hM : vx_Met l y ws rm Pc Qc XC mc ms free) (cw : CallW R s args own C index y bytes maxL ret ws rm mc ms n) (hp : PreV s H C b Pc As)
    (hg : g.method = m) (hn : As.length = n) (hsize : g.locals.size = nL) (hstack : g.stack = As.reverse ++ .ref b :: rest) (hW : 2 * g.monitorRoom + (rest.map fun v => v.category).sum ≤ 8) (hdg : decode cc g.pc = .ok (.invokevirtual index, 3)) (hf : cells + mc ≤ R.cells ∧ slots + ms ≤ R.slots) :
    vx_Run p l e R s m args below meth c H locs cells slots mc ms g rest (Qc (Value.ref b :: As).toArray) XC free := by
  have hK : vx_Back l R p e below s args y 3 8 (PreOf R mc ms Pc) (PostOf Qc mc ms free) (vx_Post XC mc ms free) := vx_callBack cw.1 hM hp.1
  obtain ⟨⟨-, -, -, -, -, -, hcode, -, hy, hlen, hl⟩, hin, hse⟩ := cw
  obtain ⟨hx, hb, hml, ho, -⟩ := S
  obtain ⟨-, ⟨cellB, hcB, hoB, hclB⟩, hPc⟩ := hp
  intro T hT X
  rcases vx_callV X hx (C := C) (bytes := bytes) (maxL := maxL) (ret := ret) ho hl hin hse hcode hy hK (by rw [hT]; exact hcB) hoB hclB hg (hsize.trans hml.symm) (argsL := As) (rest := rest) (fun sig h => hn.trans (hlen sig h)) hstack hW (by rw [hb]; exact hdg)
    (fun vm₁ hW₁ => ⟨hf.1, hf.2, hPc (T.setVm vm₁) hT hW₁⟩) with ⟨v, vm₁, ⟨U', l2, c2, s2⟩, hW₁, X', ⟨g', mk, t, L, e1, e2, hq, h1, hL, h2, h3⟩, st⟩ | ⟨q, vm₁, ⟨U', l2, c2, s2⟩, hW₁, X', ⟨g', mk, t, L, E, ce, e1, e2, hq, hce, hcv, hcl, h1, hL, h2, h3⟩, st⟩
  · dsimp only [Pt.U, Pt.locs, Pt.cells, Pt.slots] at X' e1 e2 h1 h2 h3 st
    subst h1; subst h2; subst h3
    exact Or.inl ⟨v, (T.setVm vm₁).calling g' mk (Value.ref b :: As).toArray, t, U', L, hT, X', hL, e1, e2, hq, st⟩
  · dsimp only [Pt.U, Pt.locs, Pt.cells, Pt.slots] at X' e1 e2 h1 h2 h3 st hcl
    subst h1; subst h2; subst h3
    exact Or.inr ⟨q, (T.setVm vm₁).calling g' mk (Value.ref b :: As).toArray, t, U', L, E, ce, hT, X', hL, e1, e2, hq, hce, hcv, vx_cls hW₁ hcl, st⟩
theorem vx_runS (S : CallFix p m c cc nL s args Ts own) (hM : vx_Met l y ws rm Pc Qc XC mc ms free) (cw : CallB R s args own index y bytes maxL ret ws rm mc ms n ∧ (Cond.static y).before args s = true) (hp : PreS s H Pc As)
    (hg : g.method = m) (hn : As.length = n) (hsize : g.locals.size = nL) (hstack : g.stack = As.reverse ++ rest) (hW : 2 * g.monitorRoom + (rest.map fun v => v.category).sum ≤ 8) (hdg : decode cc g.pc = .ok (.invokestatic index, 3)) (hf : cells + mc ≤ R.cells ∧ slots + ms ≤ R.slots) :
    vx_Run p l e R s m args below meth c H locs cells slots mc ms g rest (Qc As.toArray) XC free := by
  have hK : vx_Back l R p e below s args y 3 8 (PreOf R mc ms Pc) (PostOf Qc mc ms free) (vx_Post XC mc ms free) := vx_callBack cw.1 hM hp.1
  obtain ⟨⟨-, -, -, -, -, -, hcode, hini, hy, hlen, hl⟩, hstt⟩ := cw
  obtain ⟨hx, hb, hml, ho, -⟩ := S
  intro T hT X
  rcases vx_callS X hx (bytes := bytes) (maxL := maxL) (ret := ret) ho hl hstt hini hcode hy hK hg (hsize.trans hml.symm) (argsL := As) (rest := rest) (fun sig h => hn.trans (hlen sig h)) hstack hW (by rw [hb]; exact hdg)
    (fun vm₁ hW₁ => ⟨hf.1, hf.2, hp.2 (T.setVm vm₁) hT hW₁⟩) with ⟨v, vm₁, ⟨U', l2, c2, s2⟩, hW₁, X', ⟨g', mk, t, L, e1, e2, hq, h1, hL, h2, h3⟩, st⟩ | ⟨q, vm₁, ⟨U', l2, c2, s2⟩, hW₁, X', ⟨g', mk, t, L, E, ce, e1, e2, hq, hce, hcv, hcl, h1, hL, h2, h3⟩, st⟩
  · dsimp only [Pt.U, Pt.locs, Pt.cells, Pt.slots] at X' e1 e2 h1 h2 h3 st
    subst h1; subst h2; subst h3
    exact Or.inl ⟨v, (T.setVm vm₁).calling g' mk As.toArray, t, U', L, hT, X', hL, e1, e2, hq, st⟩
  · dsimp only [Pt.U, Pt.locs, Pt.cells, Pt.slots] at X' e1 e2 h1 h2 h3 st hcl
    subst h1; subst h2; subst h3
    exact Or.inr ⟨q, (T.setVm vm₁).calling g' mk As.toArray, t, U', L, E, ce, hT, X', hL, e1, e2, hq, hce, hcv, vx_cls hW₁ hcl, st⟩
end Runs
section Rows
variable {p : Program} {l : Launch} {e : Env} {R : Room} {s : State} {m : MethodId} {args : Array Value} {below : List Frame} {meth : Method} {c : Code} {H : Heap} {locs : List Loc} {cells slots : Nat} {Q : State → Prop}
variable {mc ms : Nat} {free : Addr → Prop} {A0 A1 : Nat → Prop} {H0 : Heap} {a : Array Value} {pc : Nat} {ls : Array Slot} {st0 rest : List Value}
theorem vx_keep {st₀ t T' : State} {L : List Loc} (h0 : st₀.heap = H) (e1 : T'.heap = t.heap) (hS : va_S A0 H0 H locs) (hA : ∀ q, q < H.size → A1 q → A0 q) (hf : ∀ q, free q → A0 q) (hL : ∀ q ∈ L, free q.base) (hF : va_F A1 st₀ t) :
    H.size ≤ T'.heap.size ∧ (∀ q : Nat, q < H.size → ¬ A1 q → T'.heap[q]? = H[q]?) ∧ va_S A0 H0 T'.heap (locs ++ L) := by
  obtain ⟨hz, hk⟩ := hF
  rw [h0] at hz hk
  exact ⟨by rw [e1]; exact hz, fun q h1 h2 => by rw [e1]; exact hk q h1 h2,
    ⟨Nat.le_trans hS.1 (by rw [e1]; exact hz), fun q h1 h2 => by rw [e1, hk q (Nat.lt_of_lt_of_le h1 hS.1) (fun z => h2 (hA q (Nat.lt_of_lt_of_le h1 hS.1) z))]; exact hS.2.1 q h1 h2, fun q hq => by
      rcases List.mem_append.mp hq with h | h
      · exact hS.2.2 q h
      · exact hf _ (hL q h)⟩⟩
theorem vx_calli {S SX : Type} {post : Int32 → S → Prop} {px : SX → Prop} {B : S → State → Prop} {BX : String → SX → State → Prop} {AX : Nat → Prop} (hr : vx_Run p l e R s m args below meth c H locs cells slots mc ms (F0 m pc ls st0) rest (va_Qi post B A1 a) (vx_X px BX AX) free) (hS : va_S A0 H0 H locs) (hA : ∀ q, q < H.size → A1 q → A0 q) (hf : ∀ q, free q → A0 q) (hAX : ∀ q, q < H.size → AX q → A0 q)
    (kx : ∀ (E : String) (ce : Cell) (q9 : Addr) (u : SX) (t : State) (H1 : Heap) (locs1 : List Loc), t.heap = H1 → s.vm.Alike t.vm → px u → BX E u t → H.size ≤ H1.size → (∀ q : Nat, q < H.size → ¬ AX q → H1[q]? = H[q]?) → va_S A0 H0 H1 locs1 → H1[q9]? = some ce → ce.vm = .none → s.vm.findClass E = some ce.cls → vx_W p l e R s m args below meth c H1 locs1 (cells + mc) (slots + ms) Q (F0 m pc ls rest) q9)
    (kk : ∀ (r : Int32) (u : S) (t : State) (H1 : Heap) (locs1 : List Loc), t.heap = H1 → s.vm.Alike t.vm → post r u → B u t → H.size ≤ H1.size → (∀ q : Nat, q < H.size → ¬ A1 q → H1[q]? = H[q]?) → va_S A0 H0 H1 locs1 → W p l e R s m args below meth c H1 locs1 (cells + mc) (slots + ms) Q (F0 m (pc + 3) ls (.int r :: rest))) : W p l e R s m args below meth c H locs cells slots Q (F0 m pc ls st0) := by
  intro T hT X
  rcases hr T hT X with ⟨v, st₀, t, T', L, h0, X', hL, e1, e2, ⟨⟨r, u, hv, hp, hb⟩, hF⟩, st⟩ | ⟨q, st₀, t, T', L, E, ce, h0, X', hL, e1, e2, ⟨u, hp, hb, hF⟩, hce, hcv, hcl, st⟩
  · cases hv
    obtain ⟨k1, k2, k3⟩ := vx_keep h0 e1 hS hA hf hL hF
    obtain ⟨t2, a1, b1⟩ := kk r u t T'.heap (locs ++ L) e1.symm (by rw [← e2]; exact X'.warmed.alike) hp hb k1 k2 k3 T' rfl X'
    exact ⟨t2, st t2 a1, b1⟩
  · obtain ⟨k1, k2, k3⟩ := vx_keep h0 e1 hS hAX hf hL hF
    obtain ⟨t2, a1, b1⟩ := kx E ce q u t T'.heap (locs ++ L) e1.symm (by rw [← e2]; exact X'.warmed.alike) hp hb k1 k2 k3 (by rw [e1]; exact hce) hcv hcl T' rfl X'
    exact ⟨t2, st.trans a1, b1⟩
theorem vx_calll {S SX : Type} {post : Int64 → S → Prop} {px : SX → Prop} {B : S → State → Prop} {BX : String → SX → State → Prop} {AX : Nat → Prop} (hr : vx_Run p l e R s m args below meth c H locs cells slots mc ms (F0 m pc ls st0) rest (va_Ql post B A1 a) (vx_X px BX AX) free) (hS : va_S A0 H0 H locs) (hA : ∀ q, q < H.size → A1 q → A0 q) (hf : ∀ q, free q → A0 q) (hAX : ∀ q, q < H.size → AX q → A0 q)
    (kx : ∀ (E : String) (ce : Cell) (q9 : Addr) (u : SX) (t : State) (H1 : Heap) (locs1 : List Loc), t.heap = H1 → s.vm.Alike t.vm → px u → BX E u t → H.size ≤ H1.size → (∀ q : Nat, q < H.size → ¬ AX q → H1[q]? = H[q]?) → va_S A0 H0 H1 locs1 → H1[q9]? = some ce → ce.vm = .none → s.vm.findClass E = some ce.cls → vx_W p l e R s m args below meth c H1 locs1 (cells + mc) (slots + ms) Q (F0 m pc ls rest) q9)
    (kk : ∀ (r : Int64) (u : S) (t : State) (H1 : Heap) (locs1 : List Loc), t.heap = H1 → s.vm.Alike t.vm → post r u → B u t → H.size ≤ H1.size → (∀ q : Nat, q < H.size → ¬ A1 q → H1[q]? = H[q]?) → va_S A0 H0 H1 locs1 → W p l e R s m args below meth c H1 locs1 (cells + mc) (slots + ms) Q (F0 m (pc + 3) ls (.long r :: rest))) : W p l e R s m args below meth c H locs cells slots Q (F0 m pc ls st0) := by
  intro T hT X
  rcases hr T hT X with ⟨v, st₀, t, T', L, h0, X', hL, e1, e2, ⟨⟨r, u, hv, hp, hb⟩, hF⟩, st⟩ | ⟨q, st₀, t, T', L, E, ce, h0, X', hL, e1, e2, ⟨u, hp, hb, hF⟩, hce, hcv, hcl, st⟩
  · cases hv
    obtain ⟨k1, k2, k3⟩ := vx_keep h0 e1 hS hA hf hL hF
    obtain ⟨t2, a1, b1⟩ := kk r u t T'.heap (locs ++ L) e1.symm (by rw [← e2]; exact X'.warmed.alike) hp hb k1 k2 k3 T' rfl X'
    exact ⟨t2, st t2 a1, b1⟩
  · obtain ⟨k1, k2, k3⟩ := vx_keep h0 e1 hS hAX hf hL hF
    obtain ⟨t2, a1, b1⟩ := kx E ce q u t T'.heap (locs ++ L) e1.symm (by rw [← e2]; exact X'.warmed.alike) hp hb k1 k2 k3 (by rw [e1]; exact hce) hcv hcl T' rfl X'
    exact ⟨t2, st.trans a1, b1⟩
theorem vx_callf {S SX : Type} {post : UInt32 → S → Prop} {px : SX → Prop} {B : S → State → Prop} {BX : String → SX → State → Prop} {AX : Nat → Prop} (hr : vx_Run p l e R s m args below meth c H locs cells slots mc ms (F0 m pc ls st0) rest (va_Qf post B A1 a) (vx_X px BX AX) free) (hS : va_S A0 H0 H locs) (hA : ∀ q, q < H.size → A1 q → A0 q) (hf : ∀ q, free q → A0 q) (hAX : ∀ q, q < H.size → AX q → A0 q)
    (kx : ∀ (E : String) (ce : Cell) (q9 : Addr) (u : SX) (t : State) (H1 : Heap) (locs1 : List Loc), t.heap = H1 → s.vm.Alike t.vm → px u → BX E u t → H.size ≤ H1.size → (∀ q : Nat, q < H.size → ¬ AX q → H1[q]? = H[q]?) → va_S A0 H0 H1 locs1 → H1[q9]? = some ce → ce.vm = .none → s.vm.findClass E = some ce.cls → vx_W p l e R s m args below meth c H1 locs1 (cells + mc) (slots + ms) Q (F0 m pc ls rest) q9)
    (kk : ∀ (r : UInt32) (u : S) (t : State) (H1 : Heap) (locs1 : List Loc), t.heap = H1 → s.vm.Alike t.vm → post r u → B u t → H.size ≤ H1.size → (∀ q : Nat, q < H.size → ¬ A1 q → H1[q]? = H[q]?) → va_S A0 H0 H1 locs1 → W p l e R s m args below meth c H1 locs1 (cells + mc) (slots + ms) Q (F0 m (pc + 3) ls (.float r :: rest))) : W p l e R s m args below meth c H locs cells slots Q (F0 m pc ls st0) := by
  intro T hT X
  rcases hr T hT X with ⟨v, st₀, t, T', L, h0, X', hL, e1, e2, ⟨⟨r, u, hv, hp, hb⟩, hF⟩, st⟩ | ⟨q, st₀, t, T', L, E, ce, h0, X', hL, e1, e2, ⟨u, hp, hb, hF⟩, hce, hcv, hcl, st⟩
  · cases hv
    obtain ⟨k1, k2, k3⟩ := vx_keep h0 e1 hS hA hf hL hF
    obtain ⟨t2, a1, b1⟩ := kk r u t T'.heap (locs ++ L) e1.symm (by rw [← e2]; exact X'.warmed.alike) hp hb k1 k2 k3 T' rfl X'
    exact ⟨t2, st t2 a1, b1⟩
  · obtain ⟨k1, k2, k3⟩ := vx_keep h0 e1 hS hAX hf hL hF
    obtain ⟨t2, a1, b1⟩ := kx E ce q u t T'.heap (locs ++ L) e1.symm (by rw [← e2]; exact X'.warmed.alike) hp hb k1 k2 k3 (by rw [e1]; exact hce) hcv hcl T' rfl X'
    exact ⟨t2, st.trans a1, b1⟩
theorem vx_calld {S SX : Type} {post : UInt64 → S → Prop} {px : SX → Prop} {B : S → State → Prop} {BX : String → SX → State → Prop} {AX : Nat → Prop} (hr : vx_Run p l e R s m args below meth c H locs cells slots mc ms (F0 m pc ls st0) rest (va_Qd post B A1 a) (vx_X px BX AX) free) (hS : va_S A0 H0 H locs) (hA : ∀ q, q < H.size → A1 q → A0 q) (hf : ∀ q, free q → A0 q) (hAX : ∀ q, q < H.size → AX q → A0 q)
    (kx : ∀ (E : String) (ce : Cell) (q9 : Addr) (u : SX) (t : State) (H1 : Heap) (locs1 : List Loc), t.heap = H1 → s.vm.Alike t.vm → px u → BX E u t → H.size ≤ H1.size → (∀ q : Nat, q < H.size → ¬ AX q → H1[q]? = H[q]?) → va_S A0 H0 H1 locs1 → H1[q9]? = some ce → ce.vm = .none → s.vm.findClass E = some ce.cls → vx_W p l e R s m args below meth c H1 locs1 (cells + mc) (slots + ms) Q (F0 m pc ls rest) q9)
    (kk : ∀ (r : UInt64) (u : S) (t : State) (H1 : Heap) (locs1 : List Loc), t.heap = H1 → s.vm.Alike t.vm → post r u → B u t → H.size ≤ H1.size → (∀ q : Nat, q < H.size → ¬ A1 q → H1[q]? = H[q]?) → va_S A0 H0 H1 locs1 → W p l e R s m args below meth c H1 locs1 (cells + mc) (slots + ms) Q (F0 m (pc + 3) ls (.double r :: rest))) : W p l e R s m args below meth c H locs cells slots Q (F0 m pc ls st0) := by
  intro T hT X
  rcases hr T hT X with ⟨v, st₀, t, T', L, h0, X', hL, e1, e2, ⟨⟨r, u, hv, hp, hb⟩, hF⟩, st⟩ | ⟨q, st₀, t, T', L, E, ce, h0, X', hL, e1, e2, ⟨u, hp, hb, hF⟩, hce, hcv, hcl, st⟩
  · cases hv
    obtain ⟨k1, k2, k3⟩ := vx_keep h0 e1 hS hA hf hL hF
    obtain ⟨t2, a1, b1⟩ := kk r u t T'.heap (locs ++ L) e1.symm (by rw [← e2]; exact X'.warmed.alike) hp hb k1 k2 k3 T' rfl X'
    exact ⟨t2, st t2 a1, b1⟩
  · obtain ⟨k1, k2, k3⟩ := vx_keep h0 e1 hS hAX hf hL hF
    obtain ⟨t2, a1, b1⟩ := kx E ce q u t T'.heap (locs ++ L) e1.symm (by rw [← e2]; exact X'.warmed.alike) hp hb k1 k2 k3 (by rw [e1]; exact hce) hcv hcl T' rfl X'
    exact ⟨t2, st.trans a1, b1⟩
theorem vx_callv {S SX : Type} {post : S → Prop} {px : SX → Prop} {B : S → State → Prop} {BX : String → SX → State → Prop} {AX : Nat → Prop} (hr : vx_Run p l e R s m args below meth c H locs cells slots mc ms (F0 m pc ls st0) rest (va_Qv post B A1 a) (vx_X px BX AX) free) (hS : va_S A0 H0 H locs) (hA : ∀ q, q < H.size → A1 q → A0 q) (hf : ∀ q, free q → A0 q) (hAX : ∀ q, q < H.size → AX q → A0 q)
    (kx : ∀ (E : String) (ce : Cell) (q9 : Addr) (u : SX) (t : State) (H1 : Heap) (locs1 : List Loc), t.heap = H1 → s.vm.Alike t.vm → px u → BX E u t → H.size ≤ H1.size → (∀ q : Nat, q < H.size → ¬ AX q → H1[q]? = H[q]?) → va_S A0 H0 H1 locs1 → H1[q9]? = some ce → ce.vm = .none → s.vm.findClass E = some ce.cls → vx_W p l e R s m args below meth c H1 locs1 (cells + mc) (slots + ms) Q (F0 m pc ls rest) q9)
    (kk : ∀ (u : S) (t : State) (H1 : Heap) (locs1 : List Loc), t.heap = H1 → s.vm.Alike t.vm → post u → B u t → H.size ≤ H1.size → (∀ q : Nat, q < H.size → ¬ A1 q → H1[q]? = H[q]?) → va_S A0 H0 H1 locs1 → W p l e R s m args below meth c H1 locs1 (cells + mc) (slots + ms) Q (F0 m (pc + 3) ls (rest))) : W p l e R s m args below meth c H locs cells slots Q (F0 m pc ls st0) := by
  intro T hT X
  rcases hr T hT X with ⟨v, st₀, t, T', L, h0, X', hL, e1, e2, ⟨⟨u, hv, hp, hb⟩, hF⟩, st⟩ | ⟨q, st₀, t, T', L, E, ce, h0, X', hL, e1, e2, ⟨u, hp, hb, hF⟩, hce, hcv, hcl, st⟩
  · cases hv
    obtain ⟨k1, k2, k3⟩ := vx_keep h0 e1 hS hA hf hL hF
    obtain ⟨t2, a1, b1⟩ := kk u t T'.heap (locs ++ L) e1.symm (by rw [← e2]; exact X'.warmed.alike) hp hb k1 k2 k3 T' rfl X'
    exact ⟨t2, st t2 a1, b1⟩
  · obtain ⟨k1, k2, k3⟩ := vx_keep h0 e1 hS hAX hf hL hF
    obtain ⟨t2, a1, b1⟩ := kx E ce q u t T'.heap (locs ++ L) e1.symm (by rw [← e2]; exact X'.warmed.alike) hp hb k1 k2 k3 (by rw [e1]; exact hce) hcv hcl T' rfl X'
    exact ⟨t2, st.trans a1, b1⟩
/-- caught by the row x of this method's table; the rows ahead don't take it -/
theorem vx_catch {own name : String} {E : String} {ce : Cell} {q : Addr} (hown : s.vm.findClass own = some m.cls) (pre : List ExceptionTableEntry) (x : ExceptionTableEntry) (suf : List ExceptionTableEntry) (hsplit : c.exceptionTable.toList = pre ++ x :: suf)
    (hpass : ∀ z ∈ pre, covers z pc = false ∨ (z.catchType ≠ 0 ∧ ∃ nm : String, (Cond.classLink own z.catchType nm).before args s = true ∧ va_Nc E nm s)) (hx : covers x pc = true) (h0 : x.catchType ≠ 0)
    (hlink : (Cond.classLink own x.catchType name).before args s = true) (hcast : (Cond.castable E name).before args s = true) (hcell : H[q]? = some ce) (hv : ce.vm = .none) (hcl : s.vm.findClass E = some ce.cls)
    (kk : W p l e R s m args below meth c H locs cells slots Q (F0 m x.handlerPc ls [.ref q])) : vx_W p l e R s m args below meth c H locs cells slots Q (F0 m pc ls rest) q := by
  intro T hT X
  have hpl : e.platform.magicAccessors = ({} : Platform).magicAccessors := by rw [X.admits.platform]
  obtain ⟨c3, c4, hc3, hc4, hasg⟩ := Cond.castable_spec hcast
  cases Option.some.inj (hc3.symm.trans hcl)
  obtain ⟨c5, hc5, hcl5⟩ := Cond.classLink_spec hown hlink e.platform hpl
  cases Option.some.inj (hc4.symm.trans hc5)
  obtain ⟨vm', X', st⟩ := X.thenCaughtThrough q (g := F0 m pc ls rest) rfl (Steps.refl _) (by rw [hT]; exact hcell) (by rw [hv]; rfl) (by obtain ⟨k9, h9, -⟩ := Vm.findClass_spec hcl; exact ⟨k9, h9⟩) pre x suf hsplit
    (fun z hz => by
      rcases hpass z hz with h | ⟨hz0, nm, hl1, hn1⟩
      · exact Or.inl h
      · obtain ⟨c6, hc6, hcl6⟩ := Cond.classLink_spec hown hl1 e.platform hpl
        obtain ⟨a8, b8, h1, h2, h3⟩ := hn1
        cases Option.some.inj (h1.symm.trans hcl)
        cases Option.some.inj (h2.symm.trans hc6)
        exact Or.inr ⟨hz0, _, hcl6, h3⟩) hx (Or.inr ⟨h0, c4, hcl5, hasg⟩)
  obtain ⟨t, a1, b1⟩ := kk (T.setVm vm') hT X'
  exact ⟨t, st.trans a1, b1⟩
end Rows
section Ends
variable {p : Program} {l : Launch} {e : Env} {R : Room} {s : State} {m : MethodId} {args : Array Value} {below : List Frame} {meth : Method} {c : Code} {H : Heap} {locs : List Loc} {cells slots : Nat} {Q : State → Prop}
variable {mc ms : Nat} {free : Addr → Prop} {A0 A1 : Nat → Prop} {H0 : Heap} {a : Array Value} {ls : Array Slot} {st0 rest : List Value}
variable {Qc : Array Value → State → Outcome → State → Prop} {XC : String → State → State → Prop}
/-- what a body that may throw owes at its end -/
def vx_MQ (below : List Frame) (Qc : Array Value → State → Outcome → State → Prop) (XC : String → State → State → Prop) (a : Array Value) (s : State) (mc ms : Nat) (free : Addr → Prop) : State → Prop := fun t =>
  ∃ o, t.status = .running ∧ Ended t below o ∧ vx_Q Qc XC mc ms free a s o t
theorem vx_ret {g : JFrame} {mc ms : Nat} (k : W p l e R s m args below meth c H locs cells slots (MQ below Qc args s mc ms free) g) : W p l e R s m args below meth c H locs cells slots (vx_MQ below Qc XC args s mc ms free) g := by
  intro T hT X
  obtain ⟨t, a1, o, b1, b2, b3, b4⟩ := k T hT X
  exact ⟨t, a1, o, b1, b2, Or.inl ⟨b3, b4⟩⟩
/-- not caught here: it goes on to the caller -/
theorem vx_widen {g : JFrame} {q : Addr} {k n : Nat} (h1 : cells ≤ k) (h2 : slots ≤ n) (kk : vx_W p l e R s m args below meth c H locs k n Q g q) : vx_W p l e R s m args below meth c H locs cells slots Q g q := fun T hT X => kk T hT (stand_widen X h1 h2)
theorem vx_out {pc : Nat} {E : String} {ce : Cell} {q : Addr} {mc ms : Nat} (hout : ∀ x ∈ c.exceptionTable.toList, covers x pc = false) (hlocks : meth.locks = false) (hcell : H[q]? = some ce) (hv : ce.vm = .none) (hcl : s.vm.findClass E = some ce.cls)
    (hx : ∀ t : State, t.heap = H → s.vm.Alike t.vm → XC E s t) (hf : ∀ z ∈ locs, free z.base) (hc : cells ≤ mc) (hs : slots ≤ ms) :
    vx_W p l e R s m args below meth c H locs cells slots (vx_MQ below Qc XC args s mc ms free) (F0 m pc ls rest) q := by
  intro T hT X
  obtain ⟨st1, hrun, hend, hW, hsm⟩ := X.leaveThrown q (g := F0 m pc ls rest) rfl rfl rfl hout hlocks
  have hcell9 : (T.setFrames (.throwing q :: below)).heap[q]? = some ce := by
    show T.heap[q]? = some ce
    rw [hT]; exact hcell
  exact ⟨_, st1, .threw q, hrun, hend, Or.inr ⟨q, rfl, E, ce, locs, hx _ hT hW.alike, hcell9, hv, hcl, hW, hsm.mono hc hs, hf⟩⟩
theorem vx_frame {U : State} {k n : Nat} (h : s.sameButNew ({ U with vm := s.vm } : State) locs k n) : s.heap.size ≤ U.heap.size ∧ ∀ q : Nat, q < s.heap.size → (∀ z ∈ locs, z.base ≠ q) → U.heap[q]? = s.heap[q]? := by
  obtain ⟨-, h2, -, -, -, h6⟩ := h
  refine ⟨h2, fun q hq hz => ?_⟩
  obtain ⟨c9, e1, e2, e3, e4⟩ := h6 q _ (Array.getElem?_eq_getElem hq)
  have hs : c9.slots = (s.heap[q]).slots := Array.ext_getElem? fun i => e4 i fun hm => hz _ hm rfl
  have h9 : c9 = s.heap[q] := by
    rw [hs] at e2
    exact e2
  have e5 : U.heap[q]? = some c9 := e1
  rw [e5, h9, Array.getElem?_eq_getElem hq]
/-- the words of a throw but the four that speak of the heap -/
def vx_no (w : Cond) : Bool := decide (w ≠ .isRef (.static Bundle.tN "UNASSIGNED_STACK" Bundle.steD)) && decide (w ≠ .isRef (.static Bundle.tN "SUPPRESSED_SENTINEL" Bundle.listD)) && decide (w ≠ .laysStatic Bundle.tN "UNASSIGNED_STACK" Bundle.steD) && decide (w ≠ .laysStatic Bundle.tN "SUPPRESSED_SENTINEL" Bundle.listD)
def vx_at0 (own : String) (ic : Nat) (X : String) (names : List String) : List Cond := (Bundle.ownAtoms0 own ic X names).filter vx_no
def vx_atS (own : String) (ic : Nat) (X : String) (names : List String) : List Cond := (Bundle.ownAtoms own ic X names).filter vx_no
/-- a word that the tables alone decide, or a good one -/
def vx_ot (w : Cond) : Bool := w.onTables || goodWord w
theorem vx_ot_at {args a' : Array Value} {s U : State} {w : Cond} (hW : s.WarmedH U.vm) (hvm : s.vm = U.vm) (hg : vx_ot w = true) (h : w.before args s = true) : w.before a' U = true := by
  simp only [vx_ot, Bool.or_eq_true] at hg
  rcases hg with hg | hg
  · exact va_tabs hg hvm h
  · exact word_at hW (good_of_word hg) h
/-- a list's words: the good ones out of the method's own list, the others by premises of their own -/
theorem vx_hat {args : Array Value} {s : State} {L B : List Cond} (h1 : ∀ w ∈ L.filter goodWord, w.before args s = true) (h2 : ∀ w ∈ L.filter (fun w => !goodWord w), w ∈ B) (h3 : ∀ w ∈ B, w.before args s = true) : ∀ w ∈ L, w.before args s = true := by
  intro w hw
  by_cases g : goodWord w = true
  · exact h1 w (List.mem_filter.mpr ⟨hw, g⟩)
  · refine h3 w (h2 w (List.mem_filter.mpr ⟨hw, ?_⟩))
    show (!goodWord w) = true
    cases hgw : goodWord w
    · rfl
    · exact absurd hgw g
theorem vx_c {args : Array Value} {s : State} {w : Cond} {B : List Cond} (h : w.before args s = true) (t : ∀ w ∈ B, w.before args s = true) : ∀ w' ∈ w :: B, w'.before args s = true := fun w' h' => (List.mem_cons.mp h').elim (fun e => by rw [e]; exact h) (t w')
theorem vx_n {args : Array Value} {s : State} : ∀ w ∈ ([] : List Cond), w.before args s = true := fun _ h => nomatch h
theorem vx_own {args : Array Value} {s : State} {L : List Cond} (h1 : ∀ w ∈ L.filter vx_no, w.before args s = true)
    (hU : (Cond.isRef (.static Bundle.tN "UNASSIGNED_STACK" Bundle.steD)).before args s = true) (hN : (Cond.isRef (.static Bundle.tN "SUPPRESSED_SENTINEL" Bundle.listD)).before args s = true)
    (lU : (Cond.laysStatic Bundle.tN "UNASSIGNED_STACK" Bundle.steD).before args s = true) (lN : (Cond.laysStatic Bundle.tN "SUPPRESSED_SENTINEL" Bundle.listD).before args s = true) : ∀ w ∈ L, w.before args s = true := by
  intro w hw
  by_cases e1 : w = .isRef (.static Bundle.tN "UNASSIGNED_STACK" Bundle.steD)
  · rw [e1]; exact hU
  · by_cases e2 : w = .isRef (.static Bundle.tN "SUPPRESSED_SENTINEL" Bundle.listD)
    · rw [e2]; exact hN
    · by_cases e3 : w = .laysStatic Bundle.tN "UNASSIGNED_STACK" Bundle.steD
      · rw [e3]; exact lU
      · by_cases e4 : w = .laysStatic Bundle.tN "SUPPRESSED_SENTINEL" Bundle.listD
        · rw [e4]; exact lN
        · exact h1 w (List.mem_filter.mpr ⟨hw, by unfold vx_no; rw [decide_eq_true e1, decide_eq_true e2, decide_eq_true e3, decide_eq_true e4]; rfl⟩)
/-- where a static field lies, its class's statics cell in H -/
def vx_L (C n d : String) (A : Nat → Prop) (U : State) (H : Heap) : Prop := ∃ (c : ClassId) (k : Class) (i : Nat) (f : Field) (a : Nat) (cell : Cell), U.vm.findClass C = some c ∧ U.fieldFound? C n d = some (c, k, i, f) ∧ f.isStatic = true ∧ k.statics = some a ∧ H[a]? = some cell ∧ cell.vm.isStatics = true ∧ cell.cls = c ∧ f.slot < cell.slots.size ∧ k.staticTypes[f.slot]? = some f.type ∧ ¬ A a
theorem vx_L.moved {C n d : String} {A : Nat → Prop} {u U : State} {H : Heap} (hvm : u.vm.Alike U.vm) (h : vx_L C n d A u H) : vx_L C n d A U H := by
  obtain ⟨c, k, i, f, a, cell, h1, h2, h3, h4, h5, h6, h7, h8, h9, h10⟩ := h
  obtain ⟨k', hi', he⟩ := State.fieldFound?_setVm hvm h2
  exact ⟨c, k', i, f, a, cell, by rw [hvm.findClass]; exact h1, hi', h3, by rw [he]; exact h4, h5, h6, h7, h8, by rw [he]; exact h9, h10⟩
theorem vx_L.kept {C n d : String} {A : Nat → Prop} {U : State} {H H1 : Heap} (h : vx_L C n d A U H) (hq : ∀ a : Nat, a < H.size → ¬ A a → H1[a]? = H[a]?) : vx_L C n d A U H1 := by
  obtain ⟨c, k, i, f, a, cell, h1, h2, h3, h4, h5, h6, h7, h8, h9, h10⟩ := h
  exact ⟨c, k, i, f, a, cell, h1, h2, h3, h4, by rw [hq a (Array.getElem?_eq_some_iff.mp h5).1 h10]; exact h5, h6, h7, h8, h9, h10⟩
theorem vx_L.narrow {C n d : String} {A B : Nat → Prop} {U : State} {H : Heap} (h : vx_L C n d A U H) (hAB : ∀ q, B q → A q) : vx_L C n d B U H := by
  obtain ⟨c, k, i, f, a, cell, h1, h2, h3, h4, h5, h6, h7, h8, h9, h10⟩ := h
  exact ⟨c, k, i, f, a, cell, h1, h2, h3, h4, h5, h6, h7, h8, h9, fun z => h10 (hAB _ z)⟩
theorem vx_L.word {C n d : String} {A : Nat → Prop} {s : State} {args : Array Value} (h : vx_L C n d A s s.heap) : (Cond.laysStatic C n d).before args s = true := by
  obtain ⟨c, k, i, f, a, cell, h1, h2, h3, h4, h5, h6, h7, h8, h9, -⟩ := h
  show (Cond.laysStatic C n d).holds args s none s [] = true
  exact Cond.laysStatic_of h1 h2 h3 h4 h5 h6 h7 h8 h9
/-- .. and what it holds: null or some reference -/
def vx_Zq (C n d : String) (A : Nat → Prop) (U : State) (H : Heap) : Prop := va_Zq C n d A U H ∧ vx_L C n d A U H
theorem vx_Zq.moved {C n d : String} {A : Nat → Prop} {u U : State} {H : Heap} (hvm : u.vm.Alike U.vm) (h : vx_Zq C n d A u H) : vx_Zq C n d A U H := ⟨va_Zq.moved hvm h.1, vx_L.moved hvm h.2⟩
theorem vx_Zq.kept {C n d : String} {A : Nat → Prop} {U : State} {H H1 : Heap} (h : vx_Zq C n d A U H) (hq : ∀ a : Nat, a < H.size → ¬ A a → H1[a]? = H[a]?) : vx_Zq C n d A U H1 := ⟨va_Zq.kept h.1 hq, vx_L.kept h.2 hq⟩
theorem vx_Zq.narrow {C n d : String} {A B : Nat → Prop} {U : State} {H : Heap} (h : vx_Zq C n d A U H) (hAB : ∀ q, B q → A q) : vx_Zq C n d B U H := ⟨va_Zq.narrow h.1 hAB, vx_L.narrow h.2 hAB⟩
theorem vx_Zqof {args : Array Value} {s : State} {C n d : String} {A : Nat → Prop} (hl : (Cond.laysStatic C n d).before args s = true) (hini : (Cond.initialized C).before args s = true) (h : (Cond.isRef (.static C n d)).before args s = true) (hA : ∀ a : Nat, a < s.heap.size → ¬ A a) : vx_Zq C n d A s s.heap := by
  refine ⟨va_Zqof hl hini h hA, ?_⟩
  obtain ⟨c, k, i, f, a, cell, h1, h2, h3, h4, h5, h6, h7, h8, h9⟩ := Cond.laysStatic_spec hl
  exact ⟨c, k, i, f, a, cell, h1, h2, h3, h4, h5, h6, h7, h8, h9, hA a (Array.getElem?_eq_some_iff.mp h5).1⟩
theorem vx_isRef {C n d : String} {v : Value} {A : Nat → Prop} {s : State} {args : Array Value} (h : va_Z C n d v A s s.heap) (hv : v.isRef = true) : (Cond.isRef (.static C n d)).before args s = true := by
  obtain ⟨cf, kf, fi, f, a, cell, h1, h2, h3, h4, h5, h6, h7, -⟩ := h
  have he : (Term.static C n d).eval args s none [] s = some v := by
    simp [Term.eval, State.fieldNamed?, h1, h2, h4, h5, h6, h7]
  simp only [Cond.before, Cond.holds, Cond.value, he]
  cases v <;> simp_all [Value.isRef]
theorem vx_isRefq {C n d : String} {A : Nat → Prop} {s : State} {args : Array Value} (h : va_Zq C n d A s s.heap) : (Cond.isRef (.static C n d)).before args s = true := by
  rcases h with h | ⟨t, h⟩
  · exact vx_isRef h rfl
  · exact vx_isRef h rfl
/-- the same frame, seen from here: as if the method were called anew in this heap -/
theorem vx_rebase {T : State} (X : Stand p l e R s m args below meth c T locs cells slots) {R' : Room} (hf : R'.frames ≤ R.frames) (hl : R'.locals ≤ R.locals) (hc : cells + R'.cells ≤ R.cells) (hs : slots + R'.slots ≤ R.slots) :
    Stand p l e R' ((T.setVm s.vm).setFrames (.invoking m args :: below)) m args below meth c T [] 0 0 := by
  have htop : (T.setVm s.vm).topJava?.isSome := X.here.top
  have hF : ((T.setVm s.vm).setFrames (.invoking m args :: below)).frames = .invoking m args :: below := State.frames_setFrames _ (State.cur_lt_of_top htop)
  obtain ⟨g₀, hg0⟩ := Option.isSome_iff_exists.mp htop
  obtain ⟨r, hr⟩ := State.topJava?_eq_some.mp hg0
  have hl9 : e.platform.stackLimits (T.setVm s.vm).me = e.platform.stackLimits s.me := X.limits
  have hb9 : (T.setVm s.vm).me.stackBytes = s.me.stackBytes := X.bytes
  refine ⟨X.admits, X.cas, X.clock, hF, ?_, X.hears, X.method, X.code, X.here, X.tail, X.warmed, ?_, ?_, ?_⟩
  · have h := X.room
    have hU : ((T.setVm s.vm).setFrames (.invoking m args :: below)).localsInUse = s.localsInUse := by
      rw [State.localsInUse_invoking hF (meth := meth) (c := c) X.method X.code, State.localsInUse_invoking X.frames X.method X.code]
    simp only [State.hasRoom, Bool.and_eq_true, decide_eq_true_eq] at h ⊢
    obtain ⟨⟨⟨⟨h1, h2, h3, h4, h5, h6⟩, h7⟩, h8⟩, h9⟩ := h
    rw [X.frames, List.length_cons] at h2 h3
    have q1 := X.heapSize
    have q2 := X.used
    simp only [hF, hU, List.length_cons, State.stackLimits_setFrames, State.stackBytes_setFrames, hl9, hb9]
    refine ⟨⟨⟨⟨by omega, by omega, by omega, by omega, by omega, h6⟩, ?_⟩, ?_⟩, X.book⟩
    · show T.heap.size + R'.cells ≤ e.platform.maxCells
      omega
    · show T.slotsUsed + R'.slots ≤ e.platform.maxSlots
      omega
  · rw [State.stackLimits_setFrames]; rfl
  · rw [State.stackBytes_setFrames]; rfl
  · refine ⟨?_, Nat.le_refl _, Nat.le_refl _, ?_, ?_, fun a c9 h9 => ⟨c9, h9, rfl, rfl, fun _ _ => rfl⟩⟩
    · obtain ⟨t, ht, -⟩ := State.frames_cons hr
      show T.setVm s.vm = { ((T.setVm s.vm).setFrames (.invoking m args :: below)).setFrames (T.setVm s.vm).frames with heap := T.heap, slotsUsed := T.slotsUsed }
      rw [State.setFrames_setFrames, State.setFrames_self ht]
      rfl
    · show T.slotsUsed = T.slotsUsed + ((T.heap.toList.drop T.heap.size).map (·.slots.size)).sum
      rw [List.drop_eq_nil_of_le (Nat.le_of_eq Array.length_toList)]
      rfl
    · show ((T.heap.toList.drop T.heap.size).map (·.slots.size)).sum ≤ 0
      rw [List.drop_eq_nil_of_le (Nat.le_of_eq Array.length_toList)]
      exact Nat.le_refl _
/-- 'throw new E()': new; dup; invokespecial; athrow -/
theorem vx_throw0 {cc : ByteArray} {pc : Nat} (hexec : p.tables.exec = Jvm.exec) (hb : c.code = cc) (hl : l.stackTraces = false) {own cls : String} {names : List String} {ik ic mc ms : Nat} {A : Nat → Prop}
    (hown : s.vm.findClass own = some m.cls) (hcls : Bundle.fit cls = true) (hnames : ∀ n ∈ names, Bundle.fit n = true)
    (hk : (Cond.classLink own ik cls).before args s = true) (hini : (Cond.initialized cls).before args s = true) (hat : ∀ w ∈ vx_at0 own ic cls names, w.before args s = true)
    (hgood : ∀ w ∈ Cond.classLink own ik cls :: Cond.initialized cls :: vx_at0 own ic cls names, vx_ot w = true)
    (hU : vx_Zq Bundle.tN "UNASSIGNED_STACK" Bundle.steD A s s.heap) (hN : vx_Zq Bundle.tN "SUPPRESSED_SENTINEL" Bundle.listD A s s.heap) (hS : va_S A s.heap H locs) (hsize : ls.size = c.maxLocals)
    (d0 : decode cc pc = .ok (.new ik, 3)) (d3 : decode cc (pc + 3) = .ok (.dup, 1)) (d4 : decode cc (pc + 4) = .ok (.invokespecial ic, 3)) (d7 : decode cc (pc + 7) = .ok (.athrow, 1))
    (hout : ∀ x ∈ c.exceptionTable.toList, covers x (pc + 7) = false)
    (hRframes : names.length + 3 < R.frames) (hRlocals : (rest.map fun v => v.category).sum + (13 * (names.length + 1) + 42) ≤ R.locals) (hRcells : cells + 1 ≤ R.cells) (hRslots : slots + 6 ≤ R.slots) (hlocks : meth.locks = false)
    (hx : ∀ t : State, s.vm.Alike t.vm → H.size ≤ t.heap.size → (∀ q : Nat, q < H.size → t.heap[q]? = H[q]?) → XC cls s t)
    (hf : ∀ z ∈ locs, free z.base) (hc : cells + 1 ≤ mc) (hs : slots + 6 ≤ ms) :
    W p l e R s m args below meth c H locs cells slots (vx_MQ below Qc XC args s mc ms free) (F0 m pc ls rest) := by
  intro T hT X
  have htr : e.platform.stackTraces = false := (show e.platform.stackTraces = l.stackTraces by rw [X.admits.platform]).trans hl
  have Y := vx_rebase X (R' := { frames := R.frames, locals := R.locals, cells := 1, slots := 6 }) (Nat.le_refl _) (Nat.le_refl _) hRcells hRslots
  obtain ⟨s', hA⟩ : ∃ z, z = (T.setVm s.vm).setFrames (.invoking m args :: below) := ⟨_, rfl⟩
  rw [← hA] at Y
  have hvm : s'.vm = s.vm := by rw [hA]; rfl
  have hhp : s'.heap = H := by rw [hA]; exact hT
  have hW0 : s.WarmedH s'.vm := by rw [hvm]; exact State.WarmedH.refl s
  have hat' : ∀ w ∈ vx_at0 own ic cls names, w.before args s' = true := fun w hw => vx_ot_at hW0 hvm.symm (hgood w (List.mem_cons_of_mem _ (List.mem_cons_of_mem _ hw))) (hat w hw)
  have hk' : (Cond.classLink own ik cls).before args s' = true := vx_ot_at hW0 hvm.symm (hgood _ List.mem_cons_self) hk
  have hini' : (Cond.initialized cls).before args s' = true := vx_ot_at hW0 hvm.symm (hgood _ (List.mem_cons_of_mem _ List.mem_cons_self)) hini
  have hU' : vx_Zq Bundle.tN "UNASSIGNED_STACK" Bundle.steD A s' s'.heap := by rw [hhp]; exact vx_Zq.moved hW0.alike (hU.kept hS.2.1)
  have hN' : vx_Zq Bundle.tN "SUPPRESSED_SENTINEL" Bundle.listD A s' s'.heap := by rw [hhp]; exact vx_Zq.moved hW0.alike (hN.kept hS.2.1)
  have h : ∀ w ∈ Bundle.ownAtoms0 own ic cls names, w.before args s' = true := vx_own hat' (vx_isRefq hU'.1) (vx_isRefq hN'.1) hU'.2.word hN'.2.word
  have hown' : s'.vm.findClass own = some m.cls := by rw [hvm]; exact hown
  have hins : (Cond.instantiable cls 6).before args s' = true := h _ (by simp [Bundle.ownAtoms0])
  obtain ⟨vm₁, cX, kX, hfX, hkX, -, -, X₁, st1⟩ := Y.newCold hexec (own := own) (C := cls) (index := ik) (n := 6) hown' hk' hins hini'
    (g := F0 m pc ls rest) rfl (by rw [hb]; exact d0) (Nat.le_refl _) (Nat.le_refl _)
  generalize hT1 : (T.setVm vm₁).pushCell { cls := cX, slots := kX.instanceTypes.map defaultValue, vm := .none } = T1 at X₁ st1
  have hcat : (Value.ref T.heap.size).category = 1 := rfl
  have hcellA : T1.heap[T.heap.size]? = some (freshCell cX kX) := by rw [← hT1]; exact State.heap_pushCell_size _ _
  have d3' : decode c.code (pc + 3) = .ok (.dup, 1) := by rw [hb]; exact d3
  obtain ⟨U, hsteps, hrun, hend, hW, hsame, ce, hce, hO⟩ := X₁.ctorThrow0 hexec htr (own := own) (cls := cls) (names := names) (ic := ic) hown' hcls hnames h (fun x hx => nomatch hx) hfX hkX hcellA (by rw [hhp, hT]; exact Nat.le_refl _)
    (g := { method := m, pc := pc + 4, locals := ls, stack := .ref T.heap.size :: .ref T.heap.size :: rest, locked := none }) rfl hsize rfl rfl (rest := rest) rfl
    (by rw [hb]; exact d4) (by rw [hb]; exact d7) hout hRframes (by simp only [List.map_cons, List.sum_cons, hcat]; omega) hlocks
  obtain ⟨f1, f2⟩ := vx_frame hsame
  rw [hhp] at f1 f2
  have hWs : s.WarmedH U.vm := State.WarmedH.trans hW0 hW
  have hcl : s.vm.findClass cls = some ce.cls := by
    have h9 := hO.cls
    rw [hvm] at h9
    exact h9
  have hall : s.sameButNew ({ U with vm := s.vm } : State) locs mc ms := by
    subst hA
    obtain ⟨e1, e2⟩ := hsame
    rw [State.setFrames_setFrames] at e1
    have h2 : (T.setVm s.vm).sameButNew ({ U with vm := s.vm } : State) [] (0 + 1) (0 + 6) := ⟨e1, e2⟩
    have h3 := X.same.trans h2
    rw [List.append_nil] at h3
    exact h3.mono hc hs
  refine ⟨U, ?_, .threw T.heap.size, hrun, hend, Or.inr ⟨T.heap.size, rfl, cls, ce, locs, hx U hWs.alike f1 (fun q hq => f2 q hq (fun z hz => nomatch hz)), hce, hO.vm, hcl, hWs, hall, hf⟩⟩
  refine st1 _ ?_
  show Steps p.tables e below (T1.setTop { method := m, pc := pc + 3, locals := ls, stack := .ref T.heap.size :: rest, locked := none }) _
  jvm_step X₁.here [X₁.here.top, hexec, d3', Value.category]
  exact hsteps
/-- 'throw new E("text")': new; dup; ldc; invokespecial; athrow -/
theorem vx_throwS {cc : ByteArray} {pc : Nat} (hexec : p.tables.exec = Jvm.exec) (hb : c.code = cc) (hl : l.stackTraces = false) {own cls text : String} {names : List String} {ik is ic mc ms sa : Nat} {A : Nat → Prop}
    (hown : s.vm.findClass own = some m.cls) (hcls : Bundle.fit cls = true) (hnames : ∀ n ∈ names, Bundle.fit n = true)
    (hk : (Cond.classLink own ik cls).before args s = true) (hini : (Cond.initialized cls).before args s = true) (hstr : vk_R own is text sa s) (hat : ∀ w ∈ vx_atS own ic cls names, w.before args s = true)
    (hgood : ∀ w ∈ Cond.classLink own ik cls :: Cond.initialized cls :: vx_atS own ic cls names, vx_ot w = true)
    (hU : vx_Zq Bundle.tN "UNASSIGNED_STACK" Bundle.steD A s s.heap) (hN : vx_Zq Bundle.tN "SUPPRESSED_SENTINEL" Bundle.listD A s s.heap) (hS : va_S A s.heap H locs) (hsize : ls.size = c.maxLocals)
    (d0 : decode cc pc = .ok (.new ik, 3)) (d3 : decode cc (pc + 3) = .ok (.dup, 1)) (d4 : decode cc (pc + 4) = .ok (.ldc is, 2)) (d6 : decode cc (pc + 6) = .ok (.invokespecial ic, 3)) (d9 : decode cc (pc + 9) = .ok (.athrow, 1))
    (hout : ∀ x ∈ c.exceptionTable.toList, covers x (pc + 9) = false)
    (hRframes : names.length + 3 < R.frames) (hRlocals : (rest.map fun v => v.category).sum + (13 * (names.length + 1) + 43) ≤ R.locals) (hRcells : cells + 1 ≤ R.cells) (hRslots : slots + 6 ≤ R.slots) (hlocks : meth.locks = false)
    (hx : ∀ t : State, s.vm.Alike t.vm → H.size ≤ t.heap.size → (∀ q : Nat, q < H.size → t.heap[q]? = H[q]?) → XC cls s t)
    (hf : ∀ z ∈ locs, free z.base) (hc : cells + 1 ≤ mc) (hs : slots + 6 ≤ ms) :
    W p l e R s m args below meth c H locs cells slots (vx_MQ below Qc XC args s mc ms free) (F0 m pc ls rest) := by
  intro T hT X
  have htr : e.platform.stackTraces = false := (show e.platform.stackTraces = l.stackTraces by rw [X.admits.platform]).trans hl
  have Y := vx_rebase X (R' := { frames := R.frames, locals := R.locals, cells := 1, slots := 6 }) (Nat.le_refl _) (Nat.le_refl _) hRcells hRslots
  obtain ⟨s', hA⟩ : ∃ z, z = (T.setVm s.vm).setFrames (.invoking m args :: below) := ⟨_, rfl⟩
  rw [← hA] at Y
  have hvm : s'.vm = s.vm := by rw [hA]; rfl
  have hhp : s'.heap = H := by rw [hA]; exact hT
  have hW0 : s.WarmedH s'.vm := by rw [hvm]; exact State.WarmedH.refl s
  have hat' : ∀ w ∈ vx_atS own ic cls names, w.before args s' = true := fun w hw => vx_ot_at hW0 hvm.symm (hgood w (List.mem_cons_of_mem _ (List.mem_cons_of_mem _ hw))) (hat w hw)
  have hk' : (Cond.classLink own ik cls).before args s' = true := vx_ot_at hW0 hvm.symm (hgood _ List.mem_cons_self) hk
  have hini' : (Cond.initialized cls).before args s' = true := vx_ot_at hW0 hvm.symm (hgood _ (List.mem_cons_of_mem _ List.mem_cons_self)) hini
  have hU' : vx_Zq Bundle.tN "UNASSIGNED_STACK" Bundle.steD A s' s'.heap := by rw [hhp]; exact vx_Zq.moved hW0.alike (hU.kept hS.2.1)
  have hN' : vx_Zq Bundle.tN "SUPPRESSED_SENTINEL" Bundle.listD A s' s'.heap := by rw [hhp]; exact vx_Zq.moved hW0.alike (hN.kept hS.2.1)
  have h : ∀ w ∈ Bundle.ownAtoms own ic cls names, w.before args s' = true := vx_own hat' (vx_isRefq hU'.1) (vx_isRefq hN'.1) hU'.2.word hN'.2.word
  have hown' : s'.vm.findClass own = some m.cls := by rw [hvm]; exact hown
  have hins : (Cond.instantiable cls 6).before args s' = true := h _ (by simp [Bundle.ownAtoms])
  obtain ⟨vm₁, cX, kX, hfX, hkX, -, -, X₁, st1⟩ := Y.newCold hexec (own := own) (C := cls) (index := ik) (n := 6) hown' hk' hins hini'
    (g := F0 m pc ls rest) rfl (by rw [hb]; exact d0) (Nat.le_refl _) (Nat.le_refl _)
  generalize hT1 : (T.setVm vm₁).pushCell { cls := cX, slots := kX.instanceTypes.map defaultValue, vm := .none } = T1 at X₁ st1
  have hcat : (Value.ref T.heap.size).category = 1 := rfl
  have hcellA : T1.heap[T.heap.size]? = some (freshCell cX kX) := by rw [← hT1]; exact State.heap_pushCell_size _ _
  have d3' : decode c.code (pc + 3) = .ok (.dup, 1) := by rw [hb]; exact d3
  have d4' : decode c.code (pc + 4) = .ok (.ldc is, 2) := by rw [hb]; exact d4
  have hstr' : vk_R own is text sa s' := vk_R.warm hW0 hstr
  obtain ⟨U, hsteps, hrun, hend, hW, hsame, ce, hce, hO⟩ := X₁.ctorThrowS hexec htr (own := own) (cls := cls) (names := names) (ic := ic) hown' hcls hnames h (fun x hx => nomatch hx) hfX hkX hcellA (by rw [hhp, hT]; exact Nat.le_refl _) (msg := .ref sa) rfl
    (g := { method := m, pc := pc + 6, locals := ls, stack := .ref sa :: .ref T.heap.size :: .ref T.heap.size :: rest, locked := none }) rfl hsize rfl rfl (rest := rest) rfl
    (by rw [hb]; exact d6) (by rw [hb]; exact d9) hout hRframes (by simp only [List.map_cons, List.sum_cons, hcat]; omega) hlocks
  obtain ⟨f1, f2⟩ := vx_frame hsame
  rw [hhp] at f1 f2
  have hWs : s.WarmedH U.vm := State.WarmedH.trans hW0 hW
  have hcl : s.vm.findClass cls = some ce.cls := by
    have h9 := hO.cls
    rw [hvm] at h9
    exact h9
  have hall : s.sameButNew ({ U with vm := s.vm } : State) locs mc ms := by
    subst hA
    obtain ⟨e1, e2⟩ := hsame
    rw [State.setFrames_setFrames] at e1
    have h2 : (T.setVm s.vm).sameButNew ({ U with vm := s.vm } : State) [] (0 + 1) (0 + 6) := ⟨e1, e2⟩
    have h3 := X.same.trans h2
    rw [List.append_nil] at h3
    exact h3.mono hc hs
  refine ⟨U, ?_, .threw T.heap.size, hrun, hend, Or.inr ⟨T.heap.size, rfl, cls, ce, locs, hx U hWs.alike f1 (fun q hq => f2 q hq (fun z hz => nomatch hz)), hce, hO.vm, hcl, hWs, hall, hf⟩⟩
  refine st1 _ ?_
  show Steps p.tables e below (T1.setTop { method := m, pc := pc + 3, locals := ls, stack := .ref T.heap.size :: rest, locked := none }) _
  jvm_step X₁.here [X₁.here.top, hexec, d3', Value.category]
  exact X₁.ldcString hexec (own := own) (text := text) (index := is) (a := sa) hown' hstr'.1 hstr'.2
    (g := { method := m, pc := pc + 4, locals := ls, stack := .ref T.heap.size :: .ref T.heap.size :: rest, locked := none }) rfl d4' _ hsteps
/-- 'throw new E("text")', the text by a wide index -/
theorem vx_throwSW {cc : ByteArray} {pc : Nat} (hexec : p.tables.exec = Jvm.exec) (hb : c.code = cc) (hl : l.stackTraces = false) {own cls text : String} {names : List String} {ik is ic mc ms sa : Nat} {A : Nat → Prop}
    (hown : s.vm.findClass own = some m.cls) (hcls : Bundle.fit cls = true) (hnames : ∀ n ∈ names, Bundle.fit n = true)
    (hk : (Cond.classLink own ik cls).before args s = true) (hini : (Cond.initialized cls).before args s = true) (hstr : vk_R own is text sa s) (hat : ∀ w ∈ vx_atS own ic cls names, w.before args s = true)
    (hgood : ∀ w ∈ Cond.classLink own ik cls :: Cond.initialized cls :: vx_atS own ic cls names, vx_ot w = true)
    (hU : vx_Zq Bundle.tN "UNASSIGNED_STACK" Bundle.steD A s s.heap) (hN : vx_Zq Bundle.tN "SUPPRESSED_SENTINEL" Bundle.listD A s s.heap) (hS : va_S A s.heap H locs) (hsize : ls.size = c.maxLocals)
    (d0 : decode cc pc = .ok (.new ik, 3)) (d3 : decode cc (pc + 3) = .ok (.dup, 1)) (d4 : decode cc (pc + 4) = .ok (.ldc_w is, 3)) (d7 : decode cc (pc + 7) = .ok (.invokespecial ic, 3)) (d10 : decode cc (pc + 10) = .ok (.athrow, 1))
    (hout : ∀ x ∈ c.exceptionTable.toList, covers x (pc + 10) = false)
    (hRframes : names.length + 3 < R.frames) (hRlocals : (rest.map fun v => v.category).sum + (13 * (names.length + 1) + 43) ≤ R.locals) (hRcells : cells + 1 ≤ R.cells) (hRslots : slots + 6 ≤ R.slots) (hlocks : meth.locks = false)
    (hx : ∀ t : State, s.vm.Alike t.vm → H.size ≤ t.heap.size → (∀ q : Nat, q < H.size → t.heap[q]? = H[q]?) → XC cls s t)
    (hf : ∀ z ∈ locs, free z.base) (hc : cells + 1 ≤ mc) (hs : slots + 6 ≤ ms) :
    W p l e R s m args below meth c H locs cells slots (vx_MQ below Qc XC args s mc ms free) (F0 m pc ls rest) := by
  intro T hT X
  have htr : e.platform.stackTraces = false := (show e.platform.stackTraces = l.stackTraces by rw [X.admits.platform]).trans hl
  have Y := vx_rebase X (R' := { frames := R.frames, locals := R.locals, cells := 1, slots := 6 }) (Nat.le_refl _) (Nat.le_refl _) hRcells hRslots
  obtain ⟨s', hA⟩ : ∃ z, z = (T.setVm s.vm).setFrames (.invoking m args :: below) := ⟨_, rfl⟩
  rw [← hA] at Y
  have hvm : s'.vm = s.vm := by rw [hA]; rfl
  have hhp : s'.heap = H := by rw [hA]; exact hT
  have hW0 : s.WarmedH s'.vm := by rw [hvm]; exact State.WarmedH.refl s
  have hat' : ∀ w ∈ vx_atS own ic cls names, w.before args s' = true := fun w hw => vx_ot_at hW0 hvm.symm (hgood w (List.mem_cons_of_mem _ (List.mem_cons_of_mem _ hw))) (hat w hw)
  have hk' : (Cond.classLink own ik cls).before args s' = true := vx_ot_at hW0 hvm.symm (hgood _ List.mem_cons_self) hk
  have hini' : (Cond.initialized cls).before args s' = true := vx_ot_at hW0 hvm.symm (hgood _ (List.mem_cons_of_mem _ List.mem_cons_self)) hini
  have hU' : vx_Zq Bundle.tN "UNASSIGNED_STACK" Bundle.steD A s' s'.heap := by rw [hhp]; exact vx_Zq.moved hW0.alike (hU.kept hS.2.1)
  have hN' : vx_Zq Bundle.tN "SUPPRESSED_SENTINEL" Bundle.listD A s' s'.heap := by rw [hhp]; exact vx_Zq.moved hW0.alike (hN.kept hS.2.1)
  have h : ∀ w ∈ Bundle.ownAtoms own ic cls names, w.before args s' = true := vx_own hat' (vx_isRefq hU'.1) (vx_isRefq hN'.1) hU'.2.word hN'.2.word
  have hown' : s'.vm.findClass own = some m.cls := by rw [hvm]; exact hown
  have hins : (Cond.instantiable cls 6).before args s' = true := h _ (by simp [Bundle.ownAtoms])
  obtain ⟨vm₁, cX, kX, hfX, hkX, -, -, X₁, st1⟩ := Y.newCold hexec (own := own) (C := cls) (index := ik) (n := 6) hown' hk' hins hini'
    (g := F0 m pc ls rest) rfl (by rw [hb]; exact d0) (Nat.le_refl _) (Nat.le_refl _)
  generalize hT1 : (T.setVm vm₁).pushCell { cls := cX, slots := kX.instanceTypes.map defaultValue, vm := .none } = T1 at X₁ st1
  have hcat : (Value.ref T.heap.size).category = 1 := rfl
  have hcellA : T1.heap[T.heap.size]? = some (freshCell cX kX) := by rw [← hT1]; exact State.heap_pushCell_size _ _
  have d3' : decode c.code (pc + 3) = .ok (.dup, 1) := by rw [hb]; exact d3
  have d4' : decode c.code (pc + 4) = .ok (.ldc_w is, 3) := by rw [hb]; exact d4
  have hstr' : vk_R own is text sa s' := vk_R.warm hW0 hstr
  obtain ⟨U, hsteps, hrun, hend, hW, hsame, ce, hce, hO⟩ := X₁.ctorThrowS hexec htr (own := own) (cls := cls) (names := names) (ic := ic) hown' hcls hnames h (fun x hx => nomatch hx) hfX hkX hcellA (by rw [hhp, hT]; exact Nat.le_refl _) (msg := .ref sa) rfl
    (g := { method := m, pc := pc + 7, locals := ls, stack := .ref sa :: .ref T.heap.size :: .ref T.heap.size :: rest, locked := none }) rfl hsize rfl rfl (rest := rest) rfl
    (by rw [hb]; exact d7) (by rw [hb]; exact d10) hout hRframes (by simp only [List.map_cons, List.sum_cons, hcat]; omega) hlocks
  obtain ⟨f1, f2⟩ := vx_frame hsame
  rw [hhp] at f1 f2
  have hWs : s.WarmedH U.vm := State.WarmedH.trans hW0 hW
  have hcl : s.vm.findClass cls = some ce.cls := by
    have h9 := hO.cls
    rw [hvm] at h9
    exact h9
  have hall : s.sameButNew ({ U with vm := s.vm } : State) locs mc ms := by
    subst hA
    obtain ⟨e1, e2⟩ := hsame
    rw [State.setFrames_setFrames] at e1
    have h2 : (T.setVm s.vm).sameButNew ({ U with vm := s.vm } : State) [] (0 + 1) (0 + 6) := ⟨e1, e2⟩
    have h3 := X.same.trans h2
    rw [List.append_nil] at h3
    exact h3.mono hc hs
  refine ⟨U, ?_, .threw T.heap.size, hrun, hend, Or.inr ⟨T.heap.size, rfl, cls, ce, locs, hx U hWs.alike f1 (fun q hq => f2 q hq (fun z hz => nomatch hz)), hce, hO.vm, hcl, hWs, hall, hf⟩⟩
  refine st1 _ ?_
  show Steps p.tables e below (T1.setTop { method := m, pc := pc + 3, locals := ls, stack := .ref T.heap.size :: rest, locked := none }) _
  jvm_step X₁.here [X₁.here.top, hexec, d3', Value.category]
  exact X₁.ldcStringW hexec (own := own) (text := text) (index := is) (a := sa) hown' hstr'.1 hstr'.2
    (g := { method := m, pc := pc + 4, locals := ls, stack := .ref T.heap.size :: .ref T.heap.size :: rest, locked := none }) rfl d4' _ hsteps
end Ends
section Bodies
variable {l : Launch}
theorem vx_ofW {y : MethodName} {ws ws' : List Cond} {rm : Room} {Pc : Array Value → State → Prop} {Qc : Array Value → State → Outcome → State → Prop} {XC : String → State → State → Prop} {mc ms : Nat} {free : Addr → Prop} {cc : ByteArray} {maxL : Nat} {ret : Option FieldType}
    (hy : plainName y.cls = true) (hw : ws = Cond.code y cc maxL ret :: ws')
    (body : ∀ p e s m args below meth c s₁, BodyLoose p l y (headSpec ws rm) cc maxL ret e s m args below meth c s₁ → c.maxLocals = maxL → (∀ x ∈ c.exceptionTable.toList, False) → Pc args s →
      W p l e (headSpec ws rm).room s m args below meth c s.heap [] 0 0 (vx_MQ below Qc XC args s mc ms free) (entryFrame m args maxL)) : vx_Met l y ws rm Pc Qc XC mc ms free := by
  refine MetFree.of_bodyS (code := cc) (maxLocals := maxL) (ret := ret) hy ?_ ?_
  · intro args s m h hn
    obtain ⟨meth, c, h1, h2, h3, h4, h5, h6, -, -⟩ := Cond.code_spec hn (atoms_spec (ws := ws) h _ (by rw [hw]; exact List.mem_cons_self))
    exact ⟨meth, c, h1, h2, h3, h4, h5, h6⟩
  · intro p e s m args below meth c s₁ B hml hP _
    have hh0 : s₁.heap = s.heap := by rw [B.state]; rfl
    have ht : ∀ x ∈ c.exceptionTable.toList, False := by
      obtain ⟨meth9, c9, h1, h2, -, -, -, -, h7, -⟩ := Cond.code_spec B.named (atoms_spec (ws := ws) B.pre _ (by rw [hw]; exact List.mem_cons_self))
      cases Option.some.inj (h1.symm.trans B.method)
      cases Option.some.inj (h2.symm.trans (Stand.of_body B).code)
      intro x hx
      rw [Array.isEmpty_iff.mp h7] at hx
      cases hx
    obtain ⟨t, a1, o, b1, b2, b3⟩ := body p e s m args below meth c s₁ B hml ht hP s₁ hh0 (Stand.of_body B)
    exact ⟨t, o, a1, b1, b2, b3⟩
/-- the table of a body with handlers -/
theorem vx_table {p : Program} {x y : MethodName} {S : Spec} {cc bytes : ByteArray} {maxL maxL' : Nat} {ret ret' : Option FieldType} {e : Env} {s s₁ : State} {m : MethodId} {args : Array Value} {below : List Frame} {meth : Method} {c : Code} {hh : List (Nat × Nat × Nat × Nat)}
    (B : BodyLoose p l y S cc maxL ret e s m args below meth c s₁) (h : (Cond.codeWith y bytes maxL' ret' hh).before args s = true) : c.exceptionTable.toList = tableOf hh := by
  obtain ⟨m9, meth9, c9, hn9, h1, h2, -, -, h6, -⟩ := Cond.codeWith_spec h
  cases Option.some.inj (hn9.symm.trans B.named)
  cases Option.some.inj (h1.symm.trans B.method)
  cases Option.some.inj (h2.symm.trans (Stand.of_body B).code)
  rw [← h6, table_eq]
end Bodies
end VXA
/-! ===== END ===== -/
/-! ===== BEGIN a static call of a method with an exception table ===== -/
section VXS
variable {p : Program} {l : Launch} {e : Env} {R : Room} {s : State} {m : MethodId} {args : Array Value} {below : List Frame} {meth : Method} {c : Code} {T : State} {H : Heap} {locs : List Loc} {cells slots : Nat}
abbrev vx_CSW (R : Room) (s : State) (args : Array Value) (own : String) (index : Nat) (y : MethodName) (bytes : ByteArray) (maxL : Nat) (ret : Option FieldType) (hh : List (Nat × Nat × Nat × Nat)) (ws : List Cond) (rm : Room) (mc ms n : Nat) : Prop :=
  (rm.cells = mc ∧ rm.slots = ms ∧ rm.frames + 1 ≤ R.frames ∧ 8 + (maxL + 11) + rm.locals ≤ R.locals ∧ (∀ w ∈ ws, ∀ (a' : Array Value) (U : State), s.WarmedH U.vm → w.before a' U = true) ∧ Cond.codeWith y bytes maxL ret hh ∈ ws) ∧
  (Cond.codeWith y bytes maxL ret hh).before args s = true ∧ (Cond.initialized y.cls).before args s = true ∧ (y.cls ≠ "java/lang/invoke/MethodHandle" ∧ y.cls ≠ "java/lang/invoke/VarHandle") ∧
  (∀ sig, parseMethodDescriptor y.desc = some sig → n = sig.parameters.length) ∧ (Cond.methodLink own index y).before args s = true ∧ (Cond.static y).before args s = true
theorem vx_cwSW {own : String} {index maxL mc ms : Nat} {y : MethodName} {bytes : ByteArray} {ret : Option FieldType} {hh : List (Nat × Nat × Nat × Nat)} {Ts ws ws' : List Cond} {rm : Room} (n : Nat) (ht : ∀ w ∈ Ts, w.before args s = true) (hT : GoodIn Ts (va_wsS own index y ws)) (hw : ws = Cond.codeWith y bytes maxL ret hh :: ws') (hrc : rm.cells = mc) (hrs : rm.slots = ms)
    (hd : y.cls ≠ "java/lang/invoke/MethodHandle" ∧ y.cls ≠ "java/lang/invoke/VarHandle" ∧ (parseMethodDescriptor y.desc).map (fun d => d.parameters.length) = some n) (hR : rm.frames + 1 ≤ R.frames ∧ 8 + (maxL + 11) + rm.locals ≤ R.locals) :
    vx_CSW R s args own index y bytes maxL ret hh ws rm mc ms n := by
  have ok : ∀ w ∈ va_wsS own index y ws, w.before args s = true := fun w h => ht w (hT w h).1
  have hG : GoodIn Ts ws := fun w h => hT w (by unfold va_wsS; exact List.mem_append_right _ h)
  have hc : Cond.codeWith y bytes maxL ret hh ∈ ws := by rw [hw]; exact List.mem_cons_self
  refine ⟨⟨hrc, hrs, hR.1, hR.2, pay_in ht hG, hc⟩, ht _ (hG _ hc).1, ok _ (by simp [va_wsS]), ⟨hd.1, hd.2.1⟩, fun sig h => ?_, ok _ (by simp [va_wsS]), ok _ (by simp [va_wsS])⟩
  have h2 := hd.2.2
  rw [h] at h2
  exact (Option.some.inj h2).symm
theorem vx_callSW (X : Stand p l e R s m args below meth c T locs cells slots) (hexec : p.tables.exec = Jvm.exec) {own : String} {index : Nat} {y : MethodName} {bytes : ByteArray} {maxL : Nat} {ret : Option FieldType} {hh : List (Nat × Nat × Nat × Nat)}
    (hown : s.vm.findClass own = some m.cls) (hlink : (Cond.methodLink own index y).before args s = true) (hstat : (Cond.static y).before args s = true) (hinit : (Cond.initialized y.cls).before args s = true)
    (hcode : (Cond.codeWith y bytes maxL ret hh).before args s = true) (hy : y.cls ≠ "java/lang/invoke/MethodHandle" ∧ y.cls ≠ "java/lang/invoke/VarHandle")
    {W9 : Nat} {Pre : Pt → Array Value → Prop} {Post : Pt → Array Value → Option Value → Pt → Prop} (hK : Back l R p e below s args y 3 W9 Pre Post)
    {g : JFrame} (hg : g.method = m) (hsize : g.locals.size = c.maxLocals) {argsL rest : List Value} (hlen : ∀ sig, parseMethodDescriptor y.desc = some sig → argsL.length = sig.parameters.length)
    (hstack : g.stack = argsL.reverse ++ rest) (hW : 2 * g.monitorRoom + (rest.map fun v => v.category).sum ≤ W9) (hdg : decode c.code g.pc = .ok (.invokestatic index, 3))
    (hpre : ∀ vm₁, s.WarmedH vm₁ → Pre ⟨T.setVm vm₁, locs, cells, slots⟩ argsL.toArray) :
    ∃ (v : Option Value) (vm₁ : Vm) (B : Pt), s.WarmedH vm₁ ∧ Stand p l e R s m args below meth c B.U B.locs B.cells B.slots ∧ Post ⟨T.setVm vm₁, locs, cells, slots⟩ argsL.toArray v B ∧
      ∀ target, Steps p.tables e below (B.U.setTop { g with pc := g.pc + 3, stack := v.toList ++ rest }) target → Steps p.tables e below (T.setTop g) target := by
  obtain ⟨mk, methM, cM, hnamed, hmethM, -, -, -, -, -, -, hsigM⟩ := Cond.codeWith_spec hcode
  have hstatic : methM.isStatic = true := Cond.static_spec hnamed hmethM hstat
  obtain ⟨kP, hkP, -⟩ := className_of_methodNamed hnamed
  have hinitP : kP.init = .initialized := Cond.initialized_spec (findClass_of_methodNamed hnamed) hkP hinit
  obtain ⟨vm₁, X₁, hstep₁⟩ := X.invokestatic hexec hown hlink hnamed hmethM hstatic hkP hinitP hy (g := g) hg (argsL := argsL) (rest := rest) (hlen _ hsigM) hstack hdg
  obtain ⟨v, B, X', hpost, hsteps⟩ := hK m meth c ⟨T.setVm vm₁, locs, cells, slots⟩ { g with stack := rest } (.invokestatic index) mk argsL.toArray X₁ hg hsize hdg hW (X₁.named hnamed) (hpre vm₁ X₁.warmed)
  exact ⟨v, vm₁, B, X₁.warmed, X', hpost, fun target h => hstep₁ _ fun acts => by rw [doInvoke_state]; exact hsteps.trans h⟩
theorem vx_runSW {y : MethodName} {bytes cc : ByteArray} {maxL nL mc ms n index : Nat} {ret : Option FieldType} {hh : List (Nat × Nat × Nat × Nat)} {ws : List Cond} {rm : Room} {Pc : Array Value → State → Prop} {Qc : Array Value → State → Outcome → State → Prop} {free : Addr → Prop} {Ts : List Cond} {own : String} {As rest : List Value} {g : JFrame}
    (S : CallFix p m c cc nL s args Ts own) (hM : Met l y ws rm Pc Qc mc ms free) (cw : vx_CSW R s args own index y bytes maxL ret hh ws rm mc ms n) (hp : PreS s H Pc As)
    (hg : g.method = m) (hn : As.length = n) (hsize : g.locals.size = nL) (hstack : g.stack = As.reverse ++ rest) (hW : 2 * g.monitorRoom + (rest.map fun v => v.category).sum ≤ 8) (hdg : decode cc g.pc = .ok (.invokestatic index, 3)) (hf : cells + mc ≤ R.cells ∧ slots + ms ≤ R.slots) :
    va_Run p l e R s m args below meth c H locs cells slots mc ms g rest (Qc As.toArray) (free) := by
  obtain ⟨⟨hrc, hrs, hfr, hlo, hws, hcw⟩, hcode, hini, hy, hlen, hl, hstt⟩ := cw
  have hK : Back l R p e below s args y 3 8 (PreOf R mc ms Pc) (PostOf Qc mc ms free) := va_backW (hh := hh) (bytes := bytes) (maxL := maxL) (ret := ret) hM hp.1 hrc hrs hfr hlo hws hcw (fun a' U hW => word_at hW (Or.inl (by first | rfl | simp [Cond.onTables, Cond.keeps, Cond.steady])) hini)
  obtain ⟨hx, hb, hml, ho, -⟩ := S
  intro T hT X
  obtain ⟨v, vm₁, ⟨U', l2, c2, s2⟩, hW₁, X', ⟨g', mk, t, L, e1, e2, hq, h1, hL, h2, h3⟩, st⟩ := vx_callSW X hx (hh := hh) (bytes := bytes) (maxL := maxL) (ret := ret) ho hl hstt hini hcode hy hK hg (hsize.trans hml.symm) (argsL := As) (rest := rest) (fun sig h => hn.trans (hlen sig h)) hstack hW (by rw [hb]; exact hdg)
    (fun vm₁ hW₁ => ⟨hf.1, hf.2, hp.2 (T.setVm vm₁) hT hW₁⟩)
  dsimp only [Pt.U, Pt.locs, Pt.cells, Pt.slots] at X' e1 e2 h1 h2 h3 st
  subst h1; subst h2; subst h3
  exact ⟨v, (T.setVm vm₁).calling g' mk As.toArray, t, U', L, hT, X', hL, e1, e2, hq, st⟩
/-- not caught here, past rows that name other classes: it goes on to the caller -/
theorem vx_outP {p : Program} {l : Launch} {e : Env} {R : Room} {s : State} {m : MethodId} {args : Array Value} {below : List Frame} {meth : Method} {c : Code} {H : Heap} {locs : List Loc} {cells slots : Nat} {free : Addr → Prop} {ls : Array Slot} {rest : List Value} {Qc : Array Value → State → Outcome → State → Prop} {XC : String → State → State → Prop}
    {pc : Nat} {own E : String} {ce : Cell} {q : Addr} {mc ms : Nat} (hown : s.vm.findClass own = some m.cls) (hlocks : meth.locks = false)
    (hpass : ∀ z ∈ c.exceptionTable.toList, covers z pc = false ∨ (z.catchType ≠ 0 ∧ ∃ nm : String, (Cond.classLink own z.catchType nm).before args s = true ∧ va_Nc E nm s)) (hcell : H[q]? = some ce) (hv : ce.vm = .none) (hcl : s.vm.findClass E = some ce.cls)
    (hx : ∀ t : State, t.heap = H → s.vm.Alike t.vm → XC E s t) (hf : ∀ z ∈ locs, free z.base) (hc : cells ≤ mc) (hs : slots ≤ ms) :
    vx_W p l e R s m args below meth c H locs cells slots (vx_MQ below Qc XC args s mc ms free) (F0 m pc ls rest) q := by
  intro T hT X
  have hpl : e.platform.magicAccessors = ({} : Platform).magicAccessors := by rw [X.admits.platform]
  obtain ⟨vm', hW', X', st⟩ := X.outThrough hlocks q (g := F0 m pc ls rest) rfl rfl rfl (cell := ce) (by rw [hT]; exact hcell) (by rw [hv]; rfl)
    (by obtain ⟨k9, h9, -⟩ := Vm.findClass_spec hcl; exact ⟨k9, h9⟩) (fun z hz => by
      rcases hpass z hz with h | ⟨hz0, nm, hl1, hn1⟩
      · exact Or.inl h
      · obtain ⟨c6, hc6, hcl6⟩ := Cond.classLink_spec hown hl1 e.platform hpl
        obtain ⟨a8, b8, h1, h2, h3⟩ := hn1
        cases Option.some.inj (h1.symm.trans hcl)
        cases Option.some.inj (h2.symm.trans hc6)
        exact Or.inr ⟨hz0, _, hcl6, h3⟩)
  obtain ⟨g₀, hfr⟩ := X'.frames_eq
  have hcell9 : ((T.setVm vm').setFrames (.throwing q :: below)).heap[q]? = some ce := by
    show T.heap[q]? = some ce
    rw [hT]; exact hcell
  have hend : Ended ((T.setVm vm').setFrames (.throwing q :: below)) below (.threw q) := State.frames_setFrames _ (State.cur_lt_of_frames hfr)
  refine ⟨(T.setVm vm').setFrames (.throwing q :: below), ?_, .threw q, X'.here.running, hend, Or.inr ⟨q, rfl, E, ce, locs, hx _ hT (X'.ends _).1.alike, hcell9, hv, hcl, (X'.ends _).1, (X'.ends _).2.mono hc hs, hf⟩⟩
  rw [X.pushThrowing_eq]
  exact st
/-- a thing of a world lies in the heap -/
theorem vx_lt {D : va_G} {cl : List vw_C} {ws : va_W} {H1 : Heap} (h : va_P D cl ws H1) {k : Nat} {q : Nat × va_E} (hk : ws[k]? = some q) : q.1 < H1.size := (h k q hk).lt
end VXS
/-! ===== END ===== -/
/-! ===== BEGIN methods with a table of their own: called by a name, returning or throwing ===== -/
section VXH
/-! vx_backW, vx_callVX, vx_callSX, vx_callVW, vx_runVW, vx_runVX, vx_runSX, vx_ofWH follow the same proofs as their sisters above (Free/Laws.lean, Shelf42/LK1.lean); vx_outP calls Shelf42/NT130.lean (outThrough). -/
section
variable {l : Launch} {R : Room} {p : Program} {e : Env} {below : List Frame} {s : State} {sargs : Array Value} {y : MethodName} {len W9 : Nat}
theorem vx_backW {ws : List Cond} {rm : Room} {Pc : Array Value → State → Prop} {Qc : Array Value → State → Outcome → State → Prop} {XC : String → State → State → Prop} {mc ms : Nat} {free : Addr → Prop} {bytes : ByteArray} {maxL : Nat} {ret : Option FieldType} {hh : List (Nat × Nat × Nat × Nat)}
    (hM : vx_Met l y ws rm Pc Qc XC mc ms free) (hblind : FrameBlind Pc) (hrc : rm.cells = mc) (hrs : rm.slots = ms)
    (hframes : rm.frames + 1 ≤ R.frames) (hlocals : W9 + (maxL + 11) + rm.locals ≤ R.locals)
    (hws : ∀ w ∈ ws, ∀ a' U, s.WarmedH U.vm → w.before a' U = true) (hcode : Cond.codeWith y bytes maxL ret hh ∈ ws) (hinit : ∀ a' U, s.WarmedH U.vm → (Cond.initialized y.cls).before a' U = true) :
    vx_Back l R p e below s sargs y len W9 (PreOf R mc ms Pc) (PostOf Qc mc ms free) (vx_Post XC mc ms free) := by
  intro m meth c A g ig mk a X hg hsize hdg hW hn hp
  have h1 : (headSpec ws rm).pre.before a A.U = true := atoms_intro fun w hw => hws w hw _ _ X.warmed
  have h2 : (Cond.codeWith y bytes maxL ret hh).before a A.U = true := hws _ hcode _ _ X.warmed
  have h3 : (Cond.initialized y.cls).before a A.U = true := hinit _ _ X.warmed
  have h4 : A.cells + (headSpec ws rm).room.cells ≤ R.cells := by rw [show (headSpec ws rm).room.cells = mc from hrc]; exact hp.1
  have h5 : A.slots + (headSpec ws rm).room.slots ≤ R.slots := by rw [show (headSpec ws rm).room.slots = ms from hrs]; exact hp.2.1
  have hPc : Pc a (A.U.calling g mk a) := hblind _ _ _ _ hp.2.2
  obtain ⟨U, Ls, c0, s0⟩ := A
  dsimp only [Pt.U, Pt.locs, Pt.cells, Pt.slots] at h1 h2 h3 h4 h5 X hn hPc ⊢
  obtain ⟨m9, methY, cY, hn9, hmY, hcY, -, hlY, -⟩ := Cond.codeWith_spec h2
  cases Option.some.inj (hn9.symm.trans hn)
  obtain ⟨kY, hkY, -⟩ := className_of_methodNamed hn
  have hinitY : kY.init = .initialized := Cond.initialized_spec (findClass_of_methodNamed hn) hkY h3
  have h : At U g.method c below := by rw [hg]; exact X.here
  have hlocals9 : W9 + (maxL + 11) + (headSpec ws rm).room.locals ≤ R.locals := hlocals
  have happ : (headSpec ws rm).appliesLoose y e.platform (U.calling g mk a) = true :=
    Spec.appliesLoose_calling (g := g) h hdg hn hkY hinitY
      (X.room_calling (g := g) (R' := (headSpec ws rm).room) hsize hmY hcY hframes (by rw [hlY]; omega) h4 h5) h1
  obtain ⟨mid, hmid⟩ := h.above
  have hfr : (U.setTop g).frames = (.java g :: mid) ++ below := by rw [State.frames_setTop' g h.top, hmid]; rfl
  obtain ⟨o, s₂, hsteps, -, hend, hq⟩ := Steps.callFree hM p X.admits X.cas X.clock (acts := []) hfr happ hPc trivial
  have hq' : vx_Q Qc XC mc ms free a (U.calling g mk a) o s₂ := hq
  rw [State.frames_setTop' g h.top] at hend
  obtain ⟨g₀, hg0⟩ := Option.isSome_iff_exists.mp h.top
  obtain ⟨r, hr⟩ := State.topJava?_eq_some.mp hg0
  have hr' : (({ U with heap := s₂.heap, slotsUsed := s₂.slotsUsed } : State).setVm s₂.vm).frames = .java g₀ :: r := hr
  rcases hq' with ⟨hqc, L, hfe, hL⟩ | ⟨q, rfl, E, ce, L, hx, hce, hcv, hcl, hW₂, hsm, hL⟩
  · obtain ⟨⟨v, rfl⟩, hW₂, e2, q2, q3, q4, q5, q6⟩ := id hfe
    have e3 : s₂ = ({ (U.calling g mk a).setFrames s₂.frames with heap := s₂.heap, slotsUsed := s₂.slotsUsed } : State).setVm s₂.vm := by
      have : s₂ = ({ s₂ with vm := (U.calling g mk a).vm } : State).setVm s₂.vm := rfl
      rw [e2] at this
      exact this
    obtain ⟨c₂, i₂, len₂, hc₂, hd₂, hf₂⟩ := hend
    have hW' : U.WarmedH s₂.vm := hW₂
    have hcc : c₂ = c := by
      have h1 : s₂.code? g.method = U.code? g.method := by
        rw [State.code?_eq, State.code?_eq, hW'.alike.method?]
      exact Option.some.inj (hc₂.symm.trans (h1.trans h.code))
    subst hcc
    have hlen : len₂ = len := by rw [hdg] at hd₂; cases hd₂; rfl
    subst hlen
    have hs₂ : s₂ = (({ U with heap := s₂.heap, slotsUsed := s₂.slotsUsed } : State).setVm s₂.vm).setTop { g with pc := g.pc + len₂, stack := v.toList ++ g.stack } := by
      refine e3.trans ?_
      rw [hf₂, State.calling_eq h.top, State.setFrames_setFrames, State.setTop_of_frames _ hr', hr]
      rfl
    have hsame : U.sameButNew ({ U with heap := s₂.heap, slotsUsed := s₂.slotsUsed } : State) L mc ms := by
      refine ⟨?_, q2, q3, q4, q5, q6⟩
      obtain ⟨t, ht, -⟩ := State.frames_cons hr
      show ({ U with heap := s₂.heap, slotsUsed := s₂.slotsUsed } : State) = { U.setFrames U.frames with heap := s₂.heap, slotsUsed := s₂.slotsUsed }
      rw [State.setFrames_self ht]
    subst hg
    refine Or.inl ⟨v, ⟨(({ U with heap := s₂.heap, slotsUsed := s₂.slotsUsed } : State).setVm s₂.vm), Ls ++ L, c0 + mc, s0 + ms⟩,
      ⟨X.admits, X.cas, X.clock, X.frames, X.room, X.hears, X.method, X.code, (X.here.setHeapUsed s₂.heap s₂.slotsUsed).setVm hW'.alike, X.tail, State.WarmedH.trans X.warmed hW', X.limits, X.bytes, X.same.trans (hsame.setVm s.vm)⟩,
      ⟨g, mk, s₂, L, rfl, rfl, hqc, rfl, hL, rfl, rfl⟩, ?_⟩
    show Steps p.tables e below _ ((({ U with heap := s₂.heap, slotsUsed := s₂.slotsUsed } : State).setVm s₂.vm).setTop { g with pc := g.pc + len₂, stack := v.toList ++ g.stack })
    rw [← hs₂]
    exact hsteps
  · obtain ⟨e2, q2, q3, q4, q5, q6⟩ := id hsm
    have e3 : s₂ = ({ (U.calling g mk a).setFrames s₂.frames with heap := s₂.heap, slotsUsed := s₂.slotsUsed } : State).setVm s₂.vm := by
      have : s₂ = ({ s₂ with vm := (U.calling g mk a).vm } : State).setVm s₂.vm := rfl
      rw [e2] at this
      exact this
    have hf₂ : s₂.frames = .throwing q :: .java g :: U.frames.tail := hend
    have hW' : U.WarmedH s₂.vm := hW₂
    have hs₂ : s₂ = ((({ U with heap := s₂.heap, slotsUsed := s₂.slotsUsed } : State).setVm s₂.vm).setTop g).pushFrame (.throwing q) := by
      refine e3.trans ?_
      rw [hf₂, State.calling_eq h.top, State.setFrames_setFrames, State.pushFrame, State.frames_setTop _ hr', State.setTop_of_frames _ hr', State.setFrames_setFrames, hr]
      rfl
    have hsame : U.sameButNew ({ U with heap := s₂.heap, slotsUsed := s₂.slotsUsed } : State) L mc ms := by
      refine ⟨?_, q2, q3, q4, q5, q6⟩
      obtain ⟨t, ht, -⟩ := State.frames_cons hr
      show ({ U with heap := s₂.heap, slotsUsed := s₂.slotsUsed } : State) = { U.setFrames U.frames with heap := s₂.heap, slotsUsed := s₂.slotsUsed }
      rw [State.setFrames_self ht]
    subst hg
    refine Or.inr ⟨q, ⟨(({ U with heap := s₂.heap, slotsUsed := s₂.slotsUsed } : State).setVm s₂.vm), Ls ++ L, c0 + mc, s0 + ms⟩,
      ⟨X.admits, X.cas, X.clock, X.frames, X.room, X.hears, X.method, X.code, (X.here.setHeapUsed s₂.heap s₂.slotsUsed).setVm hW'.alike, X.tail, State.WarmedH.trans X.warmed hW', X.limits, X.bytes, X.same.trans (hsame.setVm s.vm)⟩,
      ⟨g, mk, s₂, L, E, ce, rfl, rfl, hx, hce, hcv, hcl, rfl, hL, rfl, rfl⟩, ?_⟩
    show Steps p.tables e below _ (((({ U with heap := s₂.heap, slotsUsed := s₂.slotsUsed } : State).setVm s₂.vm).setTop g).pushFrame (.throwing q))
    rw [← hs₂]
    exact hsteps
end
variable {p : Program} {l : Launch} {e : Env} {R : Room} {s : State} {m : MethodId} {args : Array Value} {below : List Frame} {meth : Method} {c : Code} {T : State} {H : Heap} {locs : List Loc} {cells slots : Nat}
theorem vx_callVX (X : Stand p l e R s m args below meth c T locs cells slots) (hexec : p.tables.exec = Jvm.exec) {own C : String} {index : Nat} {y : MethodName} {bytes : ByteArray} {maxL : Nat} {ret : Option FieldType} {hh : List (Nat × Nat × Nat × Nat)}
    (hown : s.vm.findClass own = some m.cls) (hlink : (Cond.methodLink own index y).before args s = true) (hinst : (Cond.instanceMethod y).before args s = true) (hsel : (Cond.selects C y y).before args s = true)
    (hcode : (Cond.codeWith y bytes maxL ret hh).before args s = true) (hy : y.cls ≠ "java/lang/invoke/MethodHandle" ∧ y.cls ≠ "java/lang/invoke/VarHandle")
    {W9 : Nat} {Pre : Pt → Array Value → Prop} {Post : Pt → Array Value → Option Value → Pt → Prop} {PostX : Pt → Array Value → Addr → Pt → Prop} (hK : vx_Back l R p e below s args y 3 W9 Pre Post PostX)
    {b : Addr} {cellB : Cell} (hcell : T.heap[b]? = some cellB) (hobj : cellB.vm.isStatics = false) (hcls : s.vm.findClass C = some cellB.cls)
    {g : JFrame} (hg : g.method = m) (hsize : g.locals.size = c.maxLocals) {argsL rest : List Value} (hlen : ∀ sig, parseMethodDescriptor y.desc = some sig → argsL.length = sig.parameters.length)
    (hstack : g.stack = argsL.reverse ++ .ref b :: rest) (hW : 2 * g.monitorRoom + (rest.map fun v => v.category).sum ≤ W9) (hdg : decode c.code g.pc = .ok (.invokevirtual index, 3))
    (hpre : ∀ vm₁, s.WarmedH vm₁ → Pre ⟨T.setVm vm₁, locs, cells, slots⟩ (Value.ref b :: argsL).toArray) :
    (∃ (v : Option Value) (vm₁ : Vm) (B : Pt), s.WarmedH vm₁ ∧ Stand p l e R s m args below meth c B.U B.locs B.cells B.slots ∧ Post ⟨T.setVm vm₁, locs, cells, slots⟩ (Value.ref b :: argsL).toArray v B ∧
      ∀ target, Steps p.tables e below (B.U.setTop { g with pc := g.pc + 3, stack := v.toList ++ rest }) target → Steps p.tables e below (T.setTop g) target) ∨
    (∃ (q : Addr) (vm₁ : Vm) (B : Pt), s.WarmedH vm₁ ∧ Stand p l e R s m args below meth c B.U B.locs B.cells B.slots ∧ PostX ⟨T.setVm vm₁, locs, cells, slots⟩ (Value.ref b :: argsL).toArray q B ∧
      Steps p.tables e below (T.setTop g) ((B.U.setTop { g with stack := rest }).pushFrame (.throwing q))) := by
  obtain ⟨mk, methM, hnamed, hmethM, hstM, habM⟩ := Cond.instanceMethod_spec hinst
  obtain ⟨m8, methM', cM, hn8, hmethM', -, -, -, -, -, -, hsigM⟩ := Cond.codeWith_spec hcode
  cases Option.some.inj (hn8.symm.trans hnamed)
  cases hmethM.symm.trans hmethM'
  obtain ⟨c2, r2, m2, q1, q2, q3, q4, kP, hkP, hkPi⟩ := Cond.selects_spec hsel
  cases hcls.symm.trans q1
  cases (State.methodFound?_of_named hnamed hy).symm.trans q2
  cases hnamed.symm.trans q3
  have hselP : selectMethod e.platform s.vm cellB.cls mk = .method mk := by rw [Launch.admits_selectMethod X.admits]; exact q4
  obtain ⟨vm₁, X₁, hstep₁⟩ := X.invokevirtual hexec hown hlink hnamed hmethM hstM hkP hkPi hy (a := b) (cell := cellB) hcell
    (fun z h => by rw [h] at hobj; cases hobj) hselP hmethM habM hkP hkPi (g := g) hg (argsL := argsL) (rest := rest) (hlen _ hsigM) hstack hdg
  rcases hK m meth c ⟨T.setVm vm₁, locs, cells, slots⟩ { g with stack := rest } (.invokevirtual index) mk (Value.ref b :: argsL).toArray X₁ hg hsize hdg hW (X₁.named hnamed) (hpre vm₁ X₁.warmed) with ⟨v, B, X', hpost, hsteps⟩ | ⟨q, B, X', hpost, hsteps⟩
  · exact Or.inl ⟨v, vm₁, B, X₁.warmed, X', hpost, fun target h => hstep₁ _ fun acts => by rw [doInvoke_state]; exact hsteps.trans h⟩
  · exact Or.inr ⟨q, vm₁, B, X₁.warmed, X', hpost, hstep₁ _ fun acts => by rw [doInvoke_state]; exact hsteps⟩
theorem vx_callSX (X : Stand p l e R s m args below meth c T locs cells slots) (hexec : p.tables.exec = Jvm.exec) {own : String} {index : Nat} {y : MethodName} {bytes : ByteArray} {maxL : Nat} {ret : Option FieldType} {hh : List (Nat × Nat × Nat × Nat)}
    (hown : s.vm.findClass own = some m.cls) (hlink : (Cond.methodLink own index y).before args s = true) (hstat : (Cond.static y).before args s = true) (hinit : (Cond.initialized y.cls).before args s = true)
    (hcode : (Cond.codeWith y bytes maxL ret hh).before args s = true) (hy : y.cls ≠ "java/lang/invoke/MethodHandle" ∧ y.cls ≠ "java/lang/invoke/VarHandle")
    {W9 : Nat} {Pre : Pt → Array Value → Prop} {Post : Pt → Array Value → Option Value → Pt → Prop} {PostX : Pt → Array Value → Addr → Pt → Prop} (hK : vx_Back l R p e below s args y 3 W9 Pre Post PostX)
    {g : JFrame} (hg : g.method = m) (hsize : g.locals.size = c.maxLocals) {argsL rest : List Value} (hlen : ∀ sig, parseMethodDescriptor y.desc = some sig → argsL.length = sig.parameters.length)
    (hstack : g.stack = argsL.reverse ++ rest) (hW : 2 * g.monitorRoom + (rest.map fun v => v.category).sum ≤ W9) (hdg : decode c.code g.pc = .ok (.invokestatic index, 3))
    (hpre : ∀ vm₁, s.WarmedH vm₁ → Pre ⟨T.setVm vm₁, locs, cells, slots⟩ argsL.toArray) :
    (∃ (v : Option Value) (vm₁ : Vm) (B : Pt), s.WarmedH vm₁ ∧ Stand p l e R s m args below meth c B.U B.locs B.cells B.slots ∧ Post ⟨T.setVm vm₁, locs, cells, slots⟩ argsL.toArray v B ∧
      ∀ target, Steps p.tables e below (B.U.setTop { g with pc := g.pc + 3, stack := v.toList ++ rest }) target → Steps p.tables e below (T.setTop g) target) ∨
    (∃ (q : Addr) (vm₁ : Vm) (B : Pt), s.WarmedH vm₁ ∧ Stand p l e R s m args below meth c B.U B.locs B.cells B.slots ∧ PostX ⟨T.setVm vm₁, locs, cells, slots⟩ argsL.toArray q B ∧
      Steps p.tables e below (T.setTop g) ((B.U.setTop { g with stack := rest }).pushFrame (.throwing q))) := by
  obtain ⟨mk, methM, cM, hnamed, hmethM, -, -, -, -, -, -, hsigM⟩ := Cond.codeWith_spec hcode
  have hstatic : methM.isStatic = true := Cond.static_spec hnamed hmethM hstat
  obtain ⟨kP, hkP, -⟩ := className_of_methodNamed hnamed
  have hinitP : kP.init = .initialized := Cond.initialized_spec (findClass_of_methodNamed hnamed) hkP hinit
  obtain ⟨vm₁, X₁, hstep₁⟩ := X.invokestatic hexec hown hlink hnamed hmethM hstatic hkP hinitP hy (g := g) hg (argsL := argsL) (rest := rest) (hlen _ hsigM) hstack hdg
  rcases hK m meth c ⟨T.setVm vm₁, locs, cells, slots⟩ { g with stack := rest } (.invokestatic index) mk argsL.toArray X₁ hg hsize hdg hW (X₁.named hnamed) (hpre vm₁ X₁.warmed) with ⟨v, B, X', hpost, hsteps⟩ | ⟨q, B, X', hpost, hsteps⟩
  · exact Or.inl ⟨v, vm₁, B, X₁.warmed, X', hpost, fun target h => hstep₁ _ fun acts => by rw [doInvoke_state]; exact hsteps.trans h⟩
  · exact Or.inr ⟨q, vm₁, B, X₁.warmed, X', hpost, hstep₁ _ fun acts => by rw [doInvoke_state]; exact hsteps⟩
theorem vx_callVW (X : Stand p l e R s m args below meth c T locs cells slots) (hexec : p.tables.exec = Jvm.exec) {own C : String} {index : Nat} {y : MethodName} {bytes : ByteArray} {maxL : Nat} {ret : Option FieldType} {hh : List (Nat × Nat × Nat × Nat)}
    (hown : s.vm.findClass own = some m.cls) (hlink : (Cond.methodLink own index y).before args s = true) (hinst : (Cond.instanceMethod y).before args s = true) (hsel : (Cond.selects C y y).before args s = true)
    (hcode : (Cond.codeWith y bytes maxL ret hh).before args s = true) (hy : y.cls ≠ "java/lang/invoke/MethodHandle" ∧ y.cls ≠ "java/lang/invoke/VarHandle")
    {W9 : Nat} {Pre : Pt → Array Value → Prop} {Post : Pt → Array Value → Option Value → Pt → Prop} (hK : Back l R p e below s args y 3 W9 Pre Post)
    {b : Addr} {cellB : Cell} (hcell : T.heap[b]? = some cellB) (hobj : cellB.vm.isStatics = false) (hcls : s.vm.findClass C = some cellB.cls)
    {g : JFrame} (hg : g.method = m) (hsize : g.locals.size = c.maxLocals) {argsL rest : List Value} (hlen : ∀ sig, parseMethodDescriptor y.desc = some sig → argsL.length = sig.parameters.length)
    (hstack : g.stack = argsL.reverse ++ .ref b :: rest) (hW : 2 * g.monitorRoom + (rest.map fun v => v.category).sum ≤ W9) (hdg : decode c.code g.pc = .ok (.invokevirtual index, 3))
    (hpre : ∀ vm₁, s.WarmedH vm₁ → Pre ⟨T.setVm vm₁, locs, cells, slots⟩ (Value.ref b :: argsL).toArray) :
    ∃ (v : Option Value) (vm₁ : Vm) (B : Pt), s.WarmedH vm₁ ∧ Stand p l e R s m args below meth c B.U B.locs B.cells B.slots ∧ Post ⟨T.setVm vm₁, locs, cells, slots⟩ (Value.ref b :: argsL).toArray v B ∧
      ∀ target, Steps p.tables e below (B.U.setTop { g with pc := g.pc + 3, stack := v.toList ++ rest }) target → Steps p.tables e below (T.setTop g) target := by
  obtain ⟨mk, methM, hnamed, hmethM, hstM, habM⟩ := Cond.instanceMethod_spec hinst
  obtain ⟨m8, methM', cM, hn8, hmethM', -, -, -, -, -, -, hsigM⟩ := Cond.codeWith_spec hcode
  cases Option.some.inj (hn8.symm.trans hnamed)
  cases hmethM.symm.trans hmethM'
  obtain ⟨c2, r2, m2, q1, q2, q3, q4, kP, hkP, hkPi⟩ := Cond.selects_spec hsel
  cases hcls.symm.trans q1
  cases (State.methodFound?_of_named hnamed hy).symm.trans q2
  cases hnamed.symm.trans q3
  have hselP : selectMethod e.platform s.vm cellB.cls mk = .method mk := by rw [Launch.admits_selectMethod X.admits]; exact q4
  obtain ⟨vm₁, X₁, hstep₁⟩ := X.invokevirtual hexec hown hlink hnamed hmethM hstM hkP hkPi hy (a := b) (cell := cellB) hcell
    (fun z h => by rw [h] at hobj; cases hobj) hselP hmethM habM hkP hkPi (g := g) hg (argsL := argsL) (rest := rest) (hlen _ hsigM) hstack hdg
  obtain ⟨v, B, X', hpost, hsteps⟩ := hK m meth c ⟨T.setVm vm₁, locs, cells, slots⟩ { g with stack := rest } (.invokevirtual index) mk (Value.ref b :: argsL).toArray X₁ hg hsize hdg hW (X₁.named hnamed) (hpre vm₁ X₁.warmed)
  exact ⟨v, vm₁, B, X₁.warmed, X', hpost, fun target h => hstep₁ _ fun acts => by rw [doInvoke_state]; exact hsteps.trans h⟩
abbrev vx_CVW (R : Room) (s : State) (args : Array Value) (own C : String) (index : Nat) (y : MethodName) (bytes : ByteArray) (maxL : Nat) (ret : Option FieldType) (hh : List (Nat × Nat × Nat × Nat)) (ws : List Cond) (rm : Room) (mc ms n : Nat) : Prop :=
  (rm.cells = mc ∧ rm.slots = ms ∧ rm.frames + 1 ≤ R.frames ∧ 8 + (maxL + 11) + rm.locals ≤ R.locals ∧ (∀ w ∈ ws, ∀ (a' : Array Value) (U : State), s.WarmedH U.vm → w.before a' U = true) ∧ Cond.codeWith y bytes maxL ret hh ∈ ws) ∧
  (Cond.codeWith y bytes maxL ret hh).before args s = true ∧ (Cond.initialized y.cls).before args s = true ∧ (y.cls ≠ "java/lang/invoke/MethodHandle" ∧ y.cls ≠ "java/lang/invoke/VarHandle") ∧
  (∀ sig, parseMethodDescriptor y.desc = some sig → n = sig.parameters.length) ∧ (Cond.methodLink own index y).before args s = true ∧ (Cond.instanceMethod y).before args s = true ∧ (Cond.selects C y y).before args s = true
theorem vx_cwVW {own C : String} {index maxL mc ms : Nat} {y : MethodName} {bytes : ByteArray} {ret : Option FieldType} {hh : List (Nat × Nat × Nat × Nat)} {Ts ws ws' : List Cond} {rm : Room} (n : Nat) (ht : ∀ w ∈ Ts, w.before args s = true) (hT : GoodIn Ts (wsV own index C y ws)) (hw : ws = Cond.codeWith y bytes maxL ret hh :: ws') (hrc : rm.cells = mc) (hrs : rm.slots = ms)
    (hd : y.cls = C ∧ y.cls ≠ "java/lang/invoke/MethodHandle" ∧ y.cls ≠ "java/lang/invoke/VarHandle" ∧ (parseMethodDescriptor y.desc).map (fun d => d.parameters.length) = some n) (hR : rm.frames + 1 ≤ R.frames ∧ 8 + (maxL + 11) + rm.locals ≤ R.locals) :
    vx_CVW R s args own C index y bytes maxL ret hh ws rm mc ms n := by
  obtain ⟨hC, hd⟩ := hd
  subst hC
  have ok : ∀ w ∈ wsV own index y.cls y ws, w.before args s = true := fun w h => ht w (hT w h).1
  have hG : GoodIn Ts ws := fun w h => hT w (by unfold wsV; exact List.mem_append_right _ h)
  have hc : Cond.codeWith y bytes maxL ret hh ∈ ws := by rw [hw]; exact List.mem_cons_self
  refine ⟨⟨hrc, hrs, hR.1, hR.2, pay_in ht hG, hc⟩, ht _ (hG _ hc).1, ok _ (by simp [wsV]), ⟨hd.1, hd.2.1⟩, fun sig h => ?_, ok _ (by simp [wsV]), ok _ (by simp [wsV]), ok _ (by simp [wsV])⟩
  have h2 := hd.2.2
  rw [h] at h2
  exact (Option.some.inj h2).symm
theorem vx_runVW {y : MethodName} {bytes cc : ByteArray} {maxL nL mc ms n index : Nat} {ret : Option FieldType} {hh : List (Nat × Nat × Nat × Nat)} {ws : List Cond} {rm : Room} {Pc : Array Value → State → Prop} {Qc : Array Value → State → Outcome → State → Prop} {free : Addr → Prop} {Ts : List Cond} {own C : String} {b : Addr} {As rest : List Value} {g : JFrame}
    (S : CallFix p m c cc nL s args Ts own) (hM : Met l y ws rm Pc Qc mc ms free) (cw : vx_CVW R s args own C index y bytes maxL ret hh ws rm mc ms n) (hp : PreV s H C b Pc As)
    (hg : g.method = m) (hn : As.length = n) (hsize : g.locals.size = nL) (hstack : g.stack = As.reverse ++ .ref b :: rest) (hW : 2 * g.monitorRoom + (rest.map fun v => v.category).sum ≤ 8) (hdg : decode cc g.pc = .ok (.invokevirtual index, 3)) (hf : cells + mc ≤ R.cells ∧ slots + ms ≤ R.slots) :
    va_Run p l e R s m args below meth c H locs cells slots mc ms g rest (Qc (Value.ref b :: As).toArray) free := by
  obtain ⟨⟨hrc, hrs, hfr, hlo, hws, hcw⟩, hcode, hini, hy, hlen, hl, hin, hse⟩ := cw
  have hK : Back l R p e below s args y 3 8 (PreOf R mc ms Pc) (PostOf Qc mc ms free) := va_backW (hh := hh) (bytes := bytes) (maxL := maxL) (ret := ret) hM hp.1 hrc hrs hfr hlo hws hcw (fun a' U hW => word_at hW (Or.inl (by first | rfl | simp [Cond.onTables, Cond.keeps, Cond.steady])) hini)
  obtain ⟨hx, hb, hml, ho, -⟩ := S
  obtain ⟨-, ⟨cellB, hcB, hoB, hclB⟩, hPc⟩ := hp
  intro T hT X
  obtain ⟨v, vm₁, ⟨U', l2, c2, s2⟩, hW₁, X', ⟨g', mk, t, L, e1, e2, hq, h1, hL, h2, h3⟩, st⟩ := vx_callVW X hx (C := C) (hh := hh) (bytes := bytes) (maxL := maxL) (ret := ret) ho hl hin hse hcode hy hK (by rw [hT]; exact hcB) hoB hclB hg (hsize.trans hml.symm) (argsL := As) (rest := rest) (fun sig h => hn.trans (hlen sig h)) hstack hW (by rw [hb]; exact hdg)
    (fun vm₁ hW₁ => ⟨hf.1, hf.2, hPc (T.setVm vm₁) hT hW₁⟩)
  dsimp only [Pt.U, Pt.locs, Pt.cells, Pt.slots] at X' e1 e2 h1 h2 h3 st
  subst h1; subst h2; subst h3
  exact ⟨v, (T.setVm vm₁).calling g' mk (Value.ref b :: As).toArray, t, U', L, hT, X', hL, e1, e2, hq, st⟩
section
variable {y : MethodName} {bytes cc : ByteArray} {maxL nL mc ms n index : Nat} {ret : Option FieldType} {ws : List Cond} {rm : Room} {Pc : Array Value → State → Prop} {Qc : Array Value → State → Outcome → State → Prop} {XC : String → State → State → Prop} {free : Addr → Prop} {Ts : List Cond} {own C : String} {b : Addr} {As rest : List Value} {g : JFrame}
theorem vx_runVX {hh : List (Nat × Nat × Nat × Nat)} (S : CallFix p m c cc nL s args Ts own) (hM : vx_Met l y ws rm Pc Qc XC mc ms free) (cw : vx_CVW R s args own C index y bytes maxL ret hh ws rm mc ms n) (hp : PreV s H C b Pc As)
    (hg : g.method = m) (hn : As.length = n) (hsize : g.locals.size = nL) (hstack : g.stack = As.reverse ++ .ref b :: rest) (hW : 2 * g.monitorRoom + (rest.map fun v => v.category).sum ≤ 8) (hdg : decode cc g.pc = .ok (.invokevirtual index, 3)) (hf : cells + mc ≤ R.cells ∧ slots + ms ≤ R.slots) :
    vx_Run p l e R s m args below meth c H locs cells slots mc ms g rest (Qc (Value.ref b :: As).toArray) XC free := by
  obtain ⟨⟨hrc, hrs, hfr, hlo, hws, hcw⟩, hcode, hini, hy, hlen, hl, hin, hse⟩ := cw
  have hK : vx_Back l R p e below s args y 3 8 (PreOf R mc ms Pc) (PostOf Qc mc ms free) (vx_Post XC mc ms free) := vx_backW (hh := hh) (bytes := bytes) (maxL := maxL) (ret := ret) hM hp.1 hrc hrs hfr hlo hws hcw (fun a' U hW => word_at hW (Or.inl (by first | rfl | simp [Cond.onTables, Cond.keeps, Cond.steady])) hini)
  obtain ⟨hx, hb, hml, ho, -⟩ := S
  obtain ⟨-, ⟨cellB, hcB, hoB, hclB⟩, hPc⟩ := hp
  intro T hT X
  rcases vx_callVX X hx (C := C) (hh := hh) (bytes := bytes) (maxL := maxL) (ret := ret) ho hl hin hse hcode hy hK (by rw [hT]; exact hcB) hoB hclB hg (hsize.trans hml.symm) (argsL := As) (rest := rest) (fun sig h => hn.trans (hlen sig h)) hstack hW (by rw [hb]; exact hdg)
    (fun vm₁ hW₁ => ⟨hf.1, hf.2, hPc (T.setVm vm₁) hT hW₁⟩) with ⟨v, vm₁, ⟨U', l2, c2, s2⟩, hW₁, X', ⟨g', mk, t, L, e1, e2, hq, h1, hL, h2, h3⟩, st⟩ | ⟨q, vm₁, ⟨U', l2, c2, s2⟩, hW₁, X', ⟨g', mk, t, L, E, ce, e1, e2, hq, hce, hcv, hcl, h1, hL, h2, h3⟩, st⟩
  · dsimp only [Pt.U, Pt.locs, Pt.cells, Pt.slots] at X' e1 e2 h1 h2 h3 st
    subst h1; subst h2; subst h3
    exact Or.inl ⟨v, (T.setVm vm₁).calling g' mk (Value.ref b :: As).toArray, t, U', L, hT, X', hL, e1, e2, hq, st⟩
  · dsimp only [Pt.U, Pt.locs, Pt.cells, Pt.slots] at X' e1 e2 h1 h2 h3 st hcl
    subst h1; subst h2; subst h3
    exact Or.inr ⟨q, (T.setVm vm₁).calling g' mk (Value.ref b :: As).toArray, t, U', L, E, ce, hT, X', hL, e1, e2, hq, hce, hcv, vx_cls hW₁ hcl, st⟩
theorem vx_runSX {hh : List (Nat × Nat × Nat × Nat)} (S : CallFix p m c cc nL s args Ts own) (hM : vx_Met l y ws rm Pc Qc XC mc ms free) (cw : vx_CSW R s args own index y bytes maxL ret hh ws rm mc ms n) (hp : PreS s H Pc As)
    (hg : g.method = m) (hn : As.length = n) (hsize : g.locals.size = nL) (hstack : g.stack = As.reverse ++ rest) (hW : 2 * g.monitorRoom + (rest.map fun v => v.category).sum ≤ 8) (hdg : decode cc g.pc = .ok (.invokestatic index, 3)) (hf : cells + mc ≤ R.cells ∧ slots + ms ≤ R.slots) :
    vx_Run p l e R s m args below meth c H locs cells slots mc ms g rest (Qc As.toArray) XC free := by
  obtain ⟨⟨hrc, hrs, hfr, hlo, hws, hcw⟩, hcode, hini, hy, hlen, hl, hstt⟩ := cw
  have hK : vx_Back l R p e below s args y 3 8 (PreOf R mc ms Pc) (PostOf Qc mc ms free) (vx_Post XC mc ms free) := vx_backW (hh := hh) (bytes := bytes) (maxL := maxL) (ret := ret) hM hp.1 hrc hrs hfr hlo hws hcw (fun a' U hW => word_at hW (Or.inl (by first | rfl | simp [Cond.onTables, Cond.keeps, Cond.steady])) hini)
  obtain ⟨hx, hb, hml, ho, -⟩ := S
  intro T hT X
  rcases vx_callSX X hx (hh := hh) (bytes := bytes) (maxL := maxL) (ret := ret) ho hl hstt hini hcode hy hK hg (hsize.trans hml.symm) (argsL := As) (rest := rest) (fun sig h => hn.trans (hlen sig h)) hstack hW (by rw [hb]; exact hdg)
    (fun vm₁ hW₁ => ⟨hf.1, hf.2, hp.2 (T.setVm vm₁) hT hW₁⟩) with ⟨v, vm₁, ⟨U', l2, c2, s2⟩, hW₁, X', ⟨g', mk, t, L, e1, e2, hq, h1, hL, h2, h3⟩, st⟩ | ⟨q, vm₁, ⟨U', l2, c2, s2⟩, hW₁, X', ⟨g', mk, t, L, E, ce, e1, e2, hq, hce, hcv, hcl, h1, hL, h2, h3⟩, st⟩
  · dsimp only [Pt.U, Pt.locs, Pt.cells, Pt.slots] at X' e1 e2 h1 h2 h3 st
    subst h1; subst h2; subst h3
    exact Or.inl ⟨v, (T.setVm vm₁).calling g' mk As.toArray, t, U', L, hT, X', hL, e1, e2, hq, st⟩
  · dsimp only [Pt.U, Pt.locs, Pt.cells, Pt.slots] at X' e1 e2 h1 h2 h3 st hcl
    subst h1; subst h2; subst h3
    exact Or.inr ⟨q, (T.setVm vm₁).calling g' mk As.toArray, t, U', L, E, ce, hT, X', hL, e1, e2, hq, hce, hcv, vx_cls hW₁ hcl, st⟩
end
end VXH
theorem vx_ofWH {l : Launch} {y : MethodName} {ws ws' : List Cond} {rm : Room} {Pc : Array Value → State → Prop} {Qc : Array Value → State → Outcome → State → Prop} {XC : String → State → State → Prop} {mc ms : Nat} {free : Addr → Prop} {cc : ByteArray} {maxL : Nat} {ret : Option FieldType} {hh : List (Nat × Nat × Nat × Nat)}
    (hy : plainName y.cls = true) (hw : ws = Cond.codeWith y cc maxL ret hh :: ws')
    (body : ∀ p e s m args below meth c s₁, BodyLoose p l y (headSpec ws rm) cc maxL ret e s m args below meth c s₁ → c.maxLocals = maxL → Pc args s →
      W p l e (headSpec ws rm).room s m args below meth c s.heap [] 0 0 (vx_MQ below Qc XC args s mc ms free) (entryFrame m args maxL)) : vx_Met l y ws rm Pc Qc XC mc ms free := by
  refine MetFree.of_bodyS (code := cc) (maxLocals := maxL) (ret := ret) hy ?_ ?_
  · intro args s m h hn
    obtain ⟨m9, meth, c, hn9, h1, h2, h3, h4, -, h5, h6, -⟩ := Cond.codeWith_spec (atoms_spec (ws := ws) h _ (by rw [hw]; exact List.mem_cons_self))
    cases hn.symm.trans hn9
    exact ⟨meth, c, h1, h2, h3, h4, h5, h6⟩
  · intro p e s m args below meth c s₁ B hml hP _
    have hh0 : s₁.heap = s.heap := by rw [B.state]; rfl
    obtain ⟨t, a1, o, b1, b2, b3⟩ := body p e s m args below meth c s₁ B hml hP s₁ hh0 (Stand.of_body B)
    exact ⟨t, o, a1, b1, b2, b3⟩
/-! ===== END ===== -/
end
section
/-! ===== BEGIN printed: names, fields, word lists, decode rows ===== -/
def RX0 : String := "OdometerRing$Cells"
def TX0 : u_T := fun k => match k with
  | 0 => ("OdometerRing$Cells", "slots", "I", false)
  | 1 => ("OdometerRing$Cells", "limit", "I", false)
  | 2 => ("OdometerRing$Cells", "numbers", "[I", true)
  | _ => ("OdometerRing$Cells", "wears", "[I", true)
def tyX0 : Nat → FieldType := fun k => match k with
  | 0 => .int
  | 1 => .int
  | 2 => .array .int
  | _ => .array .int
abbrev wsX00 : List Cond := u_ws RX0 TX0 4
theorem nmX0 : ∀ a, a < 4 → ∀ b, b < 4 → a ≠ b → (TX0 a).2.1 ≠ (TX0 b).2.1 := by decide +kernel
theorem tyX0_ok : ∀ k, k < 4 → parseFieldDescriptor (TX0 k).2.2.1 = some (tyX0 k) := by decide +kernel
abbrev cX0_init : ByteArray := prog_2_method_1_code
def yX0_init : MethodName := ⟨RX0, "<init>", "()V"⟩
abbrev cX0_makeNew : ByteArray := prog_2_method_2_code
def yX0_makeNew : MethodName := ⟨RX0, "makeNew", "(II)V"⟩
abbrev cX0_becomeLike : ByteArray := prog_2_method_3_code
def yX0_becomeLike : MethodName := ⟨RX0, "becomeLike", "(LOdometerRing$Cells;)V"⟩
abbrev cX0_hasSlot : ByteArray := prog_2_method_4_code
def yX0_hasSlot : MethodName := ⟨RX0, "hasSlot", "(I)Z"⟩
abbrev cX0_slotBehind : ByteArray := prog_2_method_5_code
def yX0_slotBehind : MethodName := ⟨RX0, "slotBehind", "(I)I"⟩
abbrev cX0_numberIn : ByteArray := prog_2_method_6_code
def yX0_numberIn : MethodName := ⟨RX0, "numberIn", "(II)I"⟩
abbrev cX0_wearOf : ByteArray := prog_2_method_7_code
def yX0_wearOf : MethodName := ⟨RX0, "wearOf", "(II)I"⟩
abbrev cX0_isStuck : ByteArray := prog_2_method_8_code
def yX0_isStuck : MethodName := ⟨RX0, "isStuck", "(II)Z"⟩
abbrev cX0_wearOfSlot : ByteArray := prog_2_method_9_code
def yX0_wearOfSlot : MethodName := ⟨RX0, "wearOfSlot", "(I)I"⟩
abbrev cX0_spokenBy : ByteArray := prog_2_method_10_code
def yX0_spokenBy : MethodName := ⟨RX0, "spokenBy", "(I)I"⟩
abbrev cX0_readableIn : ByteArray := prog_2_method_11_code
def yX0_readableIn : MethodName := ⟨RX0, "readableIn", "(I)I"⟩
abbrev cX0_write : ByteArray := prog_2_method_12_code
def yX0_write : MethodName := ⟨RX0, "write", "(III)V"⟩
abbrev cX0_renew : ByteArray := prog_2_method_13_code
def yX0_renew : MethodName := ⟨RX0, "renew", "(I)I"⟩
abbrev cX0_wearGap : ByteArray := prog_2_method_14_code
def yX0_wearGap : MethodName := ⟨RX0, "wearGap", "()I"⟩
abbrev cX0_slotOfGreatest : ByteArray := prog_2_method_15_code
def yX0_slotOfGreatest : MethodName := ⟨RX0, "slotOfGreatest", "()I"⟩
def RX1 : String := "OdometerRing$History"
def TX1 : u_T := fun k => match k with
  | 0 => ("OdometerRing$History", "count", "I", false)
  | 1 => ("OdometerRing$History", "next", "I", false)
  | _ => ("OdometerRing$History", "shelf", "LOdometerRing$Shelf;", true)
def tyX1 : Nat → FieldType := fun k => match k with
  | 0 => .int
  | 1 => .int
  | _ => .object "OdometerRing$Shelf"
abbrev wsX10 : List Cond := u_ws RX1 TX1 3
theorem nmX1 : ∀ a, a < 3 → ∀ b, b < 3 → a ≠ b → (TX1 a).2.1 ≠ (TX1 b).2.1 := by decide +kernel
theorem tyX1_ok : ∀ k, k < 3 → parseFieldDescriptor (TX1 k).2.2.1 = some (tyX1 k) := by decide +kernel
abbrev cX1_init : ByteArray := prog_3_method_1_code
def yX1_init : MethodName := ⟨RX1, "<init>", "()V"⟩
abbrev cX1_remember : ByteArray := prog_3_method_2_code
def yX1_remember : MethodName := ⟨RX1, "remember", "(LOdometerRing$Odometer;)V"⟩
abbrev cX1_takeBack : ByteArray := prog_3_method_3_code
def yX1_takeBack : MethodName := ⟨RX1, "takeBack", "(LOdometerRing$Odometer;)I"⟩
abbrev cX1_forgetAll : ByteArray := prog_3_method_4_code
def yX1_forgetAll : MethodName := ⟨RX1, "forgetAll", "()V"⟩
def RX2 : String := "OdometerRing$Odometer"
def TX2 : u_T := fun k => match k with
  | 0 => ("OdometerRing$Odometer", "cells", "LOdometerRing$Cells;", true)
  | 1 => ("OdometerRing$Odometer", "services", "LOdometerRing$Services;", true)
  | 2 => ("OdometerRing$Odometer", "step", "I", false)
  | 3 => ("OdometerRing$Odometer", "on", "Z", false)
  | 4 => ("OdometerRing$Odometer", "dead", "Z", false)
  | 5 => ("OdometerRing$Odometer", "distance", "I", false)
  | 6 => ("OdometerRing$Odometer", "stored", "I", false)
  | 7 => ("OdometerRing$Odometer", "current", "I", false)
  | 8 => ("OdometerRing$Odometer", "travelled", "I", false)
  | 9 => ("OdometerRing$Odometer", "writes", "I", false)
  | 10 => ("OdometerRing$Odometer", "cuts", "I", false)
  | 11 => ("OdometerRing$Odometer", "cutIn", "I", false)
  | 12 => ("OdometerRing$Odometer", "cutKind", "I", false)
  | 13 => ("OdometerRing$Odometer", "lastSlot", "I", false)
  | 14 => ("OdometerRing$Odometer", "lastCell", "I", false)
  | 15 => ("OdometerRing$Odometer", "lastKind", "I", false)
  | _ => ("OdometerRing$Odometer", "lastTried", "I", false)
def tyX2 : Nat → FieldType := fun k => match k with
  | 0 => .object "OdometerRing$Cells"
  | 1 => .object "OdometerRing$Services"
  | 2 => .int
  | 3 => .boolean
  | 4 => .boolean
  | 5 => .int
  | 6 => .int
  | 7 => .int
  | 8 => .int
  | 9 => .int
  | 10 => .int
  | 11 => .int
  | 12 => .int
  | 13 => .int
  | 14 => .int
  | 15 => .int
  | _ => .int
abbrev wsX20 : List Cond := u_ws RX2 TX2 17
theorem nmX2 : ∀ a, a < 17 → ∀ b, b < 17 → a ≠ b → (TX2 a).2.1 ≠ (TX2 b).2.1 := by decide +kernel
theorem tyX2_ok : ∀ k, k < 17 → parseFieldDescriptor (TX2 k).2.2.1 = some (tyX2 k) := by decide +kernel
abbrev cX2_init : ByteArray := prog_4_method_1_code
def yX2_init : MethodName := ⟨RX2, "<init>", "()V"⟩
abbrev cX2_makeNew : ByteArray := prog_4_method_2_code
def yX2_makeNew : MethodName := ⟨RX2, "makeNew", "(III)V"⟩
abbrev cX2_becomeLike : ByteArray := prog_4_method_3_code
def yX2_becomeLike : MethodName := ⟨RX2, "becomeLike", "(LOdometerRing$Odometer;)V"⟩
abbrev cX2_tellOfDriving : ByteArray := prog_4_method_4_code
def yX2_tellOfDriving : MethodName := ⟨RX2, "tellOfDriving", "(I)I"⟩
abbrev cX2_tellOfMemory : ByteArray := prog_4_method_5_code
def yX2_tellOfMemory : MethodName := ⟨RX2, "tellOfMemory", "(I)I"⟩
abbrev cX2_driveOn : ByteArray := prog_4_method_6_code
def yX2_driveOn : MethodName := ⟨RX2, "driveOn", "(I)I"⟩
abbrev cX2_driveTillDead : ByteArray := prog_4_method_7_code
def yX2_driveTillDead : MethodName := ⟨RX2, "driveTillDead", "()I"⟩
abbrev cX2_storeDistance : ByteArray := prog_4_method_8_code
def yX2_storeDistance : MethodName := ⟨RX2, "storeDistance", "()V"⟩
abbrev cX2_writeSlot : ByteArray := prog_4_method_9_code
def yX2_writeSlot : MethodName := ⟨RX2, "writeSlot", "(II)V"⟩
abbrev cX2_leftByCut : ByteArray := prog_4_method_10_code
def yX2_leftByCut : MethodName := ⟨RX2, "leftByCut", "(I)I"⟩
abbrev cX2_losePower : ByteArray := prog_4_method_11_code
def yX2_losePower : MethodName := ⟨RX2, "losePower", "(III)V"⟩
abbrev cX2_switchOn : ByteArray := prog_4_method_12_code
def yX2_switchOn : MethodName := ⟨RX2, "switchOn", "()I"⟩
abbrev cX2_setCut : ByteArray := prog_4_method_13_code
def yX2_setCut : MethodName := ⟨RX2, "setCut", "(II)I"⟩
abbrev cX2_noteService : ByteArray := prog_4_method_14_code
def yX2_noteService : MethodName := ⟨RX2, "noteService", "(II)I"⟩
abbrev cX2_canReplace : ByteArray := prog_4_method_15_code
def yX2_canReplace : MethodName := ⟨RX2, "canReplace", "(I)Z"⟩
abbrev cX2_obey : ByteArray := prog_4_method_16_code
def yX2_obey : MethodName := ⟨RX2, "obey", "(III)Z"⟩
abbrev cX2_obeyGroup : ByteArray := prog_4_method_17_code
def yX2_obeyGroup : MethodName := ⟨RX2, "obeyGroup", "(I)Z"⟩
abbrev cX2_takeStep : ByteArray := prog_4_method_18_code
def yX2_takeStep : MethodName := ⟨RX2, "takeStep", "(I)Z"⟩
abbrev cX2_playRound : ByteArray := prog_4_method_19_code
def yX2_playRound : MethodName := ⟨RX2, "playRound", "(I)V"⟩
def RX3 : String := "OdometerRing$Services"
def TX3 : u_T := fun k => match k with
  | 0 => ("OdometerRing$Services", "count", "I", false)
  | 1 => ("OdometerRing$Services", "codes", "[I", true)
  | _ => ("OdometerRing$Services", "noted", "[I", true)
def tyX3 : Nat → FieldType := fun k => match k with
  | 0 => .int
  | 1 => .array .int
  | _ => .array .int
abbrev wsX30 : List Cond := u_ws RX3 TX3 3
theorem nmX3 : ∀ a, a < 3 → ∀ b, b < 3 → a ≠ b → (TX3 a).2.1 ≠ (TX3 b).2.1 := by decide +kernel
theorem tyX3_ok : ∀ k, k < 3 → parseFieldDescriptor (TX3 k).2.2.1 = some (tyX3 k) := by decide +kernel
abbrev cX3_init : ByteArray := prog_5_method_1_code
def yX3_init : MethodName := ⟨RX3, "<init>", "()V"⟩
abbrev cX3_becomeLike : ByteArray := prog_5_method_2_code
def yX3_becomeLike : MethodName := ⟨RX3, "becomeLike", "(LOdometerRing$Services;)V"⟩
abbrev cX3_codeAt : ByteArray := prog_5_method_3_code
def yX3_codeAt : MethodName := ⟨RX3, "codeAt", "(I)I"⟩
abbrev cX3_notedAt : ByteArray := prog_5_method_4_code
def yX3_notedAt : MethodName := ⟨RX3, "notedAt", "(I)I"⟩
abbrev cX3_placeOf : ByteArray := prog_5_method_5_code
def yX3_placeOf : MethodName := ⟨RX3, "placeOf", "(II)I"⟩
abbrev cX3_hasRoomFor : ByteArray := prog_5_method_6_code
def yX3_hasRoomFor : MethodName := ⟨RX3, "hasRoomFor", "(II)Z"⟩
abbrev cX3_addLast : ByteArray := prog_5_method_7_code
def yX3_addLast : MethodName := ⟨RX3, "addLast", "(III)V"⟩
abbrev cX3_takeOut : ByteArray := prog_5_method_8_code
def yX3_takeOut : MethodName := ⟨RX3, "takeOut", "(I)I"⟩
abbrev cX3_placeOfSmallest : ByteArray := prog_5_method_9_code
def yX3_placeOfSmallest : MethodName := ⟨RX3, "placeOfSmallest", "()I"⟩
abbrev cX3_put : ByteArray := prog_5_method_10_code
def yX3_put : MethodName := ⟨RX3, "put", "(III)V"⟩
def RX4 : String := "OdometerRing$Shelf"
def TX4 : u_T := fun k => match k with
  | 0 => ("OdometerRing$Shelf", "states", "[LOdometerRing$Odometer;", true)
  | _ => ("OdometerRing$Shelf", "full", "[Z", true)
def tyX4 : Nat → FieldType := fun k => match k with
  | 0 => .array (.object "OdometerRing$Odometer")
  | _ => .array .boolean
abbrev wsX40 : List Cond := u_ws RX4 TX4 2
theorem nmX4 : ∀ a, a < 2 → ∀ b, b < 2 → a ≠ b → (TX4 a).2.1 ≠ (TX4 b).2.1 := by decide +kernel
theorem tyX4_ok : ∀ k, k < 2 → parseFieldDescriptor (TX4 k).2.2.1 = some (tyX4 k) := by decide +kernel
abbrev cX4_init : ByteArray := prog_6_method_1_code
def yX4_init : MethodName := ⟨RX4, "<init>", "(I)V"⟩
abbrev cX4_isFull : ByteArray := prog_6_method_2_code
def yX4_isFull : MethodName := ⟨RX4, "isFull", "(I)Z"⟩
abbrev cX4_emptyAll : ByteArray := prog_6_method_3_code
def yX4_emptyAll : MethodName := ⟨RX4, "emptyAll", "()V"⟩
abbrev cX4_put : ByteArray := prog_6_method_4_code
def yX4_put : MethodName := ⟨RX4, "put", "(ILOdometerRing$Odometer;)V"⟩
abbrev cX4_take : ByteArray := prog_6_method_5_code
def yX4_take : MethodName := ⟨RX4, "take", "(ILOdometerRing$Odometer;)V"⟩
def RX5 : String := "OdometerRing$Story"
def TX5 : u_T := fun k => match k with
  | 0 => ("OdometerRing$Story", "length", "I", false)
  | 1 => ("OdometerRing$Story", "slots", "I", false)
  | 2 => ("OdometerRing$Story", "step", "I", false)
  | 3 => ("OdometerRing$Story", "limit", "I", false)
  | 4 => ("OdometerRing$Story", "letter", "I", false)
  | 5 => ("OdometerRing$Story", "first", "I", false)
  | 6 => ("OdometerRing$Story", "second", "I", false)
  | 7 => ("OdometerRing$Story", "cursor", "I", false)
  | _ => ("OdometerRing$Story", "signs", "[I", true)
def tyX5 : Nat → FieldType := fun k => match k with
  | 0 => .int
  | 1 => .int
  | 2 => .int
  | 3 => .int
  | 4 => .int
  | 5 => .int
  | 6 => .int
  | 7 => .int
  | _ => .array .int
abbrev wsX50 : List Cond := u_ws RX5 TX5 9
theorem nmX5 : ∀ a, a < 9 → ∀ b, b < 9 → a ≠ b → (TX5 a).2.1 ≠ (TX5 b).2.1 := by decide +kernel
theorem tyX5_ok : ∀ k, k < 9 → parseFieldDescriptor (TX5 k).2.2.1 = some (tyX5 k) := by decide +kernel
abbrev cX5_init : ByteArray := prog_7_method_1_code
def yX5_init : MethodName := ⟨RX5, "<init>", "()V"⟩
abbrev cX5_add : ByteArray := prog_7_method_2_code
def yX5_add : MethodName := ⟨RX5, "add", "(I)I"⟩
abbrev cX5_empty : ByteArray := prog_7_method_3_code
def yX5_empty : MethodName := ⟨RX5, "empty", "()I"⟩
abbrev cX5_errorAt : ByteArray := prog_7_method_4_code
def yX5_errorAt : MethodName := ⟨RX5, "errorAt", "()I"⟩
abbrev cX5_isAtEnd : ByteArray := prog_7_method_5_code
def yX5_isAtEnd : MethodName := ⟨RX5, "isAtEnd", "()Z"⟩
abbrev cX5_readHead : ByteArray := prog_7_method_6_code
def yX5_readHead : MethodName := ⟨RX5, "readHead", "()Z"⟩
abbrev cX5_readCommand : ByteArray := prog_7_method_7_code
def yX5_readCommand : MethodName := ⟨RX5, "readCommand", "()Z"⟩
abbrev cX5_readNumber : ByteArray := prog_7_method_8_code
def yX5_readNumber : MethodName := ⟨RX5, "readNumber", "(III)I"⟩
abbrev cX5_signHere : ByteArray := prog_7_method_9_code
def yX5_signHere : MethodName := ⟨RX5, "signHere", "()I"⟩
def RX6 : String := "OdometerRing"
def TX6 : u_T := fun k => match k with
  | 0 => ("OdometerRing", "story", "LOdometerRing$Story;", true)
  | 1 => ("OdometerRing", "state", "LOdometerRing$Odometer;", true)
  | 2 => ("OdometerRing", "trial", "LOdometerRing$Odometer;", true)
  | 3 => ("OdometerRing", "history", "LOdometerRing$History;", true)
  | _ => ("OdometerRing", "saved", "LOdometerRing$Shelf;", true)
def tyX6 : Nat → FieldType := fun k => match k with
  | 0 => .object "OdometerRing$Story"
  | 1 => .object "OdometerRing$Odometer"
  | 2 => .object "OdometerRing$Odometer"
  | 3 => .object "OdometerRing$History"
  | _ => .object "OdometerRing$Shelf"
abbrev wsX60 : List Cond := u_ws RX6 TX6 5
theorem nmX6 : ∀ a, a < 5 → ∀ b, b < 5 → a ≠ b → (TX6 a).2.1 ≠ (TX6 b).2.1 := by decide +kernel
theorem tyX6_ok : ∀ k, k < 5 → parseFieldDescriptor (TX6 k).2.2.1 = some (tyX6 k) := by decide +kernel
abbrev cX6_init : ByteArray := prog_1_method_1_code
def yX6_init : MethodName := ⟨RX6, "<init>", "()V"⟩
abbrev cX6_append : ByteArray := prog_1_method_2_code
def yX6_append : MethodName := ⟨RX6, "append", "(I)I"⟩
abbrev cX6_clearText : ByteArray := prog_1_method_3_code
def yX6_clearText : MethodName := ⟨RX6, "clearText", "()I"⟩
abbrev cX6_errorPosition : ByteArray := prog_1_method_4_code
def yX6_errorPosition : MethodName := ⟨RX6, "errorPosition", "()I"⟩
abbrev cX6_load : ByteArray := prog_1_method_5_code
def yX6_load : MethodName := ⟨RX6, "load", "()I"⟩
abbrev cX6_about : ByteArray := prog_1_method_6_code
def yX6_about : MethodName := ⟨RX6, "about", "(I)I"⟩
abbrev cX6_cell : ByteArray := prog_1_method_7_code
def yX6_cell : MethodName := ⟨RX6, "cell", "(III)I"⟩
abbrev cX6_says : ByteArray := prog_1_method_8_code
def yX6_says : MethodName := ⟨RX6, "says", "(I)I"⟩
abbrev cX6_whySilent : ByteArray := prog_1_method_9_code
def yX6_whySilent : MethodName := ⟨RX6, "whySilent", "(I)I"⟩
abbrev cX6_share : ByteArray := prog_1_method_10_code
def yX6_share : MethodName := ⟨RX6, "share", "(I)I"⟩
abbrev cX6_serviceAt : ByteArray := prog_1_method_11_code
def yX6_serviceAt : MethodName := ⟨RX6, "serviceAt", "(II)I"⟩
abbrev cX6_lastCut : ByteArray := prog_1_method_12_code
def yX6_lastCut : MethodName := ⟨RX6, "lastCut", "(I)I"⟩
abbrev cX6_drive : ByteArray := prog_1_method_13_code
def yX6_drive : MethodName := ⟨RX6, "drive", "(I)I"⟩
abbrev cX6_cut : ByteArray := prog_1_method_14_code
def yX6_cut : MethodName := ⟨RX6, "cut", "(II)I"⟩
abbrev cX6_start : ByteArray := prog_1_method_15_code
def yX6_start : MethodName := ⟨RX6, "start", "()I"⟩
abbrev cX6_service : ByteArray := prog_1_method_16_code
def yX6_service : MethodName := ⟨RX6, "service", "(II)I"⟩
abbrev cX6_forget : ByteArray := prog_1_method_17_code
def yX6_forget : MethodName := ⟨RX6, "forget", "(II)I"⟩
abbrev cX6_setStep : ByteArray := prog_1_method_18_code
def yX6_setStep : MethodName := ⟨RX6, "setStep", "(I)I"⟩
abbrev cX6_replace : ByteArray := prog_1_method_19_code
def yX6_replace : MethodName := ⟨RX6, "replace", "(I)I"⟩
abbrev cX6_undo : ByteArray := prog_1_method_20_code
def yX6_undo : MethodName := ⟨RX6, "undo", "()I"⟩
abbrev cX6_afterCut : ByteArray := prog_1_method_21_code
def yX6_afterCut : MethodName := ⟨RX6, "afterCut", "(II)I"⟩
abbrev cX6_worstLoss : ByteArray := prog_1_method_22_code
def yX6_worstLoss : MethodName := ⟨RX6, "worstLoss", "()I"⟩
abbrev cX6_lasts : ByteArray := prog_1_method_23_code
def yX6_lasts : MethodName := ⟨RX6, "lasts", "(I)I"⟩
abbrev cX6_dueIn : ByteArray := prog_1_method_24_code
def yX6_dueIn : MethodName := ⟨RX6, "dueIn", "(III)I"⟩
abbrev cX6_dueFirst : ByteArray := prog_1_method_25_code
def yX6_dueFirst : MethodName := ⟨RX6, "dueFirst", "()I"⟩
abbrev cX6_runScript : ByteArray := prog_1_method_26_code
def yX6_runScript : MethodName := ⟨RX6, "runScript", "(IJ)I"⟩
abbrev cX6_simulate : ByteArray := prog_1_method_27_code
def yX6_simulate : MethodName := ⟨RX6, "simulate", "(JI)I"⟩
abbrev cX6_save : ByteArray := prog_1_method_28_code
def yX6_save : MethodName := ⟨RX6, "save", "(I)I"⟩
abbrev cX6_restore : ByteArray := prog_1_method_29_code
def yX6_restore : MethodName := ⟨RX6, "restore", "(I)I"⟩
abbrev cX6_toldAfterCut : ByteArray := prog_1_method_30_code
def yX6_toldAfterCut : MethodName := ⟨RX6, "toldAfterCut", "(II)I"⟩
abbrev cX6_isTenths : ByteArray := prog_1_method_31_code
def yX6_isTenths : MethodName := ⟨RX6, "isTenths", "(I)Z"⟩
abbrev cX6_isCut : ByteArray := prog_1_method_32_code
def yX6_isCut : MethodName := ⟨RX6, "isCut", "(II)Z"⟩
abbrev cX6_isService : ByteArray := prog_1_method_33_code
def yX6_isService : MethodName := ⟨RX6, "isService", "(II)Z"⟩
abbrev cX6_isStep : ByteArray := prog_1_method_34_code
def yX6_isStep : MethodName := ⟨RX6, "isStep", "(I)Z"⟩
abbrev cX6_lessGroups : ByteArray := prog_1_method_35_code
def yX6_lessGroups : MethodName := ⟨RX6, "lessGroups", "(JI)J"⟩
def RX7 : String := "OdometerRingModel"
def TX7 : u_T := fun k => match k with
  | _ => ("", "", "", false)
def tyX7 : Nat → FieldType := fun k => match k with
  | _ => .int
abbrev wsX70 : List Cond := u_ws RX7 TX7 0
theorem nmX7 : ∀ a, a < 0 → ∀ b, b < 0 → a ≠ b → (TX7 a).2.1 ≠ (TX7 b).2.1 := by decide +kernel
theorem tyX7_ok : ∀ k, k < 0 → parseFieldDescriptor (TX7 k).2.2.1 = some (tyX7 k) := by decide +kernel
def RL : String := "OdometerRingLaw"
abbrev cL_draw : ByteArray := method_2_code
def yL_draw : MethodName := ⟨RL, "draw", "([II)I"⟩
abbrev cL_in : ByteArray := method_3_code
def yL_in : MethodName := ⟨RL, "in", "(JJJ)Z"⟩
abbrev cL_append : ByteArray := method_4_code
def yL_append : MethodName := ⟨RL, "append", "(LOdometerRing;I)J"⟩
abbrev cL_load : ByteArray := method_5_code
def yL_load : MethodName := ⟨RL, "load", "(LOdometerRing;)J"⟩
abbrev cL_about : ByteArray := method_6_code
def yL_about : MethodName := ⟨RL, "about", "(LOdometerRing;I)J"⟩
abbrev cL_cell : ByteArray := method_7_code
def yL_cell : MethodName := ⟨RL, "cell", "(LOdometerRing;III)J"⟩
abbrev cL_says : ByteArray := method_8_code
def yL_says : MethodName := ⟨RL, "says", "(LOdometerRing;I)J"⟩
abbrev cL_whySilent : ByteArray := method_9_code
def yL_whySilent : MethodName := ⟨RL, "whySilent", "(LOdometerRing;I)J"⟩
abbrev cL_portion : ByteArray := method_10_code
def yL_portion : MethodName := ⟨RL, "portion", "(LOdometerRing;I)J"⟩
abbrev cL_serviceAt : ByteArray := method_11_code
def yL_serviceAt : MethodName := ⟨RL, "serviceAt", "(LOdometerRing;II)J"⟩
abbrev cL_lastCut : ByteArray := method_12_code
def yL_lastCut : MethodName := ⟨RL, "lastCut", "(LOdometerRing;I)J"⟩
abbrev cL_drive : ByteArray := method_13_code
def yL_drive : MethodName := ⟨RL, "drive", "(LOdometerRing;I)J"⟩
abbrev cL_cut : ByteArray := method_14_code
def yL_cut : MethodName := ⟨RL, "cut", "(LOdometerRing;II)J"⟩
abbrev cL_start : ByteArray := method_15_code
def yL_start : MethodName := ⟨RL, "start", "(LOdometerRing;)J"⟩
abbrev cL_service : ByteArray := method_16_code
def yL_service : MethodName := ⟨RL, "service", "(LOdometerRing;II)J"⟩
abbrev cL_forget : ByteArray := method_17_code
def yL_forget : MethodName := ⟨RL, "forget", "(LOdometerRing;II)J"⟩
abbrev cL_setStep : ByteArray := method_18_code
def yL_setStep : MethodName := ⟨RL, "setStep", "(LOdometerRing;I)J"⟩
abbrev cL_replace : ByteArray := method_19_code
def yL_replace : MethodName := ⟨RL, "replace", "(LOdometerRing;I)J"⟩
abbrev cL_undo : ByteArray := method_20_code
def yL_undo : MethodName := ⟨RL, "undo", "(LOdometerRing;)J"⟩
abbrev cL_afterCut : ByteArray := method_21_code
def yL_afterCut : MethodName := ⟨RL, "afterCut", "(LOdometerRing;II)J"⟩
abbrev cL_worstLoss : ByteArray := method_22_code
def yL_worstLoss : MethodName := ⟨RL, "worstLoss", "(LOdometerRing;)J"⟩
abbrev cL_lasts : ByteArray := method_23_code
def yL_lasts : MethodName := ⟨RL, "lasts", "(LOdometerRing;I)J"⟩
abbrev cL_dueIn : ByteArray := method_24_code
def yL_dueIn : MethodName := ⟨RL, "dueIn", "(LOdometerRing;III)J"⟩
abbrev cL_script : ByteArray := method_25_code
def yL_script : MethodName := ⟨RL, "script", "(LOdometerRing;IJ)J"⟩
abbrev cL_simulate : ByteArray := method_26_code
def yL_simulate : MethodName := ⟨RL, "simulate", "(LOdometerRing;JI)J"⟩
abbrev cL_save : ByteArray := method_27_code
def yL_save : MethodName := ⟨RL, "save", "(LOdometerRing;I)J"⟩
abbrev cL_restore : ByteArray := method_28_code
def yL_restore : MethodName := ⟨RL, "restore", "(LOdometerRing;I)J"⟩
abbrev cL_now : ByteArray := method_29_code
def yL_now : MethodName := ⟨RL, "now", "(LOdometerRing;)J"⟩
abbrev cL_errors : ByteArray := method_30_code
def yL_errors : MethodName := ⟨RL, "errors", "(LOdometerRing;)Z"⟩
abbrev cL_kept : ByteArray := method_31_code
def yL_kept : MethodName := ⟨RL, "kept", "(LOdometerRing;)Z"⟩
abbrev cL_follows : ByteArray := method_32_code
def yL_follows : MethodName := ⟨RL, "follows", "(LOdometerRing;I)Z"⟩
abbrev cL_alike : ByteArray := method_33_code
def yL_alike : MethodName := ⟨RL, "alike", "(LOdometerRing;LOdometerRing;I)Z"⟩
abbrev cL_types : ByteArray := method_34_code
def yL_types : MethodName := ⟨RL, "types", "(LOdometerRing;II)Z"⟩
abbrev cL_tells : ByteArray := method_35_code
def yL_tells : MethodName := ⟨RL, "tells", "(LOdometerRing;II)Z"⟩
abbrev cL_act : ByteArray := method_36_code
def yL_act : MethodName := ⟨RL, "act", "(LOdometerRing;II)J"⟩
abbrev cL_law : ByteArray := code
def yL_law : MethodName := ⟨RL, "law", "([I)Z"⟩
abbrev vwCl : List vw_C := [(RX0, TX0, 4), (RX1, TX1, 3), (RX2, TX2, 17), (RX3, TX3, 3), (RX4, TX4, 2), (RX5, TX5, 9), (RX6, TX6, 5)]
end
section
/-! THE ABSTRACT MACHINE. Cells are numbered from 1 (0 is null); a world: how many cells, each cell's kind (0..7 an object of that class of vwCl, 8 int[], 9 boolean[], 10 long[], 11 an array of Odometers), the arrays' lengths, the reference fields, the ints, the longs. -/
abbrev Row : Type := Instr × Nat × List Nat × Int32 × Int64
abbrev Sc : Type := Nat × (Nat → Nat) × (Nat → Nat) × (Nat → Nat → Nat)
abbrev Wd : Type := Sc × (Nat → Nat → Int32) × (Nat → Nat → Int64)
abbrev Res : Type := Option Value ⊕ String
abbrev Fr : Type := Nat × List (Nat × Value) × List Value × Wd × Nat × Nat
abbrev Cal : Type := Nat → List Value → Wd → (Res → Wd → Prop) → Prop
def lkp {α : Type} : List (Nat × α) → Nat → Option α
  | [], _ => none
  | (a, x) :: t, k => match Nat.beq a k with
    | true => some x
    | false => lkp t k
theorem lkp_mem {α : Type} : ∀ (l : List (Nat × α)) (k : Nat) (x : α), lkp l k = some x → ∃ i : Nat, l[i]? = some (k, x)
  | [], _, _, h => by cases h
  | (a, y) :: t, k, x, h => by
    unfold lkp at h
    cases hb : Nat.beq a k with
    | true =>
      rw [hb] at h
      have ha : a = k := Nat.eq_of_beq_eq_true hb
      cases h
      exact ⟨0, by rw [← ha]; rfl⟩
    | false =>
      rw [hb] at h
      obtain ⟨i, hi⟩ := lkp_mem t k x h
      exact ⟨i + 1, hi⟩
def upA {α : Type} (f : Nat → α) (a : Nat) (v : α) : Nat → α := fun j => if j = a then v else f j
theorem upA_s {α : Type} (f : Nat → α) (a : Nat) (v : α) : upA f a v a = v := by simp [upA]
theorem upA_n {α : Type} (f : Nat → α) {a j : Nat} (v : α) (h : j ≠ a) : upA f a v j = f j := by simp [upA, h]
/-- a new cell of kind k and length N -/
def wAl (w : Wd) (k N : Nat) : Wd :=
  ((w.1.1 + 1, upA w.1.2.1 (w.1.1 + 1) k, upA w.1.2.2.1 (w.1.1 + 1) N, upA w.1.2.2.2 (w.1.1 + 1) (fun _ => 0)), upA w.2.1 (w.1.1 + 1) (fun _ => 0), upA w.2.2 (w.1.1 + 1) (fun _ => 0))
/-- the row of ints of cell a becomes g -/
def wI (w : Wd) (a : Nat) (g : Nat → Int32) : Wd := (w.1, upA w.2.1 a g, w.2.2)
def wJ (w : Wd) (a : Nat) (g : Nat → Int64) : Wd := (w.1, w.2.1, upA w.2.2 a g)
def wR (w : Wd) (a : Nat) (g : Nat → Nat) : Wd := ((w.1.1, w.1.2.1, w.1.2.2.1, upA w.1.2.2.2 a g), w.2.1, w.2.2)
def stI (i : Nat) (v : Value) (ls : List (Nat × Value)) : List (Nat × Value) := (i, v) :: ls.filter (fun q => !(q.1 == i) && !(q.1 + 1 == i && q.2.category == 2))
def stL (i : Nat) (v : Value) (ls : List (Nat × Value)) : List (Nat × Value) := (i, v) :: ls.filter (fun q => !(q.1 == i) && (!(q.1 == i + 1) && !(q.1 + 1 == i && q.2.category == 2)))
/-- the first n of the stack, the last pushed last -/
def popN : Nat → List Value → List Value → Option (List Value × List Value)
  | 0, st, acc => some (acc, st)
  | _ + 1, [], _ => none
  | n + 1, v :: st, acc => popN n st (v :: acc)
theorem popN_spec : ∀ (n : Nat) (st acc as rest : List Value), popN n st acc = some (as, rest) → ∃ l : List Value, l.length = n ∧ as = l ++ acc ∧ st = l.reverse ++ rest
  | 0, st, acc, as, rest, h => by
    cases h
    exact ⟨[], rfl, rfl, rfl⟩
  | n + 1, [], acc, as, rest, h => by cases h
  | n + 1, v :: st, acc, as, rest, h => by
    obtain ⟨l, h1, h2, h3⟩ := popN_spec n st (v :: acc) as rest h
    exact ⟨l ++ [v], by simp [h1], by simp [h2], by simp [h3]⟩
def catS : List Value → Nat
  | [] => 0
  | v :: t => v.category + catS t
/-- a switch: key, target, key, target .. -/
def swC (x : Int32) : List Nat → Nat → (Nat → Prop) → Prop
  | k :: t :: r, d, f => (x = Int32.ofNat k → f t) ∧ (¬ x = Int32.ofNat k → swC x r d f)
  | _, d, f => f d
/-- fields of a class -/
def nF : Nat → Nat
  | 0 => 4
  | 1 => 3
  | 2 => 17
  | 3 => 3
  | 4 => 2
  | 5 => 9
  | 6 => 5
  | 7 => 14
  | _ => 0
/-- how a field holds: 0 int, 1 reference, 2 boolean -/
def fK : Nat → Nat → Nat
  | 0, 2 => 1
  | 0, 3 => 1
  | 1, 2 => 1
  | 2, 0 => 1
  | 2, 1 => 1
  | 2, 3 => 2
  | 2, 4 => 2
  | 3, 1 => 1
  | 3, 2 => 1
  | 4, 0 => 1
  | 4, 1 => 1
  | 5, 8 => 1
  | 6, _ => 1
  | 7, 1 => 1
  | 7, 4 => 2
  | 7, 8 => 1
  | 7, 9 => 1
  | 7, 10 => 1
  | 7, 12 => 1
  | 7, 13 => 1
  | _, _ => 0
def excN : Nat → String
  | 0 => "java/lang/IllegalArgumentException"
  | 1 => "java/lang/IllegalStateException"
  | _ => "java/lang/IndexOutOfBoundsException"
/-- no reference of the frame lies behind n, up to n' -/
def frB (n n' : Nat) (st : List Value) (ls : List (Nat × Value)) : Prop := (∀ v ∈ st, ∀ x, v = .ref x → x ≤ n ∨ n' < x) ∧ ∀ q ∈ ls, ∀ x, q.2 = .ref x → x ≤ n ∨ n' < x
def pI (st : List Value) (F : Int32 → List Value → Prop) : Prop := match st with
  | .int x :: r => F x r
  | _ => False
theorem pI_s {st : List Value} {F : Int32 → List Value → Prop} (h : pI st F) : ∃ x r, st = .int x :: r ∧ F x r := by
  unfold pI at h
  split at h
  · exact ⟨_, _, rfl, h⟩
  · exact h.elim
def pL (st : List Value) (F : Int64 → List Value → Prop) : Prop := match st with
  | .long x :: r => F x r
  | _ => False
theorem pL_s {st : List Value} {F : Int64 → List Value → Prop} (h : pL st F) : ∃ x r, st = .long x :: r ∧ F x r := by
  unfold pL at h
  split at h
  · exact ⟨_, _, rfl, h⟩
  · exact h.elim
def pR (st : List Value) (F : Nat → List Value → Prop) : Prop := match st with
  | .ref x :: r => F x r
  | _ => False
theorem pR_s {st : List Value} {F : Nat → List Value → Prop} (h : pR st F) : ∃ x r, st = .ref x :: r ∧ F x r := by
  unfold pR at h
  split at h
  · exact ⟨_, _, rfl, h⟩
  · exact h.elim
def pN (st : List Value) (F : Prop) : Prop := match st with
  | [] => F
  | _ => False
theorem pN_s {st : List Value} {F : Prop} (h : pN st F) : st = [] ∧ F := by
  unfold pN at h
  split at h
  · exact ⟨rfl, h⟩
  · exact h.elim
/-- the top: an int or a reference, not looked at -/
def p1 (st : List Value) (F : Value → List Value → Prop) : Prop := match st with
  | .int x :: r => F (.int x) r
  | .ref x :: r => F (.ref x) r
  | _ => False
theorem p1_s {st : List Value} {F : Value → List Value → Prop} (h : p1 st F) : ∃ v r, st = v :: r ∧ v.category = 1 ∧ F v r := by
  unfold p1 at h
  split at h
  · exact ⟨_, _, rfl, rfl, h⟩
  · exact ⟨_, _, rfl, rfl, h⟩
  · exact h.elim
def gI (ls : List (Nat × Value)) (aux : List Nat) (F : Nat → Int32 → Prop) : Prop := match aux with
  | [i] => match lkp ls i with
    | some (.int x) => F i x
    | _ => False
  | _ => False
theorem gI_s {ls : List (Nat × Value)} {aux : List Nat} {F : Nat → Int32 → Prop} (h : gI ls aux F) : ∃ i x, aux = [i] ∧ lkp ls i = some (.int x) ∧ F i x := by
  unfold gI at h
  split at h
  · split at h
    · exact ⟨_, _, rfl, by assumption, h⟩
    · exact h.elim
  · exact h.elim
def gL (ls : List (Nat × Value)) (aux : List Nat) (F : Nat → Int64 → Prop) : Prop := match aux with
  | [i] => match lkp ls i with
    | some (.long x) => F i x
    | _ => False
  | _ => False
theorem gL_s {ls : List (Nat × Value)} {aux : List Nat} {F : Nat → Int64 → Prop} (h : gL ls aux F) : ∃ i x, aux = [i] ∧ lkp ls i = some (.long x) ∧ F i x := by
  unfold gL at h
  split at h
  · split at h
    · exact ⟨_, _, rfl, by assumption, h⟩
    · exact h.elim
  · exact h.elim
def gR (ls : List (Nat × Value)) (aux : List Nat) (F : Nat → Nat → Prop) : Prop := match aux with
  | [i] => match lkp ls i with
    | some (.ref x) => F i x
    | _ => False
  | _ => False
theorem gR_s {ls : List (Nat × Value)} {aux : List Nat} {F : Nat → Nat → Prop} (h : gR ls aux F) : ∃ i x, aux = [i] ∧ lkp ls i = some (.ref x) ∧ F i x := by
  unfold gR at h
  split at h
  · split at h
    · exact ⟨_, _, rfl, by assumption, h⟩
    · exact h.elim
  · exact h.elim
def a1 (aux : List Nat) (F : Nat → Prop) : Prop := match aux with
  | [i] => F i
  | _ => False
theorem a1_s {aux : List Nat} {F : Nat → Prop} (h : a1 aux F) : ∃ i, aux = [i] ∧ F i := by
  unfold a1 at h
  split at h
  · exact ⟨_, rfl, h⟩
  · exact h.elim
def aC (aux : List Nat) (F : Nat → List Nat → Prop) : Prop := match aux with
  | i :: r => F i r
  | _ => False
theorem aC_s {aux : List Nat} {F : Nat → List Nat → Prop} (h : aC aux F) : ∃ i r, aux = i :: r ∧ F i r := by
  unfold aC at h
  split at h
  · exact ⟨_, _, rfl, h⟩
  · exact h.elim
/-- of a field: its class, its place, how it holds -/
def aF (aux : List Nat) (F : Nat → Nat → Nat → Prop) : Prop := match aux with
  | ci :: k :: t :: _ => F ci k t
  | _ => False
theorem aF_s {aux : List Nat} {F : Nat → Nat → Nat → Prop} (h : aF aux F) : ∃ ci k t r, aux = ci :: k :: t :: r ∧ F ci k t := by
  unfold aF at h
  split at h
  · exact ⟨_, _, _, _, rfl, h⟩
  · exact h.elim
/-- a choice by a written number -/
def nI1 {α : Sort _} (n k : Nat) (a b : α) : α := match Nat.beq n k with
  | true => a
  | false => b
theorem nI1_s {n k : Nat} {a b : Prop} (h : nI1 n k a b) : (n = k ∧ a) ∨ (n ≠ k ∧ b) := by
  unfold nI1 at h
  cases hb : Nat.beq n k with
  | true =>
    rw [hb] at h
    exact Or.inl ⟨Nat.eq_of_beq_eq_true hb, h⟩
  | false =>
    rw [hb] at h
    exact Or.inr ⟨Nat.ne_of_beq_eq_false hb, h⟩
/-- the arguments of a call -/
def pA (n : Nat) (st : List Value) (F : List Value → List Value → Prop) : Prop := match popN n st [] with
  | some (as, r) => F as r
  | none => False
theorem pA_s {n : Nat} {st : List Value} {F : List Value → List Value → Prop} (h : pA n st F) : ∃ as r, as.length = n ∧ st = as.reverse ++ r ∧ F as r := by
  unfold pA at h
  split at h
  · rename_i as r hp
    obtain ⟨l, h1, h2, h3⟩ := popN_spec _ _ _ _ _ hp
    rw [List.append_nil] at h2
    subst h2
    exact ⟨_, _, h1, h3, h⟩
  · exact h.elim
def pB (as : List Value) (F : Nat → List Value → Prop) : Prop := match as with
  | .ref b :: r => F b r
  | _ => False
theorem pB_s {as : List Value} {F : Nat → List Value → Prop} (h : pB as F) : ∃ b r, as = .ref b :: r ∧ F b r := by
  unfold pB at h
  split at h
  · exact ⟨_, _, rfl, h⟩
  · exact h.elim
/-- what follows a call -/
def aftC (hn : Nat → String → Option Nat) (nx pc : Nat) (ls : List (Nat × Value)) (r : List Value) (w : Wd) (nc ns : Nat) (X : Fr → Prop) (rs : Res) (w' : Wd) : Prop := (w'.1.1 = w.1.1 ∨ frB w.1.1 w'.1.1 r ls) ∧ match rs with
  | .inl (some v) => X (nx, ls, v :: r, w', nc, ns)
  | .inl none => X (nx, ls, r, w', nc, ns)
  | .inr E => match hn pc E with
    | some h => (∀ q ∈ ls, q.2 ≠ .ref 1000000) ∧ X (h, ls, [.ref 1000000], w', nc, ns)
    | none => False
def brE (o : ClassFile.Cond) (x y : Int32) (T F : Prop) : Prop := match o with
  | .eq => (x = y → T) ∧ (¬ x = y → F)
  | .ne => (¬ x = y → T) ∧ (x = y → F)
  | .lt => (x < y → T) ∧ (¬ x < y → F)
  | .ge => (y ≤ x → T) ∧ (¬ y ≤ x → F)
  | .gt => (y < x → T) ∧ (¬ y < x → F)
  | .le => (x ≤ y → T) ∧ (¬ x ≤ y → F)
/-- the law's numbers: the script's, and behind its end others -/
def drV (xs : Nat → Int32) (L : Nat) (k : Int32) : Int32 := (if Int32.ofNat L ≤ k then 15593239 * k + 10343 else xs k.toNatClampNeg) &&& 2147483647
def drI (SX : Option (Nat × (Nat → Int32))) (a : Nat) (k : Int32) (F : Int32 → Prop) : Prop := match SX with
  | some (L, xs) => a = 1000001 ∧ ¬ k < 0 ∧ F (drV xs L k)
  | none => False
theorem drI_s {SX : Option (Nat × (Nat → Int32))} {a : Nat} {k : Int32} {F : Int32 → Prop} (h : drI SX a k F) : ∃ L xs, SX = some (L, xs) ∧ a = 1000001 ∧ ¬ k < 0 ∧ F (drV xs L k) := by
  unfold drI at h
  split at h
  · exact ⟨_, _, rfl, h⟩
  · exact h.elim
/-- what one instruction does: X is what is wanted of the next frame -/
def stepI (C : Cal) (mj : Nat → Nat × Nat) (kj : Nat → Nat) (nj : Nat → Nat) (SX : Option (Nat × (Nat → Int32))) (mxc mxs : Nat) (hn : Nat → String → Option Nat) (Rt : Option Value → Wd → Nat → Nat → Prop) (Th : String → Wd → Nat → Nat → Prop)
    (ins : Instr) (nx : Nat) (aux : List Nat) (kc : Int32) (kl : Int64) (pc : Nat) (ls : List (Nat × Value)) (st : List Value) (w : Wd) (nc ns : Nat) (X : Fr → Prop) : Prop :=
  match ins with
  | .iconst _ => X (nx, ls, .int kc :: st, w, nc, ns)
  | .bipush _ => X (nx, ls, .int kc :: st, w, nc, ns)
  | .sipush _ => X (nx, ls, .int kc :: st, w, nc, ns)
  | .ldc _ => X (nx, ls, .int kc :: st, w, nc, ns)
  | .ldc_w _ => X (nx, ls, .int kc :: st, w, nc, ns)
  | .lconst _ => X (nx, ls, .long kl :: st, w, nc, ns)
  | .ldc2_w _ => X (nx, ls, .long kl :: st, w, nc, ns)
  | .iload_n _ => gI ls aux (fun _ x => X (nx, ls, .int x :: st, w, nc, ns))
  | .iload _ => gI ls aux (fun _ x => X (nx, ls, .int x :: st, w, nc, ns))
  | .lload_n _ => gL ls aux (fun _ x => X (nx, ls, .long x :: st, w, nc, ns))
  | .lload _ => gL ls aux (fun _ x => X (nx, ls, .long x :: st, w, nc, ns))
  | .aload_n _ => gR ls aux (fun _ x => X (nx, ls, .ref x :: st, w, nc, ns))
  | .aload _ => gR ls aux (fun _ x => X (nx, ls, .ref x :: st, w, nc, ns))
  | .istore_n _ => a1 aux (fun i => pI st (fun x r => X (nx, stI i (.int x) ls, r, w, nc, ns)))
  | .istore _ => a1 aux (fun i => pI st (fun x r => X (nx, stI i (.int x) ls, r, w, nc, ns)))
  | .lstore_n _ => a1 aux (fun i => pL st (fun x r => X (nx, stL i (.long x) ls, r, w, nc, ns)))
  | .lstore _ => a1 aux (fun i => pL st (fun x r => X (nx, stL i (.long x) ls, r, w, nc, ns)))
  | .astore_n _ => a1 aux (fun i => pR st (fun x r => X (nx, stI i (.ref x) ls, r, w, nc, ns)))
  | .astore _ => a1 aux (fun i => pR st (fun x r => X (nx, stI i (.ref x) ls, r, w, nc, ns)))
  | .iinc _ _ => gI ls aux (fun i x => X (nx, stI i (.int (x + kc)) ls, st, w, nc, ns))
  | .iadd => pI st (fun y r1 => pI r1 (fun x r => X (nx, ls, .int (x + y) :: r, w, nc, ns)))
  | .isub => pI st (fun y r1 => pI r1 (fun x r => X (nx, ls, .int (x - y) :: r, w, nc, ns)))
  | .imul => pI st (fun y r1 => pI r1 (fun x r => X (nx, ls, .int (x * y) :: r, w, nc, ns)))
  | .ishr => pI st (fun y r1 => pI r1 (fun x r => X (nx, ls, .int (x >>> (y &&& 31)) :: r, w, nc, ns)))
  | .iand => pI st (fun y r1 => pI r1 (fun x r => X (nx, ls, .int (x &&& y) :: r, w, nc, ns)))
  | .idiv => pI st (fun y r1 => pI r1 (fun x r => (¬ y = 0) ∧ X (nx, ls, .int (x / y) :: r, w, nc, ns)))
  | .irem => pI st (fun y r1 => pI r1 (fun x r => (¬ y = 0) ∧ X (nx, ls, .int (x - x / y * y) :: r, w, nc, ns)))
  | .ladd => pL st (fun y r1 => pL r1 (fun x r => X (nx, ls, .long (x + y) :: r, w, nc, ns)))
  | .lsub => pL st (fun y r1 => pL r1 (fun x r => X (nx, ls, .long (x - y) :: r, w, nc, ns)))
  | .lmul => pL st (fun y r1 => pL r1 (fun x r => X (nx, ls, .long (x * y) :: r, w, nc, ns)))
  | .land => pL st (fun y r1 => pL r1 (fun x r => X (nx, ls, .long (x &&& y) :: r, w, nc, ns)))
  | .lor => pL st (fun y r1 => pL r1 (fun x r => X (nx, ls, .long (x ||| y) :: r, w, nc, ns)))
  | .ldiv => pL st (fun y r1 => pL r1 (fun x r => (¬ y = 0) ∧ X (nx, ls, .long (x / y) :: r, w, nc, ns)))
  | .lrem => pL st (fun y r1 => pL r1 (fun x r => (¬ y = 0) ∧ X (nx, ls, .long (x - x / y * y) :: r, w, nc, ns)))
  | .lushr => pI st (fun y r1 => pL r1 (fun x r => X (nx, ls, .long (x.toUInt64 >>> (y.toInt64.toUInt64 &&& Int64.toUInt64 63)).toInt64 :: r, w, nc, ns)))
  | .lshl => pI st (fun y r1 => pL r1 (fun x r => X (nx, ls, .long (x <<< (y.toInt64 &&& 63)) :: r, w, nc, ns)))
  | .i2l => pI st (fun x r => X (nx, ls, .long x.toInt64 :: r, w, nc, ns))
  | .l2i => pL st (fun x r => X (nx, ls, .int x.toInt32 :: r, w, nc, ns))
  | .lcmp => pL st (fun y r1 => pL r1 (fun x r => X (nx, ls, .int (lg_cmp x y) :: r, w, nc, ns)))
  | .dup => p1 st (fun v r => X (nx, ls, v :: v :: r, w, nc, ns))
  | .dup2 => p1 st (fun v r1 => p1 r1 (fun u r => X (nx, ls, v :: u :: v :: u :: r, w, nc, ns)))
  | .pop => p1 st (fun _ r => X (nx, ls, r, w, nc, ns))
  | .ifCond o _ => a1 aux (fun t => pI st (fun x r => brE o x 0 (X (t, ls, r, w, nc, ns)) (X (nx, ls, r, w, nc, ns))))
  | .if_icmp o _ => a1 aux (fun t => pI st (fun y r1 => pI r1 (fun x r => brE o x y (X (t, ls, r, w, nc, ns)) (X (nx, ls, r, w, nc, ns)))))
  | .goto _ => a1 aux (fun t => X (t, ls, st, w, nc, ns))
  | .ifnull _ => a1 aux (fun t => pR st (fun x r => (x = 0 → X (t, ls, r, w, nc, ns)) ∧ (¬ x = 0 → X (nx, ls, r, w, nc, ns))))
  | .tableswitch _ _ _ _ => aC aux (fun d ks => pI st (fun x r => swC x ks d (fun t => X (t, ls, r, w, nc, ns))))
  | .lookupswitch _ _ => aC aux (fun d ks => pI st (fun x r => swC x ks d (fun t => X (t, ls, r, w, nc, ns))))
  | .getfield _ => aF aux (fun ci k t => pR st (fun a r => w.1.2.1 a = ci ∧ nI1 t 1 (X (nx, ls, .ref (w.1.2.2.2 a k) :: r, w, nc, ns)) (X (nx, ls, .int (w.2.1 a k) :: r, w, nc, ns))))
  | .putfield _ => aF aux (fun ci k t => nI1 t 1 (pR st (fun x r1 => pR r1 (fun a r => w.1.2.1 a = ci ∧ x ≤ w.1.1 ∧ X (nx, ls, r, wR w a (upA (w.1.2.2.2 a) k x), nc, ns)))) (pI st (fun x r1 => pR r1 (fun a r => w.1.2.1 a = ci ∧ nI1 t 2 (x = 0 ∨ x = 1) True ∧ X (nx, ls, r, wI w a (upd (w.2.1 a) k x), nc, ns)))))
  | .iaload => pI st (fun i r1 => pR r1 (fun a r => match SX with
    | some (L, xs) => nI1 a 1000001 (vp_in i L ∧ X (nx, ls, .int (xs i.toNatClampNeg) :: r, w, nc, ns)) (w.1.2.1 a = 8 ∧ vp_in i (w.1.2.2.1 a) ∧ X (nx, ls, .int (w.2.1 a i.toNatClampNeg) :: r, w, nc, ns))
    | none => w.1.2.1 a = 8 ∧ vp_in i (w.1.2.2.1 a) ∧ X (nx, ls, .int (w.2.1 a i.toNatClampNeg) :: r, w, nc, ns)))
  | .iastore => pI st (fun x r2 => pI r2 (fun i r1 => pR r1 (fun a r => w.1.2.1 a = 8 ∧ vp_in i (w.1.2.2.1 a) ∧ X (nx, ls, r, wI w a (upd (w.2.1 a) i.toNatClampNeg x), nc, ns))))
  | .baload => pI st (fun i r1 => pR r1 (fun a r => w.1.2.1 a = 9 ∧ vp_in i (w.1.2.2.1 a) ∧ X (nx, ls, .int (w.2.1 a i.toNatClampNeg) :: r, w, nc, ns)))
  | .bastore => pI st (fun x r2 => pI r2 (fun i r1 => pR r1 (fun a r => w.1.2.1 a = 9 ∧ vp_in i (w.1.2.2.1 a) ∧ X (nx, ls, r, wI w a (upd (w.2.1 a) i.toNatClampNeg (vp_nar .boolean x)), nc, ns))))
  | .aaload => pI st (fun i r1 => pR r1 (fun a r => w.1.2.1 a = 11 ∧ vp_in i (w.1.2.2.1 a) ∧ X (nx, ls, .ref (w.1.2.2.2 a i.toNatClampNeg) :: r, w, nc, ns)))
  | .aastore => pR st (fun x r2 => pI r2 (fun i r1 => pR r1 (fun a r => w.1.2.1 a = 11 ∧ w.1.2.1 x = 2 ∧ vp_in i (w.1.2.2.1 a) ∧ X (nx, ls, r, wR w a (upA (w.1.2.2.2 a) i.toNatClampNeg x), nc, ns))))
  | .arraylength => pR st (fun a r => match SX with
    | some (L, _) => nI1 a 1000001 (X (nx, ls, .int (Int32.ofNat L) :: r, w, nc, ns)) (w.1.2.1 a = 8 ∧ X (nx, ls, .int (Int32.ofNat (w.1.2.2.1 a)) :: r, w, nc, ns))
    | none => (8 ≤ w.1.2.1 a ∧ w.1.2.1 a ≤ 11) ∧ X (nx, ls, .int (Int32.ofNat (w.1.2.2.1 a)) :: r, w, nc, ns))
  | .newarray _ => aC aux (fun k _ => pI st (fun n r => (¬ n < 0 ∧ n.toNatClampNeg ≤ 2000 ∧ nc + 1 ≤ mxc ∧ ns + n.toNatClampNeg ≤ mxs ∧ w.1.1 + 1 < 1000000 ∧ frB w.1.1 (w.1.1 + 1) r ls) ∧ X (nx, ls, .ref (w.1.1 + 1) :: r, wAl w k n.toNatClampNeg, nc + 1, ns + n.toNatClampNeg)))
  | .anewarray _ => pI st (fun n r => (¬ n < 0 ∧ n.toNatClampNeg ≤ 2000 ∧ nc + 1 ≤ mxc ∧ ns + n.toNatClampNeg ≤ mxs ∧ w.1.1 + 1 < 1000000 ∧ frB w.1.1 (w.1.1 + 1) r ls) ∧ X (nx, ls, .ref (w.1.1 + 1) :: r, wAl w 11 n.toNatClampNeg, nc + 1, ns + n.toNatClampNeg))
  | .new _ => aC aux (fun t r => aC r (fun ci _ => nI1 t 0 ((nc + 1 ≤ mxc ∧ ns + nF ci ≤ mxs ∧ w.1.1 + 1 < 1000000 ∧ frB w.1.1 (w.1.1 + 1) st ls) ∧ X (nx, ls, .ref (w.1.1 + 1) :: st, wAl w ci 0, nc + 1, ns + nF ci)) (catS st ≤ 8 ∧ Th (excN ci) w nc ns)))
  | .invokespecial _ => aC aux (fun t q => nI1 t 0 (pR st (fun a r => 1 ≤ a ∧ catS r ≤ 8 ∧ X (nx, ls, r, w, nc, ns))) (aC q (fun j _ => pA (nj j + 1) st (fun ba r => pB ba (fun b as => (catS r ≤ 8 ∧ nc + (mj j).1 ≤ mxc ∧ ns + (mj j).2 ≤ mxs) ∧ w.1.2.1 b = kj j ∧ ∃ P : Res → Wd → Prop, C j (.ref b :: as) w P ∧ ∀ (rs : Res) (w' : Wd), P rs w' → aftC hn nx pc ls r w (nc + (mj j).1) (ns + (mj j).2) X rs w')))))
  | .invokevirtual _ => aC aux (fun j _ => pA (nj j + 1) st (fun ba r => pB ba (fun b as => (catS r ≤ 8 ∧ nc + (mj j).1 ≤ mxc ∧ ns + (mj j).2 ≤ mxs) ∧ w.1.2.1 b = kj j ∧ ∃ P : Res → Wd → Prop, C j (.ref b :: as) w P ∧ ∀ (rs : Res) (w' : Wd), P rs w' → aftC hn nx pc ls r w (nc + (mj j).1) (ns + (mj j).2) X rs w')))
  | .invokestatic _ => aC aux (fun t q => nI1 t 1 (pI st (fun y r1 => pI r1 (fun x r => (catS r ≤ 8 ∧ nc ≤ mxc ∧ ns ≤ mxs) ∧ X (nx, ls, .int (if y < x then y else x) :: r, w, nc, ns))))
      (nI1 t 2 (pI st (fun y r1 => pI r1 (fun x r => (catS r ≤ 8 ∧ nc ≤ mxc ∧ ns ≤ mxs) ∧ X (nx, ls, .int (if x < y then y else x) :: r, w, nc, ns))))
      (nI1 t 3 (pI st (fun n r4 => pI r4 (fun dp r3 => pR r3 (fun a r2 => pI r2 (fun sp r1 => pR r1 (fun a0 r => (catS r ≤ 8 ∧ w.1.2.1 a0 = 8 ∧ w.1.2.1 a = 8 ∧ ¬ sp < 0 ∧ ¬ dp < 0 ∧ ¬ n < 0 ∧ sp.toNatClampNeg + n.toNatClampNeg ≤ w.1.2.2.1 a0 ∧ dp.toNatClampNeg + n.toNatClampNeg ≤ w.1.2.2.1 a) ∧
        X (nx, ls, r, wI w a (va_cpy (w.2.1 a0) (w.2.1 a) sp.toNatClampNeg dp.toNatClampNeg n.toNatClampNeg), nc, ns)))))))
      (nI1 t 5 (pI st (fun k r1 => pR r1 (fun a r => drI SX a k (fun v => (catS r ≤ 8 ∧ nc ≤ mxc ∧ ns ≤ mxs) ∧ X (nx, ls, .int v :: r, w, nc, ns)))))
      (aC q (fun j _ => pA (nj j) st (fun as r => (catS r ≤ 8 ∧ nc + (mj j).1 ≤ mxc ∧ ns + (mj j).2 ≤ mxs) ∧ ∃ P : Res → Wd → Prop, C j as w P ∧ ∀ (rs : Res) (w' : Wd), P rs w' → aftC hn nx pc ls r w (nc + (mj j).1) (ns + (mj j).2) X rs w')))))))
  | .ireturn => pI st (fun x r => pN r (Rt (some (.int x)) w nc ns))
  | .lreturn => pL st (fun x r => pN r (Rt (some (.long x)) w nc ns))
  | .return_ => pN st (Rt none w nc ns)
  | _ => False
end
section
/-! tables of the methods: written by wip/whole/gen.py -/
/-- OdometerRing$Cells.<init>()V -/
def cd0 : List (Nat × Row) := [(0, .aload_n 0, 1, [0], 0, 0),
  (1, .invokespecial 3, 4, [0, 86, 31, 32], 0, 0),
  (4, .aload_n 0, 5, [0], 0, 0),
  (5, .bipush 36, 7, [], 36, 0),
  (7, .newarray .int, 9, [8, 74], 0, 0),
  (9, .putfield 9, 12, [0, 2, 1, 1, 92], 0, 0),
  (12, .aload_n 0, 13, [0], 0, 0),
  (13, .bipush 36, 15, [], 36, 0),
  (15, .newarray .int, 17, [8, 74], 0, 0),
  (17, .putfield 15, 20, [0, 3, 1, 1, 93], 0, 0),
  (20, .return_, 21, [], 0, 0)]
/-- OdometerRing$Cells.makeNew(II)V -/
def cd1 : List (Nat × Row) := [(0, .aload_n 0, 1, [0], 0, 0),
  (1, .iload_n 1, 2, [1], 0, 0),
  (2, .bipush 12, 4, [], 12, 0),
  (4, .invokestatic 18, 7, [1, 129, 130, 15, 131], 0, 0),
  (7, .putfield 24, 10, [0, 0, 0, 0, 87], 0, 0),
  (10, .aload_n 0, 11, [0], 0, 0),
  (11, .iload_n 2, 12, [2], 0, 0),
  (12, .putfield 28, 15, [0, 1, 0, 0, 90], 0, 0),
  (15, .iconst 0, 16, [], 0, 0),
  (16, .istore_n 3, 17, [3], 0, 0),
  (17, .iload_n 3, 18, [3], 0, 0),
  (18, .bipush 12, 20, [], 12, 0),
  (20, .if_icmp .ge 15, 23, [35], 0, 0),
  (23, .aload_n 0, 24, [0], 0, 0),
  (24, .iload_n 3, 25, [3], 0, 0),
  (25, .invokevirtual 31, 28, [12, 132, 133, 134, 13, 135], 0, 0),
  (28, .pop, 29, [], 0, 0),
  (29, .iinc 3 1, 32, [3], 1, 0),
  (32, .goto (-15), 35, [17], 0, 0),
  (35, .return_, 36, [], 0, 0)]
/-- OdometerRing$Cells.becomeLike(LOdometerRing$Cells;)V -/
def cd2 : List (Nat × Row) := [(0, .aload_n 0, 1, [0], 0, 0),
  (1, .aload_n 1, 2, [1], 0, 0),
  (2, .getfield 24, 5, [0, 0, 0, 87], 0, 0),
  (5, .putfield 24, 8, [0, 0, 0, 0, 87], 0, 0),
  (8, .aload_n 0, 9, [0], 0, 0),
  (9, .aload_n 1, 10, [1], 0, 0),
  (10, .getfield 28, 13, [0, 1, 0, 90], 0, 0),
  (13, .putfield 28, 16, [0, 1, 0, 0, 90], 0, 0),
  (16, .aload_n 1, 17, [1], 0, 0),
  (17, .getfield 9, 20, [0, 2, 1, 92], 0, 0),
  (20, .iconst 0, 21, [], 0, 0),
  (21, .aload_n 0, 22, [0], 0, 0),
  (22, .getfield 9, 25, [0, 2, 1, 92], 0, 0),
  (25, .iconst 0, 26, [], 0, 0),
  (26, .aload_n 1, 27, [1], 0, 0),
  (27, .getfield 9, 30, [0, 2, 1, 92], 0, 0),
  (30, .arraylength, 31, [], 0, 0),
  (31, .aload_n 0, 32, [0], 0, 0),
  (32, .getfield 9, 35, [0, 2, 1, 92], 0, 0),
  (35, .arraylength, 36, [], 0, 0),
  (36, .invokestatic 18, 39, [1, 129, 130, 15, 131], 0, 0),
  (39, .invokestatic 35, 42, [3, 520, 522, 521, 24], 0, 0),
  (42, .aload_n 1, 43, [1], 0, 0),
  (43, .getfield 15, 46, [0, 3, 1, 93], 0, 0),
  (46, .iconst 0, 47, [], 0, 0),
  (47, .aload_n 0, 48, [0], 0, 0),
  (48, .getfield 15, 51, [0, 3, 1, 93], 0, 0),
  (51, .iconst 0, 52, [], 0, 0),
  (52, .aload_n 1, 53, [1], 0, 0),
  (53, .getfield 15, 56, [0, 3, 1, 93], 0, 0),
  (56, .arraylength, 57, [], 0, 0),
  (57, .aload_n 0, 58, [0], 0, 0),
  (58, .getfield 15, 61, [0, 3, 1, 93], 0, 0),
  (61, .arraylength, 62, [], 0, 0),
  (62, .invokestatic 18, 65, [1, 129, 130, 15, 131], 0, 0),
  (65, .invokestatic 35, 68, [3, 520, 522, 521, 24], 0, 0),
  (68, .return_, 69, [], 0, 0)]
/-- OdometerRing$Cells.hasSlot(I)Z -/
def cd3 : List (Nat × Row) := [(0, .iload_n 1, 1, [1], 0, 0),
  (1, .ifCond .lt 15, 4, [16], 0, 0),
  (4, .iload_n 1, 5, [1], 0, 0),
  (5, .aload_n 0, 6, [0], 0, 0),
  (6, .getfield 24, 9, [0, 0, 0, 87], 0, 0),
  (9, .if_icmp .ge 7, 12, [16], 0, 0),
  (12, .iconst 1, 13, [], 1, 0),
  (13, .goto 4, 16, [17], 0, 0),
  (16, .iconst 0, 17, [], 0, 0),
  (17, .ireturn, 18, [], 0, 0)]
/-- OdometerRing$Cells.slotBehind(I)I -/
def cd4 : List (Nat × Row) := [(0, .iload_n 1, 1, [1], 0, 0),
  (1, .iconst 1, 2, [], 1, 0),
  (2, .iadd, 3, [], 0, 0),
  (3, .aload_n 0, 4, [0], 0, 0),
  (4, .getfield 24, 7, [0, 0, 0, 87], 0, 0),
  (7, .if_icmp .ge 9, 10, [16], 0, 0),
  (10, .iload_n 1, 11, [1], 0, 0),
  (11, .iconst 1, 12, [], 1, 0),
  (12, .iadd, 13, [], 0, 0),
  (13, .goto 4, 16, [17], 0, 0),
  (16, .iconst 0, 17, [], 0, 0),
  (17, .ireturn, 18, [], 0, 0)]
/-- OdometerRing$Cells.numberIn(II)I -/
def cd5 : List (Nat × Row) := [(0, .iload_n 1, 1, [1], 0, 0),
  (1, .iconst 3, 2, [], 3, 0),
  (2, .imul, 3, [], 0, 0),
  (3, .iload_n 2, 4, [2], 0, 0),
  (4, .iadd, 5, [], 0, 0),
  (5, .istore_n 3, 6, [3], 0, 0),
  (6, .iload_n 3, 7, [3], 0, 0),
  (7, .ifCond .lt 21, 10, [28], 0, 0),
  (10, .iload_n 3, 11, [3], 0, 0),
  (11, .aload_n 0, 12, [0], 0, 0),
  (12, .getfield 9, 15, [0, 2, 1, 92], 0, 0),
  (15, .arraylength, 16, [], 0, 0),
  (16, .if_icmp .ge 12, 19, [28], 0, 0),
  (19, .aload_n 0, 20, [0], 0, 0),
  (20, .getfield 9, 23, [0, 2, 1, 92], 0, 0),
  (23, .iload_n 3, 24, [3], 0, 0),
  (24, .iaload, 25, [], 0, 0),
  (25, .goto 5, 28, [30], 0, 0),
  (28, .ldc 41, 30, [402], (-99999), 0),
  (30, .ireturn, 31, [], 0, 0)]
/-- OdometerRing$Cells.wearOf(II)I -/
def cd6 : List (Nat × Row) := [(0, .iload_n 1, 1, [1], 0, 0),
  (1, .iconst 3, 2, [], 3, 0),
  (2, .imul, 3, [], 0, 0),
  (3, .iload_n 2, 4, [2], 0, 0),
  (4, .iadd, 5, [], 0, 0),
  (5, .istore_n 3, 6, [3], 0, 0),
  (6, .iload_n 3, 7, [3], 0, 0),
  (7, .ifCond .lt 21, 10, [28], 0, 0),
  (10, .iload_n 3, 11, [3], 0, 0),
  (11, .aload_n 0, 12, [0], 0, 0),
  (12, .getfield 15, 15, [0, 3, 1, 93], 0, 0),
  (15, .arraylength, 16, [], 0, 0),
  (16, .if_icmp .ge 12, 19, [28], 0, 0),
  (19, .aload_n 0, 20, [0], 0, 0),
  (20, .getfield 15, 23, [0, 3, 1, 93], 0, 0),
  (23, .iload_n 3, 24, [3], 0, 0),
  (24, .iaload, 25, [], 0, 0),
  (25, .goto 4, 28, [29], 0, 0),
  (28, .iconst 0, 29, [], 0, 0),
  (29, .ireturn, 30, [], 0, 0)]
/-- OdometerRing$Cells.isStuck(II)Z -/
def cd7 : List (Nat × Row) := [(0, .aload_n 0, 1, [0], 0, 0),
  (1, .iload_n 1, 2, [1], 0, 0),
  (2, .iload_n 2, 3, [2], 0, 0),
  (3, .invokevirtual 42, 6, [6, 590, 591, 592, 13, 593], 0, 0),
  (6, .aload_n 0, 7, [0], 0, 0),
  (7, .getfield 28, 10, [0, 1, 0, 90], 0, 0),
  (10, .if_icmp .lt 7, 13, [17], 0, 0),
  (13, .iconst 1, 14, [], 1, 0),
  (14, .goto 4, 17, [18], 0, 0),
  (17, .iconst 0, 18, [], 0, 0),
  (18, .ireturn, 19, [], 0, 0)]
/-- OdometerRing$Cells.wearOfSlot(I)I -/
def cd8 : List (Nat × Row) := [(0, .aload_n 0, 1, [0], 0, 0),
  (1, .iload_n 1, 2, [1], 0, 0),
  (2, .iconst 0, 3, [], 0, 0),
  (3, .invokevirtual 42, 6, [6, 590, 591, 592, 13, 593], 0, 0),
  (6, .aload_n 0, 7, [0], 0, 0),
  (7, .iload_n 1, 8, [1], 0, 0),
  (8, .iconst 1, 9, [], 1, 0),
  (9, .invokevirtual 42, 12, [6, 590, 591, 592, 13, 593], 0, 0),
  (12, .iadd, 13, [], 0, 0),
  (13, .aload_n 0, 14, [0], 0, 0),
  (14, .iload_n 1, 15, [1], 0, 0),
  (15, .iconst 2, 16, [], 2, 0),
  (16, .invokevirtual 42, 19, [6, 590, 591, 592, 13, 593], 0, 0),
  (19, .iadd, 20, [], 0, 0),
  (20, .ireturn, 21, [], 0, 0)]
/-- OdometerRing$Cells.spokenBy(I)I -/
def cd9 : List (Nat × Row) := [(0, .aload_n 0, 1, [0], 0, 0),
  (1, .iload_n 1, 2, [1], 0, 0),
  (2, .iconst 0, 3, [], 0, 0),
  (3, .invokevirtual 45, 6, [5, 420, 399, 400, 13, 401], 0, 0),
  (6, .istore_n 2, 7, [2], 0, 0),
  (7, .aload_n 0, 8, [0], 0, 0),
  (8, .iload_n 1, 9, [1], 0, 0),
  (9, .iconst 1, 10, [], 1, 0),
  (10, .invokevirtual 45, 13, [5, 420, 399, 400, 13, 401], 0, 0),
  (13, .istore_n 3, 14, [3], 0, 0),
  (14, .aload_n 0, 15, [0], 0, 0),
  (15, .iload_n 1, 16, [1], 0, 0),
  (16, .iconst 2, 17, [], 2, 0),
  (17, .invokevirtual 45, 20, [5, 420, 399, 400, 13, 401], 0, 0),
  (20, .istore 4, 22, [4], 0, 0),
  (22, .iload_n 2, 23, [2], 0, 0),
  (23, .iload_n 3, 24, [3], 0, 0),
  (24, .if_icmp .eq 9, 27, [33], 0, 0),
  (27, .iload_n 2, 28, [2], 0, 0),
  (28, .iload 4, 30, [4], 0, 0),
  (30, .if_icmp .ne 7, 33, [37], 0, 0),
  (33, .iload_n 2, 34, [2], 0, 0),
  (34, .goto 15, 37, [49], 0, 0),
  (37, .iload_n 3, 38, [3], 0, 0),
  (38, .iload 4, 40, [4], 0, 0),
  (40, .if_icmp .ne 7, 43, [47], 0, 0),
  (43, .iload_n 3, 44, [3], 0, 0),
  (44, .goto 5, 47, [49], 0, 0),
  (47, .ldc 41, 49, [402], (-99999), 0),
  (49, .ireturn, 50, [], 0, 0)]
/-- OdometerRing$Cells.readableIn(I)I -/
def cd10 : List (Nat × Row) := [(0, .iconst 0, 1, [], 0, 0),
  (1, .istore_n 2, 2, [2], 0, 0),
  (2, .iconst 0, 3, [], 0, 0),
  (3, .istore_n 3, 4, [3], 0, 0),
  (4, .iload_n 3, 5, [3], 0, 0),
  (5, .iconst 3, 6, [], 3, 0),
  (6, .if_icmp .ge 23, 9, [29], 0, 0),
  (9, .aload_n 0, 10, [0], 0, 0),
  (10, .iload_n 1, 11, [1], 0, 0),
  (11, .iload_n 3, 12, [3], 0, 0),
  (12, .invokevirtual 45, 15, [5, 420, 399, 400, 13, 401], 0, 0),
  (15, .ldc 41, 17, [402], (-99999), 0),
  (17, .if_icmp .eq 6, 20, [23], 0, 0),
  (20, .iinc 2 1, 23, [2], 1, 0),
  (23, .iinc 3 1, 26, [3], 1, 0),
  (26, .goto (-22), 29, [4], 0, 0),
  (29, .iload_n 2, 30, [2], 0, 0),
  (30, .ireturn, 31, [], 0, 0)]
/-- OdometerRing$Cells.write(III)V -/
def cd11 : List (Nat × Row) := [(0, .iload_n 1, 1, [1], 0, 0),
  (1, .iconst 3, 2, [], 3, 0),
  (2, .imul, 3, [], 0, 0),
  (3, .iload_n 2, 4, [2], 0, 0),
  (4, .iadd, 5, [], 0, 0),
  (5, .istore 4, 7, [4], 0, 0),
  (7, .iload 4, 9, [4], 0, 0),
  (9, .ifCond .lt 37, 12, [46], 0, 0),
  (12, .iload 4, 14, [4], 0, 0),
  (14, .aload_n 0, 15, [0], 0, 0),
  (15, .getfield 9, 18, [0, 2, 1, 92], 0, 0),
  (18, .arraylength, 19, [], 0, 0),
  (19, .if_icmp .ge 27, 22, [46], 0, 0),
  (22, .iload 4, 24, [4], 0, 0),
  (24, .aload_n 0, 25, [0], 0, 0),
  (25, .getfield 15, 28, [0, 3, 1, 93], 0, 0),
  (28, .arraylength, 29, [], 0, 0),
  (29, .if_icmp .ge 17, 32, [46], 0, 0),
  (32, .aload_n 0, 33, [0], 0, 0),
  (33, .getfield 15, 36, [0, 3, 1, 93], 0, 0),
  (36, .iload 4, 38, [4], 0, 0),
  (38, .iaload, 39, [], 0, 0),
  (39, .aload_n 0, 40, [0], 0, 0),
  (40, .getfield 28, 43, [0, 1, 0, 90], 0, 0),
  (43, .if_icmp .lt 4, 46, [47], 0, 0),
  (46, .return_, 47, [], 0, 0),
  (47, .aload_n 0, 48, [0], 0, 0),
  (48, .getfield 15, 51, [0, 3, 1, 93], 0, 0),
  (51, .iload 4, 53, [4], 0, 0),
  (53, .dup2, 54, [], 0, 0),
  (54, .iaload, 55, [], 0, 0),
  (55, .iconst 1, 56, [], 1, 0),
  (56, .iadd, 57, [], 0, 0),
  (57, .iastore, 58, [], 0, 0),
  (58, .aload_n 0, 59, [0], 0, 0),
  (59, .getfield 9, 62, [0, 2, 1, 92], 0, 0),
  (62, .iload 4, 64, [4], 0, 0),
  (64, .iload_n 3, 65, [3], 0, 0),
  (65, .iastore, 66, [], 0, 0),
  (66, .return_, 67, [], 0, 0)]
/-- OdometerRing$Cells.renew(I)I -/
def cd12 : List (Nat × Row) := [(0, .iconst 0, 1, [], 0, 0),
  (1, .istore_n 2, 2, [2], 0, 0),
  (2, .iconst 0, 3, [], 0, 0),
  (3, .istore_n 3, 4, [3], 0, 0),
  (4, .iload_n 3, 5, [3], 0, 0),
  (5, .iconst 3, 6, [], 3, 0),
  (6, .if_icmp .ge 67, 9, [73], 0, 0),
  (9, .iload_n 1, 10, [1], 0, 0),
  (10, .iconst 3, 11, [], 3, 0),
  (11, .imul, 12, [], 0, 0),
  (12, .iload_n 3, 13, [3], 0, 0),
  (13, .iadd, 14, [], 0, 0),
  (14, .istore 4, 16, [4], 0, 0),
  (16, .iload 4, 18, [4], 0, 0),
  (18, .ifCond .lt 49, 21, [67], 0, 0),
  (21, .iload 4, 23, [4], 0, 0),
  (23, .aload_n 0, 24, [0], 0, 0),
  (24, .getfield 9, 27, [0, 2, 1, 92], 0, 0),
  (27, .arraylength, 28, [], 0, 0),
  (28, .if_icmp .ge 39, 31, [67], 0, 0),
  (31, .iload 4, 33, [4], 0, 0),
  (33, .aload_n 0, 34, [0], 0, 0),
  (34, .getfield 15, 37, [0, 3, 1, 93], 0, 0),
  (37, .arraylength, 38, [], 0, 0),
  (38, .if_icmp .ge 29, 41, [67], 0, 0),
  (41, .iload_n 2, 42, [2], 0, 0),
  (42, .aload_n 0, 43, [0], 0, 0),
  (43, .getfield 15, 46, [0, 3, 1, 93], 0, 0),
  (46, .iload 4, 48, [4], 0, 0),
  (48, .iaload, 49, [], 0, 0),
  (49, .iadd, 50, [], 0, 0),
  (50, .istore_n 2, 51, [2], 0, 0),
  (51, .aload_n 0, 52, [0], 0, 0),
  (52, .getfield 15, 55, [0, 3, 1, 93], 0, 0),
  (55, .iload 4, 57, [4], 0, 0),
  (57, .iconst 0, 58, [], 0, 0),
  (58, .iastore, 59, [], 0, 0),
  (59, .aload_n 0, 60, [0], 0, 0),
  (60, .getfield 9, 63, [0, 2, 1, 92], 0, 0),
  (63, .iload 4, 65, [4], 0, 0),
  (65, .iconst 0, 66, [], 0, 0),
  (66, .iastore, 67, [], 0, 0),
  (67, .iinc 3 1, 70, [3], 1, 0),
  (70, .goto (-66), 73, [4], 0, 0),
  (73, .iload_n 2, 74, [2], 0, 0),
  (74, .ireturn, 75, [], 0, 0)]
/-- OdometerRing$Cells.wearGap()I -/
def cd13 : List (Nat × Row) := [(0, .iconst 0, 1, [], 0, 0),
  (1, .istore_n 1, 2, [1], 0, 0),
  (2, .sipush 999, 5, [], 999, 0),
  (5, .istore_n 2, 6, [2], 0, 0),
  (6, .iconst 0, 7, [], 0, 0),
  (7, .istore_n 3, 8, [3], 0, 0),
  (8, .iload_n 3, 9, [3], 0, 0),
  (9, .aload_n 0, 10, [0], 0, 0),
  (10, .getfield 24, 13, [0, 0, 0, 87], 0, 0),
  (13, .if_icmp .ge 48, 16, [61], 0, 0),
  (16, .iconst 0, 17, [], 0, 0),
  (17, .istore 4, 19, [4], 0, 0),
  (19, .iload 4, 21, [4], 0, 0),
  (21, .iconst 3, 22, [], 3, 0),
  (22, .if_icmp .ge 33, 25, [55], 0, 0),
  (25, .iload_n 1, 26, [1], 0, 0),
  (26, .aload_n 0, 27, [0], 0, 0),
  (27, .iload_n 3, 28, [3], 0, 0),
  (28, .iload 4, 30, [4], 0, 0),
  (30, .invokevirtual 42, 33, [6, 590, 591, 592, 13, 593], 0, 0),
  (33, .invokestatic 48, 36, [2, 594, 214, 15, 215], 0, 0),
  (36, .istore_n 1, 37, [1], 0, 0),
  (37, .iload_n 2, 38, [2], 0, 0),
  (38, .aload_n 0, 39, [0], 0, 0),
  (39, .iload_n 3, 40, [3], 0, 0),
  (40, .iload 4, 42, [4], 0, 0),
  (42, .invokevirtual 42, 45, [6, 590, 591, 592, 13, 593], 0, 0),
  (45, .invokestatic 18, 48, [1, 129, 130, 15, 131], 0, 0),
  (48, .istore_n 2, 49, [2], 0, 0),
  (49, .iinc 4 1, 52, [4], 1, 0),
  (52, .goto (-33), 55, [19], 0, 0),
  (55, .iinc 3 1, 58, [3], 1, 0),
  (58, .goto (-50), 61, [8], 0, 0),
  (61, .iload_n 1, 62, [1], 0, 0),
  (62, .iload_n 2, 63, [2], 0, 0),
  (63, .isub, 64, [], 0, 0),
  (64, .ireturn, 65, [], 0, 0)]
/-- OdometerRing$Cells.slotOfGreatest()I -/
def cd14 : List (Nat × Row) := [(0, .ldc 41, 2, [402], (-99999), 0),
  (2, .istore_n 1, 3, [1], 0, 0),
  (3, .ldc 41, 5, [402], (-99999), 0),
  (5, .istore_n 2, 6, [2], 0, 0),
  (6, .iconst 0, 7, [], 0, 0),
  (7, .istore_n 3, 8, [3], 0, 0),
  (8, .iload_n 3, 9, [3], 0, 0),
  (9, .aload_n 0, 10, [0], 0, 0),
  (10, .getfield 24, 13, [0, 0, 0, 87], 0, 0),
  (13, .if_icmp .ge 26, 16, [39], 0, 0),
  (16, .aload_n 0, 17, [0], 0, 0),
  (17, .iload_n 3, 18, [3], 0, 0),
  (18, .invokevirtual 51, 21, [9, 436, 417, 418, 13, 419], 0, 0),
  (21, .iload_n 2, 22, [2], 0, 0),
  (22, .if_icmp .le 11, 25, [33], 0, 0),
  (25, .aload_n 0, 26, [0], 0, 0),
  (26, .iload_n 3, 27, [3], 0, 0),
  (27, .invokevirtual 51, 30, [9, 436, 417, 418, 13, 419], 0, 0),
  (30, .istore_n 2, 31, [2], 0, 0),
  (31, .iload_n 3, 32, [3], 0, 0),
  (32, .istore_n 1, 33, [1], 0, 0),
  (33, .iinc 3 1, 36, [3], 1, 0),
  (36, .goto (-28), 39, [8], 0, 0),
  (39, .iload_n 1, 40, [1], 0, 0),
  (40, .ireturn, 41, [], 0, 0)]
/-- OdometerRing$History.<init>()V -/
def cd15 : List (Nat × Row) := [(0, .aload_n 0, 1, [0], 0, 0),
  (1, .invokespecial 3, 4, [0, 206, 31, 32], 0, 0),
  (4, .aload_n 0, 5, [0], 0, 0),
  (5, .new 9, 8, [0, 4, 207, 208, 17], 0, 0),
  (8, .dup, 9, [], 0, 0),
  (9, .bipush 14, 11, [], 14, 0),
  (11, .invokespecial 11, 14, [1, 48, 210, 17, 211, 209], 0, 0),
  (14, .putfield 14, 17, [1, 2, 1, 1, 230], 0, 0),
  (17, .return_, 18, [], 0, 0)]
/-- OdometerRing$History.remember(LOdometerRing$Odometer;)V -/
def cd16 : List (Nat × Row) := [(0, .aload_n 0, 1, [0], 0, 0),
  (1, .getfield 14, 4, [1, 2, 1, 230], 0, 0),
  (4, .aload_n 0, 5, [0], 0, 0),
  (5, .getfield 20, 8, [1, 1, 0, 229], 0, 0),
  (8, .aload_n 1, 9, [1], 0, 0),
  (9, .invokevirtual 24, 12, [51, 680, 509, 510, 17, 511], 0, 0),
  (12, .aload_n 0, 13, [0], 0, 0),
  (13, .aload_n 0, 14, [0], 0, 0),
  (14, .getfield 20, 17, [1, 1, 0, 229], 0, 0),
  (17, .iconst 1, 18, [], 1, 0),
  (18, .iadd, 19, [], 0, 0),
  (19, .bipush 14, 21, [], 14, 0),
  (21, .irem, 22, [], 0, 0),
  (22, .putfield 20, 25, [1, 1, 0, 0, 229], 0, 0),
  (25, .aload_n 0, 26, [0], 0, 0),
  (26, .aload_n 0, 27, [0], 0, 0),
  (27, .getfield 28, 30, [1, 0, 0, 227], 0, 0),
  (30, .iconst 1, 31, [], 1, 0),
  (31, .iadd, 32, [], 0, 0),
  (32, .bipush 14, 34, [], 14, 0),
  (34, .invokestatic 31, 37, [1, 681, 130, 15, 131], 0, 0),
  (37, .putfield 28, 40, [1, 0, 0, 0, 227], 0, 0),
  (40, .return_, 41, [], 0, 0)]
/-- OdometerRing$History.takeBack(LOdometerRing$Odometer;)I -/
def cd17 : List (Nat × Row) := [(0, .aload_n 0, 1, [0], 0, 0),
  (1, .aload_n 0, 2, [0], 0, 0),
  (2, .getfield 20, 5, [1, 1, 0, 229], 0, 0),
  (5, .bipush 14, 7, [], 14, 0),
  (7, .iadd, 8, [], 0, 0),
  (8, .iconst 1, 9, [], 1, 0),
  (9, .isub, 10, [], 0, 0),
  (10, .bipush 14, 12, [], 14, 0),
  (12, .irem, 13, [], 0, 0),
  (13, .putfield 20, 16, [1, 1, 0, 0, 229], 0, 0),
  (16, .aload_n 0, 17, [0], 0, 0),
  (17, .getfield 14, 20, [1, 2, 1, 230], 0, 0),
  (20, .aload_n 0, 21, [0], 0, 0),
  (21, .getfield 20, 24, [1, 1, 0, 229], 0, 0),
  (24, .aload_n 1, 25, [1], 0, 0),
  (25, .invokevirtual 37, 28, [52, 872, 543, 544, 17, 545], 0, 0),
  (28, .aload_n 0, 29, [0], 0, 0),
  (29, .dup, 30, [], 0, 0),
  (30, .getfield 28, 33, [1, 0, 0, 227], 0, 0),
  (33, .iconst 1, 34, [], 1, 0),
  (34, .isub, 35, [], 0, 0),
  (35, .putfield 28, 38, [1, 0, 0, 0, 227], 0, 0),
  (38, .aload_n 0, 39, [0], 0, 0),
  (39, .getfield 28, 42, [1, 0, 0, 227], 0, 0),
  (42, .ireturn, 43, [], 0, 0)]
/-- OdometerRing$History.forgetAll()V -/
def cd18 : List (Nat × Row) := [(0, .aload_n 0, 1, [0], 0, 0),
  (1, .iconst 0, 2, [], 0, 0),
  (2, .putfield 28, 5, [1, 0, 0, 0, 227], 0, 0),
  (5, .return_, 6, [], 0, 0)]
/-- OdometerRing$Odometer.<init>()V -/
def cd19 : List (Nat × Row) := [(0, .aload_n 0, 1, [0], 0, 0),
  (1, .invokespecial 3, 4, [0, 80, 31, 32], 0, 0),
  (4, .aload_n 0, 5, [0], 0, 0),
  (5, .new 9, 8, [0, 0, 81, 82, 13], 0, 0),
  (8, .dup, 9, [], 0, 0),
  (9, .invokespecial 11, 12, [2, 0, 84, 13, 85, 1], 0, 0),
  (12, .putfield 12, 15, [2, 0, 1, 1, 137], 0, 0),
  (15, .aload_n 0, 16, [0], 0, 0),
  (16, .new 18, 19, [0, 3, 103, 104, 14], 0, 0),
  (19, .dup, 20, [], 0, 0),
  (20, .invokespecial 20, 23, [2, 38, 106, 14, 107, 2], 0, 0),
  (23, .putfield 21, 26, [2, 1, 1, 1, 139], 0, 0),
  (26, .aload_n 0, 27, [0], 0, 0),
  (27, .iconst 4, 28, [], 4, 0),
  (28, .bipush 10, 30, [], 10, 0),
  (30, .bipush 100, 32, [], 100, 0),
  (32, .invokevirtual 25, 35, [20, 121, 122, 123, 12, 124], 0, 0),
  (35, .return_, 36, [], 0, 0)]
/-- OdometerRing$Odometer.makeNew(III)V -/
def cd20 : List (Nat × Row) := [(0, .aload_n 0, 1, [0], 0, 0),
  (1, .getfield 12, 4, [2, 0, 1, 137], 0, 0),
  (4, .iload_n 1, 5, [1], 0, 0),
  (5, .iload_n 3, 6, [3], 0, 0),
  (6, .invokevirtual 29, 9, [1, 125, 126, 127, 13, 128], 0, 0),
  (9, .aload_n 0, 10, [0], 0, 0),
  (10, .getfield 21, 13, [2, 1, 1, 139], 0, 0),
  (13, .iconst 0, 14, [], 0, 0),
  (14, .putfield 32, 17, [3, 0, 0, 0, 110], 0, 0),
  (17, .aload_n 0, 18, [0], 0, 0),
  (18, .iload_n 2, 19, [2], 0, 0),
  (19, .putfield 36, 22, [2, 2, 0, 0, 141], 0, 0),
  (22, .aload_n 0, 23, [0], 0, 0),
  (23, .iconst 1, 24, [], 1, 0),
  (24, .putfield 39, 27, [2, 3, 2, 0, 143], 0, 0),
  (27, .aload_n 0, 28, [0], 0, 0),
  (28, .iconst 0, 29, [], 0, 0),
  (29, .putfield 43, 32, [2, 4, 2, 0, 145], 0, 0),
  (32, .aload_n 0, 33, [0], 0, 0),
  (33, .iconst 0, 34, [], 0, 0),
  (34, .putfield 46, 37, [2, 5, 0, 0, 147], 0, 0),
  (37, .aload_n 0, 38, [0], 0, 0),
  (38, .iconst 0, 39, [], 0, 0),
  (39, .putfield 49, 42, [2, 6, 0, 0, 149], 0, 0),
  (42, .aload_n 0, 43, [0], 0, 0),
  (43, .iconst 0, 44, [], 0, 0),
  (44, .putfield 52, 47, [2, 7, 0, 0, 150], 0, 0),
  (47, .aload_n 0, 48, [0], 0, 0),
  (48, .iconst 0, 49, [], 0, 0),
  (49, .putfield 55, 52, [2, 8, 0, 0, 151], 0, 0),
  (52, .aload_n 0, 53, [0], 0, 0),
  (53, .iconst 0, 54, [], 0, 0),
  (54, .putfield 58, 57, [2, 9, 0, 0, 153], 0, 0),
  (57, .aload_n 0, 58, [0], 0, 0),
  (58, .iconst 0, 59, [], 0, 0),
  (59, .putfield 61, 62, [2, 10, 0, 0, 154], 0, 0),
  (62, .aload_n 0, 63, [0], 0, 0),
  (63, .iconst 0, 64, [], 0, 0),
  (64, .putfield 64, 67, [2, 11, 0, 0, 155], 0, 0),
  (67, .aload_n 0, 68, [0], 0, 0),
  (68, .ldc 67, 70, [136], (-99999), 0),
  (70, .putfield 68, 73, [2, 12, 0, 0, 157], 0, 0),
  (73, .aload_n 0, 74, [0], 0, 0),
  (74, .ldc 67, 76, [136], (-99999), 0),
  (76, .putfield 71, 79, [2, 13, 0, 0, 158], 0, 0),
  (79, .aload_n 0, 80, [0], 0, 0),
  (80, .ldc 67, 82, [136], (-99999), 0),
  (82, .putfield 74, 85, [2, 14, 0, 0, 160], 0, 0),
  (85, .aload_n 0, 86, [0], 0, 0),
  (86, .ldc 67, 88, [136], (-99999), 0),
  (88, .putfield 77, 91, [2, 15, 0, 0, 162], 0, 0),
  (91, .aload_n 0, 92, [0], 0, 0),
  (92, .ldc 67, 94, [136], (-99999), 0),
  (94, .putfield 80, 97, [2, 16, 0, 0, 164], 0, 0),
  (97, .return_, 98, [], 0, 0)]
/-- OdometerRing$Odometer.becomeLike(LOdometerRing$Odometer;)V -/
def cd21 : List (Nat × Row) := [(0, .aload_n 0, 1, [0], 0, 0),
  (1, .getfield 12, 4, [2, 0, 1, 137], 0, 0),
  (4, .aload_n 1, 5, [1], 0, 0),
  (5, .getfield 12, 8, [2, 0, 1, 137], 0, 0),
  (8, .invokevirtual 83, 11, [2, 516, 517, 518, 13, 519], 0, 0),
  (11, .aload_n 0, 12, [0], 0, 0),
  (12, .getfield 21, 15, [2, 1, 1, 139], 0, 0),
  (15, .aload_n 1, 16, [1], 0, 0),
  (16, .getfield 21, 19, [2, 1, 1, 139], 0, 0),
  (19, .invokevirtual 87, 22, [39, 523, 524, 525, 14, 526], 0, 0),
  (22, .aload_n 0, 23, [0], 0, 0),
  (23, .aload_n 1, 24, [1], 0, 0),
  (24, .getfield 36, 27, [2, 2, 0, 141], 0, 0),
  (27, .putfield 36, 30, [2, 2, 0, 0, 141], 0, 0),
  (30, .aload_n 0, 31, [0], 0, 0),
  (31, .aload_n 1, 32, [1], 0, 0),
  (32, .getfield 39, 35, [2, 3, 2, 143], 0, 0),
  (35, .putfield 39, 38, [2, 3, 2, 0, 143], 0, 0),
  (38, .aload_n 0, 39, [0], 0, 0),
  (39, .aload_n 1, 40, [1], 0, 0),
  (40, .getfield 43, 43, [2, 4, 2, 145], 0, 0),
  (43, .putfield 43, 46, [2, 4, 2, 0, 145], 0, 0),
  (46, .aload_n 0, 47, [0], 0, 0),
  (47, .aload_n 1, 48, [1], 0, 0),
  (48, .getfield 46, 51, [2, 5, 0, 147], 0, 0),
  (51, .putfield 46, 54, [2, 5, 0, 0, 147], 0, 0),
  (54, .aload_n 0, 55, [0], 0, 0),
  (55, .aload_n 1, 56, [1], 0, 0),
  (56, .getfield 49, 59, [2, 6, 0, 149], 0, 0),
  (59, .putfield 49, 62, [2, 6, 0, 0, 149], 0, 0),
  (62, .aload_n 0, 63, [0], 0, 0),
  (63, .aload_n 1, 64, [1], 0, 0),
  (64, .getfield 52, 67, [2, 7, 0, 150], 0, 0),
  (67, .putfield 52, 70, [2, 7, 0, 0, 150], 0, 0),
  (70, .aload_n 0, 71, [0], 0, 0),
  (71, .aload_n 1, 72, [1], 0, 0),
  (72, .getfield 55, 75, [2, 8, 0, 151], 0, 0),
  (75, .putfield 55, 78, [2, 8, 0, 0, 151], 0, 0),
  (78, .aload_n 0, 79, [0], 0, 0),
  (79, .aload_n 1, 80, [1], 0, 0),
  (80, .getfield 58, 83, [2, 9, 0, 153], 0, 0),
  (83, .putfield 58, 86, [2, 9, 0, 0, 153], 0, 0),
  (86, .aload_n 0, 87, [0], 0, 0),
  (87, .aload_n 1, 88, [1], 0, 0),
  (88, .getfield 61, 91, [2, 10, 0, 154], 0, 0),
  (91, .putfield 61, 94, [2, 10, 0, 0, 154], 0, 0),
  (94, .aload_n 0, 95, [0], 0, 0),
  (95, .aload_n 1, 96, [1], 0, 0),
  (96, .getfield 64, 99, [2, 11, 0, 155], 0, 0),
  (99, .putfield 64, 102, [2, 11, 0, 0, 155], 0, 0),
  (102, .aload_n 0, 103, [0], 0, 0),
  (103, .aload_n 1, 104, [1], 0, 0),
  (104, .getfield 68, 107, [2, 12, 0, 157], 0, 0),
  (107, .putfield 68, 110, [2, 12, 0, 0, 157], 0, 0),
  (110, .aload_n 0, 111, [0], 0, 0),
  (111, .aload_n 1, 112, [1], 0, 0),
  (112, .getfield 71, 115, [2, 13, 0, 158], 0, 0),
  (115, .putfield 71, 118, [2, 13, 0, 0, 158], 0, 0),
  (118, .aload_n 0, 119, [0], 0, 0),
  (119, .aload_n 1, 120, [1], 0, 0),
  (120, .getfield 74, 123, [2, 14, 0, 160], 0, 0),
  (123, .putfield 74, 126, [2, 14, 0, 0, 160], 0, 0),
  (126, .aload_n 0, 127, [0], 0, 0),
  (127, .aload_n 1, 128, [1], 0, 0),
  (128, .getfield 77, 131, [2, 15, 0, 162], 0, 0),
  (131, .putfield 77, 134, [2, 15, 0, 0, 162], 0, 0),
  (134, .aload_n 0, 135, [0], 0, 0),
  (135, .aload_n 1, 136, [1], 0, 0),
  (136, .getfield 80, 139, [2, 16, 0, 164], 0, 0),
  (139, .putfield 80, 142, [2, 16, 0, 0, 164], 0, 0),
  (142, .return_, 143, [], 0, 0)]
/-- OdometerRing$Odometer.tellOfDriving(I)I -/
def cd22 : List (Nat × Row) := [(0, .iload_n 1, 1, [1], 0, 0),
  (1, .tableswitch 137 0 7 #[47, 55, 60, 68, 81, 98, 103, 120], 48, [138, 0, 48, 1, 56, 2, 61, 3, 69, 4, 82, 5, 99, 6, 104, 7, 121], 0, 0),
  (48, .aload_n 0, 49, [0], 0, 0),
  (49, .getfield 12, 52, [2, 0, 1, 137], 0, 0),
  (52, .getfield 90, 55, [0, 0, 0, 88], 0, 0),
  (55, .ireturn, 56, [], 0, 0),
  (56, .aload_n 0, 57, [0], 0, 0),
  (57, .getfield 36, 60, [2, 2, 0, 141], 0, 0),
  (60, .ireturn, 61, [], 0, 0),
  (61, .aload_n 0, 62, [0], 0, 0),
  (62, .getfield 12, 65, [2, 0, 1, 137], 0, 0),
  (65, .getfield 93, 68, [0, 1, 0, 91], 0, 0),
  (68, .ireturn, 69, [], 0, 0),
  (69, .aload_n 0, 70, [0], 0, 0),
  (70, .getfield 39, 73, [2, 3, 2, 143], 0, 0),
  (73, .ifCond .eq 7, 76, [80], 0, 0),
  (76, .iconst 1, 77, [], 1, 0),
  (77, .goto 4, 80, [81], 0, 0),
  (80, .iconst 0, 81, [], 0, 0),
  (81, .ireturn, 82, [], 0, 0),
  (82, .aload_n 0, 83, [0], 0, 0),
  (83, .getfield 39, 86, [2, 3, 2, 143], 0, 0),
  (86, .ifCond .eq 10, 89, [96], 0, 0),
  (89, .aload_n 0, 90, [0], 0, 0),
  (90, .getfield 46, 93, [2, 5, 0, 147], 0, 0),
  (93, .goto 5, 96, [98], 0, 0),
  (96, .ldc 67, 98, [136], (-99999), 0),
  (98, .ireturn, 99, [], 0, 0),
  (99, .aload_n 0, 100, [0], 0, 0),
  (100, .getfield 55, 103, [2, 8, 0, 151], 0, 0),
  (103, .ireturn, 104, [], 0, 0),
  (104, .aload_n 0, 105, [0], 0, 0),
  (105, .getfield 39, 108, [2, 3, 2, 143], 0, 0),
  (108, .ifCond .eq 10, 111, [118], 0, 0),
  (111, .aload_n 0, 112, [0], 0, 0),
  (112, .getfield 49, 115, [2, 6, 0, 149], 0, 0),
  (115, .goto 5, 118, [120], 0, 0),
  (118, .ldc 67, 120, [136], (-99999), 0),
  (120, .ireturn, 121, [], 0, 0),
  (121, .aload_n 0, 122, [0], 0, 0),
  (122, .getfield 39, 125, [2, 3, 2, 143], 0, 0),
  (125, .ifCond .eq 10, 128, [135], 0, 0),
  (128, .aload_n 0, 129, [0], 0, 0),
  (129, .getfield 52, 132, [2, 7, 0, 150], 0, 0),
  (132, .goto 5, 135, [137], 0, 0),
  (135, .ldc 67, 137, [136], (-99999), 0),
  (137, .ireturn, 138, [], 0, 0),
  (138, .ldc 67, 140, [136], (-99999), 0),
  (140, .ireturn, 141, [], 0, 0)]
/-- OdometerRing$Odometer.tellOfMemory(I)I -/
def cd23 : List (Nat × Row) := [(0, .iload_n 1, 1, [1], 0, 0),
  (1, .tableswitch 111 8 14 #[43, 48, 53, 58, 75, 95, 103], 44, [112, 8, 44, 9, 49, 10, 54, 11, 59, 12, 76, 13, 96, 14, 104], 0, 0),
  (44, .aload_n 0, 45, [0], 0, 0),
  (45, .getfield 58, 48, [2, 9, 0, 153], 0, 0),
  (48, .ireturn, 49, [], 0, 0),
  (49, .aload_n 0, 50, [0], 0, 0),
  (50, .getfield 61, 53, [2, 10, 0, 154], 0, 0),
  (53, .ireturn, 54, [], 0, 0),
  (54, .aload_n 0, 55, [0], 0, 0),
  (55, .getfield 64, 58, [2, 11, 0, 155], 0, 0),
  (58, .ireturn, 59, [], 0, 0),
  (59, .aload_n 0, 60, [0], 0, 0),
  (60, .getfield 64, 63, [2, 11, 0, 155], 0, 0),
  (63, .ifCond .ne 8, 66, [71], 0, 0),
  (66, .ldc 67, 68, [136], (-99999), 0),
  (68, .goto 7, 71, [75], 0, 0),
  (71, .aload_n 0, 72, [0], 0, 0),
  (72, .getfield 68, 75, [2, 12, 0, 157], 0, 0),
  (75, .ireturn, 76, [], 0, 0),
  (76, .aload_n 0, 77, [0], 0, 0),
  (77, .getfield 39, 80, [2, 3, 2, 143], 0, 0),
  (80, .ifCond .eq 14, 83, [94], 0, 0),
  (83, .aload_n 0, 84, [0], 0, 0),
  (84, .getfield 43, 87, [2, 4, 2, 145], 0, 0),
  (87, .ifCond .eq 7, 90, [94], 0, 0),
  (90, .iconst 1, 91, [], 1, 0),
  (91, .goto 4, 94, [95], 0, 0),
  (94, .iconst 0, 95, [], 0, 0),
  (95, .ireturn, 96, [], 0, 0),
  (96, .aload_n 0, 97, [0], 0, 0),
  (97, .getfield 12, 100, [2, 0, 1, 137], 0, 0),
  (100, .invokevirtual 96, 103, [13, 586, 587, 588, 13, 589], 0, 0),
  (103, .ireturn, 104, [], 0, 0),
  (104, .aload_n 0, 105, [0], 0, 0),
  (105, .getfield 21, 108, [2, 1, 1, 139], 0, 0),
  (108, .getfield 32, 111, [3, 0, 0, 110], 0, 0),
  (111, .ireturn, 112, [], 0, 0),
  (112, .ldc 67, 114, [136], (-99999), 0),
  (114, .ireturn, 115, [], 0, 0)]
/-- OdometerRing$Odometer.driveOn(I)I -/
def cd24 : List (Nat × Row) := [(0, .iconst 0, 1, [], 0, 0),
  (1, .istore_n 2, 2, [2], 0, 0),
  (2, .iload_n 2, 3, [2], 0, 0),
  (3, .iload_n 1, 4, [1], 0, 0),
  (4, .if_icmp .ge 63, 7, [67], 0, 0),
  (7, .aload_n 0, 8, [0], 0, 0),
  (8, .getfield 39, 11, [2, 3, 2, 143], 0, 0),
  (11, .ifCond .eq 56, 14, [67], 0, 0),
  (14, .iinc 2 1, 17, [2], 1, 0),
  (17, .aload_n 0, 18, [0], 0, 0),
  (18, .dup, 19, [], 0, 0),
  (19, .getfield 55, 22, [2, 8, 0, 151], 0, 0),
  (22, .iconst 1, 23, [], 1, 0),
  (23, .iadd, 24, [], 0, 0),
  (24, .putfield 55, 27, [2, 8, 0, 0, 151], 0, 0),
  (27, .aload_n 0, 28, [0], 0, 0),
  (28, .dup, 29, [], 0, 0),
  (29, .getfield 46, 32, [2, 5, 0, 147], 0, 0),
  (32, .iconst 1, 33, [], 1, 0),
  (33, .iadd, 34, [], 0, 0),
  (34, .putfield 46, 37, [2, 5, 0, 0, 147], 0, 0),
  (37, .aload_n 0, 38, [0], 0, 0),
  (38, .getfield 43, 41, [2, 4, 2, 145], 0, 0),
  (41, .ifCond .ne (-39), 44, [2], 0, 0),
  (44, .aload_n 0, 45, [0], 0, 0),
  (45, .getfield 46, 48, [2, 5, 0, 147], 0, 0),
  (48, .aload_n 0, 49, [0], 0, 0),
  (49, .getfield 49, 52, [2, 6, 0, 149], 0, 0),
  (52, .aload_n 0, 53, [0], 0, 0),
  (53, .getfield 36, 56, [2, 2, 0, 141], 0, 0),
  (56, .iadd, 57, [], 0, 0),
  (57, .if_icmp .lt (-55), 60, [2], 0, 0),
  (60, .aload_n 0, 61, [0], 0, 0),
  (61, .invokevirtual 100, 64, [26, 386, 387, 388, 12, 389], 0, 0),
  (64, .goto (-62), 67, [2], 0, 0),
  (67, .iload_n 2, 68, [2], 0, 0),
  (68, .ireturn, 69, [], 0, 0)]
/-- OdometerRing$Odometer.driveTillDead()I -/
def cd25 : List (Nat × Row) := [(0, .iconst 0, 1, [], 0, 0),
  (1, .istore_n 1, 2, [1], 0, 0),
  (2, .iload_n 1, 3, [1], 0, 0),
  (3, .sipush 9999, 6, [], 9999, 0),
  (6, .if_icmp .gt 50, 9, [56], 0, 0),
  (9, .aload_n 0, 10, [0], 0, 0),
  (10, .getfield 43, 13, [2, 4, 2, 145], 0, 0),
  (13, .ifCond .ne 43, 16, [56], 0, 0),
  (16, .iconst 1, 17, [], 1, 0),
  (17, .aload_n 0, 18, [0], 0, 0),
  (18, .getfield 49, 21, [2, 6, 0, 149], 0, 0),
  (21, .aload_n 0, 22, [0], 0, 0),
  (22, .getfield 36, 25, [2, 2, 0, 141], 0, 0),
  (25, .iadd, 26, [], 0, 0),
  (26, .aload_n 0, 27, [0], 0, 0),
  (27, .getfield 46, 30, [2, 5, 0, 147], 0, 0),
  (30, .isub, 31, [], 0, 0),
  (31, .invokestatic 103, 34, [2, 415, 214, 15, 215], 0, 0),
  (34, .istore_n 2, 35, [2], 0, 0),
  (35, .iload_n 1, 36, [1], 0, 0),
  (36, .iload_n 2, 37, [2], 0, 0),
  (37, .iadd, 38, [], 0, 0),
  (38, .istore_n 1, 39, [1], 0, 0),
  (39, .aload_n 0, 40, [0], 0, 0),
  (40, .dup, 41, [], 0, 0),
  (41, .getfield 46, 44, [2, 5, 0, 147], 0, 0),
  (44, .iload_n 2, 45, [2], 0, 0),
  (45, .iadd, 46, [], 0, 0),
  (46, .putfield 46, 49, [2, 5, 0, 0, 147], 0, 0),
  (49, .aload_n 0, 50, [0], 0, 0),
  (50, .invokevirtual 100, 53, [26, 386, 387, 388, 12, 389], 0, 0),
  (53, .goto (-51), 56, [2], 0, 0),
  (56, .iload_n 1, 57, [1], 0, 0),
  (57, .sipush 9999, 60, [], 9999, 0),
  (60, .if_icmp .gt 7, 63, [67], 0, 0),
  (63, .iload_n 1, 64, [1], 0, 0),
  (64, .goto 5, 67, [69], 0, 0),
  (67, .ldc 67, 69, [136], (-99999), 0),
  (69, .ireturn, 70, [], 0, 0)]
/-- OdometerRing$Odometer.storeDistance()V -/
def cd26 : List (Nat × Row) := [(0, .aload_n 0, 1, [0], 0, 0),
  (1, .getfield 52, 4, [2, 7, 0, 150], 0, 0),
  (4, .istore_n 1, 5, [1], 0, 0),
  (5, .iconst 0, 6, [], 0, 0),
  (6, .istore_n 2, 7, [2], 0, 0),
  (7, .iload_n 2, 8, [2], 0, 0),
  (8, .aload_n 0, 9, [0], 0, 0),
  (9, .getfield 12, 12, [2, 0, 1, 137], 0, 0),
  (12, .getfield 90, 15, [0, 0, 0, 88], 0, 0),
  (15, .iconst 1, 16, [], 1, 0),
  (16, .isub, 17, [], 0, 0),
  (17, .if_icmp .ge 61, 20, [78], 0, 0),
  (20, .aload_n 0, 21, [0], 0, 0),
  (21, .getfield 12, 24, [2, 0, 1, 137], 0, 0),
  (24, .iload_n 1, 25, [1], 0, 0),
  (25, .invokevirtual 109, 28, [4, 390, 391, 392, 13, 393], 0, 0),
  (28, .istore_n 1, 29, [1], 0, 0),
  (29, .aload_n 0, 30, [0], 0, 0),
  (30, .iload_n 1, 31, [1], 0, 0),
  (31, .iload_n 2, 32, [2], 0, 0),
  (32, .invokevirtual 113, 35, [27, 394, 396, 3, 12, 397], 0, 0),
  (35, .aload_n 0, 36, [0], 0, 0),
  (36, .getfield 39, 39, [2, 3, 2, 143], 0, 0),
  (39, .ifCond .ne 4, 42, [43], 0, 0),
  (42, .return_, 43, [], 0, 0),
  (43, .aload_n 0, 44, [0], 0, 0),
  (44, .getfield 12, 47, [2, 0, 1, 137], 0, 0),
  (47, .iload_n 1, 48, [1], 0, 0),
  (48, .invokevirtual 116, 51, [9, 416, 417, 418, 13, 419], 0, 0),
  (51, .aload_n 0, 52, [0], 0, 0),
  (52, .getfield 46, 55, [2, 5, 0, 147], 0, 0),
  (55, .if_icmp .ne 17, 58, [72], 0, 0),
  (58, .aload_n 0, 59, [0], 0, 0),
  (59, .iload_n 1, 60, [1], 0, 0),
  (60, .putfield 52, 63, [2, 7, 0, 0, 150], 0, 0),
  (63, .aload_n 0, 64, [0], 0, 0),
  (64, .aload_n 0, 65, [0], 0, 0),
  (65, .getfield 46, 68, [2, 5, 0, 147], 0, 0),
  (68, .putfield 49, 71, [2, 6, 0, 0, 149], 0, 0),
  (71, .return_, 72, [], 0, 0),
  (72, .iinc 2 1, 75, [2], 1, 0),
  (75, .goto (-68), 78, [7], 0, 0),
  (78, .aload_n 0, 79, [0], 0, 0),
  (79, .iconst 1, 80, [], 1, 0),
  (80, .putfield 43, 83, [2, 4, 2, 0, 145], 0, 0),
  (83, .return_, 84, [], 0, 0)]
/-- OdometerRing$Odometer.writeSlot(II)V -/
def cd27 : List (Nat × Row) := [(0, .iconst 0, 1, [], 0, 0),
  (1, .istore_n 3, 2, [3], 0, 0),
  (2, .iload_n 3, 3, [3], 0, 0),
  (3, .iconst 3, 4, [], 3, 0),
  (4, .if_icmp .ge 93, 7, [97], 0, 0),
  (7, .aload_n 0, 8, [0], 0, 0),
  (8, .getfield 39, 11, [2, 3, 2, 143], 0, 0),
  (11, .ifCond .eq 86, 14, [97], 0, 0),
  (14, .aload_n 0, 15, [0], 0, 0),
  (15, .dup, 16, [], 0, 0),
  (16, .getfield 58, 19, [2, 9, 0, 153], 0, 0),
  (19, .iconst 1, 20, [], 1, 0),
  (20, .iadd, 21, [], 0, 0),
  (21, .putfield 58, 24, [2, 9, 0, 0, 153], 0, 0),
  (24, .aload_n 0, 25, [0], 0, 0),
  (25, .getfield 64, 28, [2, 11, 0, 155], 0, 0),
  (28, .iconst 1, 29, [], 1, 0),
  (29, .if_icmp .ne 35, 32, [64], 0, 0),
  (32, .aload_n 0, 33, [0], 0, 0),
  (33, .getfield 12, 36, [2, 0, 1, 137], 0, 0),
  (36, .iload_n 1, 37, [1], 0, 0),
  (37, .iload_n 3, 38, [3], 0, 0),
  (38, .aload_n 0, 39, [0], 0, 0),
  (39, .aload_n 0, 40, [0], 0, 0),
  (40, .getfield 12, 43, [2, 0, 1, 137], 0, 0),
  (43, .iload_n 1, 44, [1], 0, 0),
  (44, .iload_n 3, 45, [3], 0, 0),
  (45, .invokevirtual 119, 48, [5, 398, 399, 400, 13, 401], 0, 0),
  (48, .invokevirtual 122, 51, [28, 403, 405, 4, 12, 406], 0, 0),
  (51, .invokevirtual 125, 54, [11, 407, 408, 409, 13, 410], 0, 0),
  (54, .aload_n 0, 55, [0], 0, 0),
  (55, .iload_n 1, 56, [1], 0, 0),
  (56, .iload_n 3, 57, [3], 0, 0),
  (57, .iload_n 2, 58, [2], 0, 0),
  (58, .invokevirtual 128, 61, [29, 411, 413, 5, 12, 414], 0, 0),
  (61, .goto 30, 64, [91], 0, 0),
  (64, .aload_n 0, 65, [0], 0, 0),
  (65, .iconst 0, 66, [], 0, 0),
  (66, .aload_n 0, 67, [0], 0, 0),
  (67, .getfield 64, 70, [2, 11, 0, 155], 0, 0),
  (70, .iconst 1, 71, [], 1, 0),
  (71, .isub, 72, [], 0, 0),
  (72, .invokestatic 103, 75, [2, 415, 214, 15, 215], 0, 0),
  (75, .putfield 64, 78, [2, 11, 0, 0, 155], 0, 0),
  (78, .aload_n 0, 79, [0], 0, 0),
  (79, .getfield 12, 82, [2, 0, 1, 137], 0, 0),
  (82, .iload_n 1, 83, [1], 0, 0),
  (83, .iload_n 3, 84, [3], 0, 0),
  (84, .aload_n 0, 85, [0], 0, 0),
  (85, .getfield 46, 88, [2, 5, 0, 147], 0, 0),
  (88, .invokevirtual 125, 91, [11, 407, 408, 409, 13, 410], 0, 0),
  (91, .iinc 3 1, 94, [3], 1, 0),
  (94, .goto (-92), 97, [2], 0, 0),
  (97, .return_, 98, [], 0, 0)]
/-- OdometerRing$Odometer.leftByCut(I)I -/
def cd28 : List (Nat × Row) := [(0, .aload_n 0, 1, [0], 0, 0),
  (1, .getfield 68, 4, [2, 12, 0, 157], 0, 0),
  (4, .ifCond .ne 5, 7, [9], 0, 0),
  (7, .iload_n 1, 8, [1], 0, 0),
  (8, .ireturn, 9, [], 0, 0),
  (9, .aload_n 0, 10, [0], 0, 0),
  (10, .getfield 68, 13, [2, 12, 0, 157], 0, 0),
  (13, .iconst 1, 14, [], 1, 0),
  (14, .if_icmp .ne 8, 17, [22], 0, 0),
  (17, .ldc 67, 19, [136], (-99999), 0),
  (19, .goto 13, 22, [32], 0, 0),
  (22, .aload_n 0, 23, [0], 0, 0),
  (23, .getfield 46, 26, [2, 5, 0, 147], 0, 0),
  (26, .bipush 100, 28, [], 100, 0),
  (28, .idiv, 29, [], 0, 0),
  (29, .bipush 100, 31, [], 100, 0),
  (31, .imul, 32, [], 0, 0),
  (32, .ireturn, 33, [], 0, 0)]
/-- OdometerRing$Odometer.losePower(III)V -/
def cd29 : List (Nat × Row) := [(0, .aload_n 0, 1, [0], 0, 0),
  (1, .iconst 0, 2, [], 0, 0),
  (2, .putfield 39, 5, [2, 3, 2, 0, 143], 0, 0),
  (5, .aload_n 0, 6, [0], 0, 0),
  (6, .iload_n 1, 7, [1], 0, 0),
  (7, .putfield 71, 10, [2, 13, 0, 0, 158], 0, 0),
  (10, .aload_n 0, 11, [0], 0, 0),
  (11, .iload_n 2, 12, [2], 0, 0),
  (12, .putfield 74, 15, [2, 14, 0, 0, 160], 0, 0),
  (15, .aload_n 0, 16, [0], 0, 0),
  (16, .aload_n 0, 17, [0], 0, 0),
  (17, .getfield 68, 20, [2, 12, 0, 157], 0, 0),
  (20, .putfield 77, 23, [2, 15, 0, 0, 162], 0, 0),
  (23, .aload_n 0, 24, [0], 0, 0),
  (24, .iload_n 3, 25, [3], 0, 0),
  (25, .putfield 80, 28, [2, 16, 0, 0, 164], 0, 0),
  (28, .aload_n 0, 29, [0], 0, 0),
  (29, .dup, 30, [], 0, 0),
  (30, .getfield 61, 33, [2, 10, 0, 154], 0, 0),
  (33, .iconst 1, 34, [], 1, 0),
  (34, .iadd, 35, [], 0, 0),
  (35, .putfield 61, 38, [2, 10, 0, 0, 154], 0, 0),
  (38, .aload_n 0, 39, [0], 0, 0),
  (39, .iconst 0, 40, [], 0, 0),
  (40, .putfield 64, 43, [2, 11, 0, 0, 155], 0, 0),
  (43, .aload_n 0, 44, [0], 0, 0),
  (44, .ldc 67, 46, [136], (-99999), 0),
  (46, .putfield 68, 49, [2, 12, 0, 0, 157], 0, 0),
  (49, .return_, 50, [], 0, 0)]
/-- OdometerRing$Odometer.switchOn()I -/
def cd30 : List (Nat × Row) := [(0, .aload_n 0, 1, [0], 0, 0),
  (1, .getfield 12, 4, [2, 0, 1, 137], 0, 0),
  (4, .invokevirtual 131, 7, [14, 432, 433, 434, 13, 435], 0, 0),
  (7, .istore_n 1, 8, [1], 0, 0),
  (8, .aload_n 0, 9, [0], 0, 0),
  (9, .iload_n 1, 10, [1], 0, 0),
  (10, .ldc 67, 12, [136], (-99999), 0),
  (12, .if_icmp .ne 7, 15, [19], 0, 0),
  (15, .iconst 0, 16, [], 0, 0),
  (16, .goto 4, 19, [20], 0, 0),
  (19, .iload_n 1, 20, [1], 0, 0),
  (20, .putfield 52, 23, [2, 7, 0, 0, 150], 0, 0),
  (23, .aload_n 0, 24, [0], 0, 0),
  (24, .iload_n 1, 25, [1], 0, 0),
  (25, .ldc 67, 27, [136], (-99999), 0),
  (27, .if_icmp .ne 7, 30, [34], 0, 0),
  (30, .iconst 0, 31, [], 0, 0),
  (31, .goto 11, 34, [42], 0, 0),
  (34, .aload_n 0, 35, [0], 0, 0),
  (35, .getfield 12, 38, [2, 0, 1, 137], 0, 0),
  (38, .iload_n 1, 39, [1], 0, 0),
  (39, .invokevirtual 116, 42, [9, 416, 417, 418, 13, 419], 0, 0),
  (42, .putfield 46, 45, [2, 5, 0, 0, 147], 0, 0),
  (45, .aload_n 0, 46, [0], 0, 0),
  (46, .aload_n 0, 47, [0], 0, 0),
  (47, .getfield 46, 50, [2, 5, 0, 147], 0, 0),
  (50, .putfield 49, 53, [2, 6, 0, 0, 149], 0, 0),
  (53, .aload_n 0, 54, [0], 0, 0),
  (54, .iconst 0, 55, [], 0, 0),
  (55, .putfield 43, 58, [2, 4, 2, 0, 145], 0, 0),
  (58, .aload_n 0, 59, [0], 0, 0),
  (59, .iconst 1, 60, [], 1, 0),
  (60, .putfield 39, 63, [2, 3, 2, 0, 143], 0, 0),
  (63, .aload_n 0, 64, [0], 0, 0),
  (64, .getfield 46, 67, [2, 5, 0, 147], 0, 0),
  (67, .ireturn, 68, [], 0, 0)]
/-- OdometerRing$Odometer.setCut(II)I -/
def cd31 : List (Nat × Row) := [(0, .aload_n 0, 1, [0], 0, 0),
  (1, .getfield 64, 4, [2, 11, 0, 155], 0, 0),
  (4, .istore_n 3, 5, [3], 0, 0),
  (5, .aload_n 0, 6, [0], 0, 0),
  (6, .iload_n 1, 7, [1], 0, 0),
  (7, .putfield 64, 10, [2, 11, 0, 0, 155], 0, 0),
  (10, .aload_n 0, 11, [0], 0, 0),
  (11, .iload_n 2, 12, [2], 0, 0),
  (12, .putfield 68, 15, [2, 12, 0, 0, 157], 0, 0),
  (15, .iload_n 3, 16, [3], 0, 0),
  (16, .ireturn, 17, [], 0, 0)]
/-- OdometerRing$Odometer.noteService(II)I -/
def cd32 : List (Nat × Row) := [(0, .aload_n 0, 1, [0], 0, 0),
  (1, .getfield 21, 4, [2, 1, 1, 139], 0, 0),
  (4, .iload_n 1, 5, [1], 0, 0),
  (5, .iload_n 2, 6, [2], 0, 0),
  (6, .invokevirtual 134, 9, [42, 457, 445, 446, 14, 447], 0, 0),
  (9, .istore_n 3, 10, [3], 0, 0),
  (10, .iload_n 3, 11, [3], 0, 0),
  (11, .ldc 67, 13, [136], (-99999), 0),
  (13, .if_icmp .ne 8, 16, [21], 0, 0),
  (16, .ldc 67, 18, [136], (-99999), 0),
  (18, .goto 16, 21, [34], 0, 0),
  (21, .aload_n 0, 22, [0], 0, 0),
  (22, .getfield 46, 25, [2, 5, 0, 147], 0, 0),
  (25, .aload_n 0, 26, [0], 0, 0),
  (26, .getfield 21, 29, [2, 1, 1, 139], 0, 0),
  (29, .iload_n 3, 30, [3], 0, 0),
  (30, .invokevirtual 137, 33, [45, 458, 459, 460, 14, 461], 0, 0),
  (33, .isub, 34, [], 0, 0),
  (34, .istore 4, 36, [4], 0, 0),
  (36, .aload_n 0, 37, [0], 0, 0),
  (37, .getfield 21, 40, [2, 1, 1, 139], 0, 0),
  (40, .iload_n 1, 41, [1], 0, 0),
  (41, .iload_n 2, 42, [2], 0, 0),
  (42, .aload_n 0, 43, [0], 0, 0),
  (43, .getfield 46, 46, [2, 5, 0, 147], 0, 0),
  (46, .invokevirtual 140, 49, [44, 470, 471, 472, 14, 473], 0, 0),
  (49, .iload 4, 51, [4], 0, 0),
  (51, .ireturn, 52, [], 0, 0)]
/-- OdometerRing$Odometer.canReplace(I)Z -/
def cd33 : List (Nat × Row) := [(0, .aload_n 0, 1, [0], 0, 0),
  (1, .getfield 39, 4, [2, 3, 2, 143], 0, 0),
  (4, .ifCond .eq 26, 7, [30], 0, 0),
  (7, .aload_n 0, 8, [0], 0, 0),
  (8, .getfield 12, 11, [2, 0, 1, 137], 0, 0),
  (11, .iload_n 1, 12, [1], 0, 0),
  (12, .invokevirtual 143, 15, [3, 478, 479, 480, 13, 481], 0, 0),
  (15, .ifCond .eq 15, 18, [30], 0, 0),
  (18, .iload_n 1, 19, [1], 0, 0),
  (19, .aload_n 0, 20, [0], 0, 0),
  (20, .getfield 52, 23, [2, 7, 0, 150], 0, 0),
  (23, .if_icmp .eq 7, 26, [30], 0, 0),
  (26, .iconst 1, 27, [], 1, 0),
  (27, .goto 4, 30, [31], 0, 0),
  (30, .iconst 0, 31, [], 0, 0),
  (31, .ireturn, 32, [], 0, 0)]
/-- OdometerRing$Odometer.obey(III)Z -/
def cd34 : List (Nat × Row) := [(0, .iload_n 1, 1, [1], 0, 0),
  (1, .lookupswitch 176 #[(99, 75), (100, 51), (109, 117), (114, 155), (115, 101)], 52, [177, 99, 76, 100, 52, 109, 118, 114, 156, 115, 102], 0, 0),
  (52, .aload_n 0, 53, [0], 0, 0),
  (53, .getfield 39, 56, [2, 3, 2, 143], 0, 0),
  (56, .ifCond .eq 10, 59, [66], 0, 0),
  (59, .iload_n 2, 60, [2], 0, 0),
  (60, .invokestatic 147, 63, [4, 92, 4, 380, 10, 381], 0, 0),
  (63, .ifCond .ne 5, 66, [68], 0, 0),
  (66, .iconst 0, 67, [], 0, 0),
  (67, .ireturn, 68, [], 0, 0),
  (68, .aload_n 0, 69, [0], 0, 0),
  (69, .iload_n 2, 70, [2], 0, 0),
  (70, .invokevirtual 150, 73, [24, 382, 383, 384, 12, 385], 0, 0),
  (73, .pop, 74, [], 0, 0),
  (74, .iconst 1, 75, [], 1, 0),
  (75, .ireturn, 76, [], 0, 0),
  (76, .aload_n 0, 77, [0], 0, 0),
  (77, .getfield 39, 80, [2, 3, 2, 143], 0, 0),
  (80, .ifCond .eq 11, 83, [91], 0, 0),
  (83, .iload_n 2, 84, [2], 0, 0),
  (84, .iload_n 3, 85, [3], 0, 0),
  (85, .invokestatic 153, 88, [4, 93, 5, 422, 10, 423], 0, 0),
  (88, .ifCond .ne 5, 91, [93], 0, 0),
  (91, .iconst 0, 92, [], 0, 0),
  (92, .ireturn, 93, [], 0, 0),
  (93, .aload_n 0, 94, [0], 0, 0),
  (94, .iload_n 2, 95, [2], 0, 0),
  (95, .iload_n 3, 96, [3], 0, 0),
  (96, .invokevirtual 157, 99, [31, 424, 425, 426, 12, 427], 0, 0),
  (99, .pop, 100, [], 0, 0),
  (100, .iconst 1, 101, [], 1, 0),
  (101, .ireturn, 102, [], 0, 0),
  (102, .aload_n 0, 103, [0], 0, 0),
  (103, .getfield 39, 106, [2, 3, 2, 143], 0, 0),
  (106, .ifCond .eq 5, 109, [111], 0, 0),
  (109, .iconst 0, 110, [], 0, 0),
  (110, .ireturn, 111, [], 0, 0),
  (111, .aload_n 0, 112, [0], 0, 0),
  (112, .invokevirtual 160, 115, [30, 428, 429, 430, 12, 431], 0, 0),
  (115, .pop, 116, [], 0, 0),
  (116, .iconst 1, 117, [], 1, 0),
  (117, .ireturn, 118, [], 0, 0),
  (118, .aload_n 0, 119, [0], 0, 0),
  (119, .getfield 39, 122, [2, 3, 2, 143], 0, 0),
  (122, .ifCond .eq 23, 125, [145], 0, 0),
  (125, .iload_n 2, 126, [2], 0, 0),
  (126, .iload_n 3, 127, [3], 0, 0),
  (127, .invokestatic 163, 130, [4, 94, 6, 438, 10, 439], 0, 0),
  (130, .ifCond .eq 15, 133, [145], 0, 0),
  (133, .aload_n 0, 134, [0], 0, 0),
  (134, .getfield 21, 137, [2, 1, 1, 139], 0, 0),
  (137, .iload_n 2, 138, [2], 0, 0),
  (138, .iload_n 3, 139, [3], 0, 0),
  (139, .invokevirtual 166, 142, [43, 440, 441, 442, 14, 443], 0, 0),
  (142, .ifCond .ne 5, 145, [147], 0, 0),
  (145, .iconst 0, 146, [], 0, 0),
  (146, .ireturn, 147, [], 0, 0),
  (147, .aload_n 0, 148, [0], 0, 0),
  (148, .iload_n 2, 149, [2], 0, 0),
  (149, .iload_n 3, 150, [3], 0, 0),
  (150, .invokevirtual 169, 153, [32, 453, 454, 455, 12, 456], 0, 0),
  (153, .pop, 154, [], 0, 0),
  (154, .iconst 1, 155, [], 1, 0),
  (155, .ireturn, 156, [], 0, 0),
  (156, .aload_n 0, 157, [0], 0, 0),
  (157, .iload_n 2, 158, [2], 0, 0),
  (158, .invokevirtual 172, 161, [33, 474, 475, 476, 12, 477], 0, 0),
  (161, .ifCond .ne 5, 164, [166], 0, 0),
  (164, .iconst 0, 165, [], 0, 0),
  (165, .ireturn, 166, [], 0, 0),
  (166, .aload_n 0, 167, [0], 0, 0),
  (167, .getfield 12, 170, [2, 0, 1, 137], 0, 0),
  (170, .iload_n 2, 171, [2], 0, 0),
  (171, .invokevirtual 175, 174, [12, 482, 133, 134, 13, 135], 0, 0),
  (174, .pop, 175, [], 0, 0),
  (175, .iconst 1, 176, [], 1, 0),
  (176, .ireturn, 177, [], 0, 0),
  (177, .iconst 0, 178, [], 0, 0),
  (178, .ireturn, 179, [], 0, 0)]
/-- OdometerRing$Odometer.obeyGroup(I)Z -/
def cd35 : List (Nat × Row) := [(0, .iload_n 1, 1, [1], 0, 0),
  (1, .bipush 100, 3, [], 100, 0),
  (3, .idiv, 4, [], 0, 0),
  (4, .bipush 10, 6, [], 10, 0),
  (6, .irem, 7, [], 0, 0),
  (7, .istore_n 2, 8, [2], 0, 0),
  (8, .iload_n 1, 9, [1], 0, 0),
  (9, .bipush 10, 11, [], 10, 0),
  (11, .idiv, 12, [], 0, 0),
  (12, .bipush 10, 14, [], 10, 0),
  (14, .irem, 15, [], 0, 0),
  (15, .istore_n 3, 16, [3], 0, 0),
  (16, .iload_n 1, 17, [1], 0, 0),
  (17, .bipush 10, 19, [], 10, 0),
  (19, .irem, 20, [], 0, 0),
  (20, .istore 4, 22, [4], 0, 0),
  (22, .iload_n 1, 23, [1], 0, 0),
  (23, .sipush 1000, 26, [], 1000, 0),
  (26, .idiv, 27, [], 0, 0),
  (27, .tableswitch 261 1 9 #[49, 62, 84, 108, 130, 155, 176, 213, 237], 76, [288, 1, 76, 2, 89, 3, 111, 4, 135, 5, 157, 6, 182, 7, 203, 8, 240, 9, 264], 0, 0),
  (76, .aload_n 0, 77, [0], 0, 0),
  (77, .bipush 100, 79, [], 100, 0),
  (79, .iload_n 1, 80, [1], 0, 0),
  (80, .sipush 1000, 83, [], 1000, 0),
  (83, .irem, 84, [], 0, 0),
  (84, .iconst 0, 85, [], 0, 0),
  (85, .invokevirtual 178, 88, [34, 802, 376, 377, 12, 378], 0, 0),
  (88, .ireturn, 89, [], 0, 0),
  (89, .iload_n 2, 90, [2], 0, 0),
  (90, .ifCond .ne 19, 93, [109], 0, 0),
  (93, .aload_n 0, 94, [0], 0, 0),
  (94, .bipush 99, 96, [], 99, 0),
  (96, .iload_n 3, 97, [3], 0, 0),
  (97, .iload 4, 99, [4], 0, 0),
  (99, .invokevirtual 178, 102, [34, 802, 376, 377, 12, 378], 0, 0),
  (102, .ifCond .eq 7, 105, [109], 0, 0),
  (105, .iconst 1, 106, [], 1, 0),
  (106, .goto 4, 109, [110], 0, 0),
  (109, .iconst 0, 110, [], 0, 0),
  (110, .ireturn, 111, [], 0, 0),
  (111, .iload_n 1, 112, [1], 0, 0),
  (112, .sipush 3000, 115, [], 3000, 0),
  (115, .if_icmp .ne 18, 118, [133], 0, 0),
  (118, .aload_n 0, 119, [0], 0, 0),
  (119, .bipush 115, 121, [], 115, 0),
  (121, .iconst 0, 122, [], 0, 0),
  (122, .iconst 0, 123, [], 0, 0),
  (123, .invokevirtual 178, 126, [34, 802, 376, 377, 12, 378], 0, 0),
  (126, .ifCond .eq 7, 129, [133], 0, 0),
  (129, .iconst 1, 130, [], 1, 0),
  (130, .goto 4, 133, [134], 0, 0),
  (133, .iconst 0, 134, [], 0, 0),
  (134, .ireturn, 135, [], 0, 0),
  (135, .iload 4, 137, [4], 0, 0),
  (137, .ifCond .ne 18, 140, [155], 0, 0),
  (140, .aload_n 0, 141, [0], 0, 0),
  (141, .bipush 109, 143, [], 109, 0),
  (143, .iload_n 2, 144, [2], 0, 0),
  (144, .iload_n 3, 145, [3], 0, 0),
  (145, .invokevirtual 178, 148, [34, 802, 376, 377, 12, 378], 0, 0),
  (148, .ifCond .eq 7, 151, [155], 0, 0),
  (151, .iconst 1, 152, [], 1, 0),
  (152, .goto 4, 155, [156], 0, 0),
  (155, .iconst 0, 156, [], 0, 0),
  (156, .ireturn, 157, [], 0, 0),
  (157, .aload_n 0, 158, [0], 0, 0),
  (158, .getfield 39, 161, [2, 3, 2, 143], 0, 0),
  (161, .ifCond .eq 19, 164, [180], 0, 0),
  (164, .aload_n 0, 165, [0], 0, 0),
  (165, .getfield 46, 168, [2, 5, 0, 147], 0, 0),
  (168, .iload_n 1, 169, [1], 0, 0),
  (169, .sipush 1000, 172, [], 1000, 0),
  (172, .irem, 173, [], 0, 0),
  (173, .if_icmp .lt 7, 176, [180], 0, 0),
  (176, .iconst 1, 177, [], 1, 0),
  (177, .goto 4, 180, [181], 0, 0),
  (180, .iconst 0, 181, [], 0, 0),
  (181, .ireturn, 182, [], 0, 0),
  (182, .iload_n 2, 183, [2], 0, 0),
  (183, .ifCond .ne 18, 186, [201], 0, 0),
  (186, .aload_n 0, 187, [0], 0, 0),
  (187, .iload_n 1, 188, [1], 0, 0),
  (188, .bipush 100, 190, [], 100, 0),
  (190, .irem, 191, [], 0, 0),
  (191, .invokevirtual 182, 194, [36, 803, 805, 8, 12, 806], 0, 0),
  (194, .ifCond .eq 7, 197, [201], 0, 0),
  (197, .iconst 1, 198, [], 1, 0),
  (198, .goto 4, 201, [202], 0, 0),
  (201, .iconst 0, 202, [], 0, 0),
  (202, .ireturn, 203, [], 0, 0),
  (203, .iload_n 1, 204, [1], 0, 0),
  (204, .bipush 100, 206, [], 100, 0),
  (206, .irem, 207, [], 0, 0),
  (207, .ifCond .ne 31, 210, [238], 0, 0),
  (210, .aload_n 0, 211, [0], 0, 0),
  (211, .getfield 12, 214, [2, 0, 1, 137], 0, 0),
  (214, .iload_n 2, 215, [2], 0, 0),
  (215, .invokevirtual 143, 218, [3, 478, 479, 480, 13, 481], 0, 0),
  (218, .ifCond .eq 20, 221, [238], 0, 0),
  (221, .aload_n 0, 222, [0], 0, 0),
  (222, .getfield 12, 225, [2, 0, 1, 137], 0, 0),
  (225, .iload_n 2, 226, [2], 0, 0),
  (226, .invokevirtual 116, 229, [9, 416, 417, 418, 13, 419], 0, 0),
  (229, .ldc 67, 231, [136], (-99999), 0),
  (231, .if_icmp .eq 7, 234, [238], 0, 0),
  (234, .iconst 1, 235, [], 1, 0),
  (235, .goto 4, 238, [239], 0, 0),
  (238, .iconst 0, 239, [], 0, 0),
  (239, .ireturn, 240, [], 0, 0),
  (240, .iload_n 2, 241, [2], 0, 0),
  (241, .ifCond .ne 21, 244, [262], 0, 0),
  (244, .aload_n 0, 245, [0], 0, 0),
  (245, .getfield 12, 248, [2, 0, 1, 137], 0, 0),
  (248, .invokevirtual 96, 251, [13, 586, 587, 588, 13, 589], 0, 0),
  (251, .iload_n 1, 252, [1], 0, 0),
  (252, .bipush 100, 254, [], 100, 0),
  (254, .irem, 255, [], 0, 0),
  (255, .if_icmp .gt 7, 258, [262], 0, 0),
  (258, .iconst 1, 259, [], 1, 0),
  (259, .goto 4, 262, [263], 0, 0),
  (262, .iconst 0, 263, [], 0, 0),
  (263, .ireturn, 264, [], 0, 0),
  (264, .iload_n 1, 265, [1], 0, 0),
  (265, .bipush 100, 267, [], 100, 0),
  (267, .irem, 268, [], 0, 0),
  (268, .ifCond .ne 18, 271, [286], 0, 0),
  (271, .aload_n 0, 272, [0], 0, 0),
  (272, .bipush 114, 274, [], 114, 0),
  (274, .iload_n 2, 275, [2], 0, 0),
  (275, .iconst 0, 276, [], 0, 0),
  (276, .invokevirtual 178, 279, [34, 802, 376, 377, 12, 378], 0, 0),
  (279, .ifCond .eq 7, 282, [286], 0, 0),
  (282, .iconst 1, 283, [], 1, 0),
  (283, .goto 4, 286, [287], 0, 0),
  (286, .iconst 0, 287, [], 0, 0),
  (287, .ireturn, 288, [], 0, 0),
  (288, .iconst 0, 289, [], 0, 0),
  (289, .ireturn, 290, [], 0, 0)]
/-- OdometerRing$Odometer.takeStep(I)Z -/
def cd36 : List (Nat × Row) := [(0, .iload_n 1, 1, [1], 0, 0),
  (1, .invokestatic 185, 4, [4, 95, 7, 723, 10, 724], 0, 0),
  (4, .ifCond .ne 5, 7, [9], 0, 0),
  (7, .iconst 0, 8, [], 0, 0),
  (8, .ireturn, 9, [], 0, 0),
  (9, .aload_n 0, 10, [0], 0, 0),
  (10, .iload_n 1, 11, [1], 0, 0),
  (11, .putfield 36, 14, [2, 2, 0, 0, 141], 0, 0),
  (14, .iconst 1, 15, [], 1, 0),
  (15, .ireturn, 16, [], 0, 0)]
/-- OdometerRing$Odometer.playRound(I)V -/
def cd37 : List (Nat × Row) := [(0, .aload_n 0, 1, [0], 0, 0),
  (1, .getfield 39, 4, [2, 3, 2, 143], 0, 0),
  (4, .ifCond .ne 8, 7, [12], 0, 0),
  (7, .aload_n 0, 8, [0], 0, 0),
  (8, .invokevirtual 160, 11, [30, 428, 429, 430, 12, 431], 0, 0),
  (11, .pop, 12, [], 0, 0),
  (12, .iload_n 1, 13, [1], 0, 0),
  (13, .iconst 4, 14, [], 4, 0),
  (14, .irem, 15, [], 0, 0),
  (15, .ifCond .ne 22, 18, [37], 0, 0),
  (18, .aload_n 0, 19, [0], 0, 0),
  (19, .iconst 1, 20, [], 1, 0),
  (20, .iload_n 1, 21, [1], 0, 0),
  (21, .iconst 4, 22, [], 4, 0),
  (22, .idiv, 23, [], 0, 0),
  (23, .bipush 9, 25, [], 9, 0),
  (25, .irem, 26, [], 0, 0),
  (26, .iadd, 27, [], 0, 0),
  (27, .iload_n 1, 28, [1], 0, 0),
  (28, .bipush 64, 30, [], 64, 0),
  (30, .idiv, 31, [], 0, 0),
  (31, .iconst 3, 32, [], 3, 0),
  (32, .irem, 33, [], 0, 0),
  (33, .invokevirtual 157, 36, [31, 424, 425, 426, 12, 427], 0, 0),
  (36, .pop, 37, [], 0, 0),
  (37, .aload_n 0, 38, [0], 0, 0),
  (38, .iconst 1, 39, [], 1, 0),
  (39, .iload_n 1, 40, [1], 0, 0),
  (40, .sipush 256, 43, [], 256, 0),
  (43, .idiv, 44, [], 0, 0),
  (44, .bipush 50, 46, [], 50, 0),
  (46, .irem, 47, [], 0, 0),
  (47, .iadd, 48, [], 0, 0),
  (48, .invokevirtual 150, 51, [24, 382, 383, 384, 12, 385], 0, 0),
  (51, .pop, 52, [], 0, 0),
  (52, .return_, 53, [], 0, 0)]
/-- OdometerRing$Services.<init>()V -/
def cd38 : List (Nat × Row) := [(0, .aload_n 0, 1, [0], 0, 0),
  (1, .invokespecial 3, 4, [0, 108, 31, 32], 0, 0),
  (4, .aload_n 0, 5, [0], 0, 0),
  (5, .bipush 12, 7, [], 12, 0),
  (7, .newarray .int, 9, [8, 74], 0, 0),
  (9, .putfield 9, 12, [3, 1, 1, 1, 112], 0, 0),
  (12, .aload_n 0, 13, [0], 0, 0),
  (13, .bipush 12, 15, [], 12, 0),
  (15, .newarray .int, 17, [8, 74], 0, 0),
  (17, .putfield 15, 20, [3, 2, 1, 1, 113], 0, 0),
  (20, .return_, 21, [], 0, 0)]
/-- OdometerRing$Services.becomeLike(LOdometerRing$Services;)V -/
def cd39 : List (Nat × Row) := [(0, .aload_n 0, 1, [0], 0, 0),
  (1, .aload_n 1, 2, [1], 0, 0),
  (2, .getfield 18, 5, [3, 0, 0, 109], 0, 0),
  (5, .putfield 18, 8, [3, 0, 0, 0, 109], 0, 0),
  (8, .aload_n 1, 9, [1], 0, 0),
  (9, .getfield 9, 12, [3, 1, 1, 112], 0, 0),
  (12, .iconst 0, 13, [], 0, 0),
  (13, .aload_n 0, 14, [0], 0, 0),
  (14, .getfield 9, 17, [3, 1, 1, 112], 0, 0),
  (17, .iconst 0, 18, [], 0, 0),
  (18, .aload_n 1, 19, [1], 0, 0),
  (19, .getfield 9, 22, [3, 1, 1, 112], 0, 0),
  (22, .arraylength, 23, [], 0, 0),
  (23, .aload_n 0, 24, [0], 0, 0),
  (24, .getfield 9, 27, [3, 1, 1, 112], 0, 0),
  (27, .arraylength, 28, [], 0, 0),
  (28, .invokestatic 22, 31, [1, 527, 130, 15, 131], 0, 0),
  (31, .invokestatic 28, 34, [3, 528, 522, 521, 24], 0, 0),
  (34, .aload_n 1, 35, [1], 0, 0),
  (35, .getfield 15, 38, [3, 2, 1, 113], 0, 0),
  (38, .iconst 0, 39, [], 0, 0),
  (39, .aload_n 0, 40, [0], 0, 0),
  (40, .getfield 15, 43, [3, 2, 1, 113], 0, 0),
  (43, .iconst 0, 44, [], 0, 0),
  (44, .aload_n 1, 45, [1], 0, 0),
  (45, .getfield 15, 48, [3, 2, 1, 113], 0, 0),
  (48, .arraylength, 49, [], 0, 0),
  (49, .aload_n 0, 50, [0], 0, 0),
  (50, .getfield 15, 53, [3, 2, 1, 113], 0, 0),
  (53, .arraylength, 54, [], 0, 0),
  (54, .invokestatic 22, 57, [1, 527, 130, 15, 131], 0, 0),
  (57, .invokestatic 28, 60, [3, 528, 522, 521, 24], 0, 0),
  (60, .return_, 61, [], 0, 0)]
/-- OdometerRing$Services.codeAt(I)I -/
def cd40 : List (Nat × Row) := [(0, .iload_n 1, 1, [1], 0, 0),
  (1, .ifCond .lt 21, 4, [22], 0, 0),
  (4, .iload_n 1, 5, [1], 0, 0),
  (5, .aload_n 0, 6, [0], 0, 0),
  (6, .getfield 9, 9, [3, 1, 1, 112], 0, 0),
  (9, .arraylength, 10, [], 0, 0),
  (10, .if_icmp .ge 12, 13, [22], 0, 0),
  (13, .aload_n 0, 14, [0], 0, 0),
  (14, .getfield 9, 17, [3, 1, 1, 112], 0, 0),
  (17, .iload_n 1, 18, [1], 0, 0),
  (18, .iaload, 19, [], 0, 0),
  (19, .goto 5, 22, [24], 0, 0),
  (22, .ldc 34, 24, [452], (-99999), 0),
  (24, .ireturn, 25, [], 0, 0)]
/-- OdometerRing$Services.notedAt(I)I -/
def cd41 : List (Nat × Row) := [(0, .iload_n 1, 1, [1], 0, 0),
  (1, .ifCond .lt 21, 4, [22], 0, 0),
  (4, .iload_n 1, 5, [1], 0, 0),
  (5, .aload_n 0, 6, [0], 0, 0),
  (6, .getfield 15, 9, [3, 2, 1, 113], 0, 0),
  (9, .arraylength, 10, [], 0, 0),
  (10, .if_icmp .ge 12, 13, [22], 0, 0),
  (13, .aload_n 0, 14, [0], 0, 0),
  (14, .getfield 15, 17, [3, 2, 1, 113], 0, 0),
  (17, .iload_n 1, 18, [1], 0, 0),
  (18, .iaload, 19, [], 0, 0),
  (19, .goto 5, 22, [24], 0, 0),
  (22, .ldc 34, 24, [452], (-99999), 0),
  (24, .ireturn, 25, [], 0, 0)]
/-- OdometerRing$Services.placeOf(II)I -/
def cd42 : List (Nat × Row) := [(0, .iconst 0, 1, [], 0, 0),
  (1, .istore_n 3, 2, [3], 0, 0),
  (2, .iload_n 3, 3, [3], 0, 0),
  (3, .aload_n 0, 4, [0], 0, 0),
  (4, .getfield 18, 7, [3, 0, 0, 109], 0, 0),
  (7, .if_icmp .ge 25, 10, [32], 0, 0),
  (10, .aload_n 0, 11, [0], 0, 0),
  (11, .iload_n 3, 12, [3], 0, 0),
  (12, .invokevirtual 35, 15, [40, 448, 449, 450, 14, 451], 0, 0),
  (15, .bipush 10, 17, [], 10, 0),
  (17, .iload_n 1, 18, [1], 0, 0),
  (18, .imul, 19, [], 0, 0),
  (19, .iload_n 2, 20, [2], 0, 0),
  (20, .iadd, 21, [], 0, 0),
  (21, .if_icmp .ne 5, 24, [26], 0, 0),
  (24, .iload_n 3, 25, [3], 0, 0),
  (25, .ireturn, 26, [], 0, 0),
  (26, .iinc 3 1, 29, [3], 1, 0),
  (29, .goto (-27), 32, [2], 0, 0),
  (32, .ldc 34, 34, [452], (-99999), 0),
  (34, .ireturn, 35, [], 0, 0)]
/-- OdometerRing$Services.hasRoomFor(II)Z -/
def cd43 : List (Nat × Row) := [(0, .aload_n 0, 1, [0], 0, 0),
  (1, .getfield 18, 4, [3, 0, 0, 109], 0, 0),
  (4, .bipush 12, 6, [], 12, 0),
  (6, .if_icmp .lt 14, 9, [20], 0, 0),
  (9, .aload_n 0, 10, [0], 0, 0),
  (10, .iload_n 1, 11, [1], 0, 0),
  (11, .iload_n 2, 12, [2], 0, 0),
  (12, .invokevirtual 39, 15, [42, 444, 445, 446, 14, 447], 0, 0),
  (15, .ldc 34, 17, [452], (-99999), 0),
  (17, .if_icmp .eq 7, 20, [24], 0, 0),
  (20, .iconst 1, 21, [], 1, 0),
  (21, .goto 4, 24, [25], 0, 0),
  (24, .iconst 0, 25, [], 0, 0),
  (25, .ireturn, 26, [], 0, 0)]
/-- OdometerRing$Services.addLast(III)V -/
def cd44 : List (Nat × Row) := [(0, .aload_n 0, 1, [0], 0, 0),
  (1, .aload_n 0, 2, [0], 0, 0),
  (2, .getfield 18, 5, [3, 0, 0, 109], 0, 0),
  (5, .bipush 10, 7, [], 10, 0),
  (7, .iload_n 1, 8, [1], 0, 0),
  (8, .imul, 9, [], 0, 0),
  (9, .iload_n 2, 10, [2], 0, 0),
  (10, .iadd, 11, [], 0, 0),
  (11, .iload_n 3, 12, [3], 0, 0),
  (12, .invokevirtual 42, 15, [47, 466, 468, 6, 14, 469], 0, 0),
  (15, .aload_n 0, 16, [0], 0, 0),
  (16, .dup, 17, [], 0, 0),
  (17, .getfield 18, 20, [3, 0, 0, 109], 0, 0),
  (20, .iconst 1, 21, [], 1, 0),
  (21, .iadd, 22, [], 0, 0),
  (22, .putfield 18, 25, [3, 0, 0, 0, 109], 0, 0),
  (25, .return_, 26, [], 0, 0)]
/-- OdometerRing$Services.takeOut(I)I -/
def cd45 : List (Nat × Row) := [(0, .aload_n 0, 1, [0], 0, 0),
  (1, .iload_n 1, 2, [1], 0, 0),
  (2, .invokevirtual 46, 5, [41, 462, 463, 464, 14, 465], 0, 0),
  (5, .istore_n 2, 6, [2], 0, 0),
  (6, .iload_n 1, 7, [1], 0, 0),
  (7, .iconst 1, 8, [], 1, 0),
  (8, .iadd, 9, [], 0, 0),
  (9, .istore_n 3, 10, [3], 0, 0),
  (10, .iload_n 3, 11, [3], 0, 0),
  (11, .aload_n 0, 12, [0], 0, 0),
  (12, .getfield 18, 15, [3, 0, 0, 109], 0, 0),
  (15, .if_icmp .ge 26, 18, [41], 0, 0),
  (18, .aload_n 0, 19, [0], 0, 0),
  (19, .iload_n 3, 20, [3], 0, 0),
  (20, .iconst 1, 21, [], 1, 0),
  (21, .isub, 22, [], 0, 0),
  (22, .aload_n 0, 23, [0], 0, 0),
  (23, .iload_n 3, 24, [3], 0, 0),
  (24, .invokevirtual 35, 27, [40, 448, 449, 450, 14, 451], 0, 0),
  (27, .aload_n 0, 28, [0], 0, 0),
  (28, .iload_n 3, 29, [3], 0, 0),
  (29, .invokevirtual 46, 32, [41, 462, 463, 464, 14, 465], 0, 0),
  (32, .invokevirtual 42, 35, [47, 466, 468, 6, 14, 469], 0, 0),
  (35, .iinc 3 1, 38, [3], 1, 0),
  (38, .goto (-28), 41, [10], 0, 0),
  (41, .aload_n 0, 42, [0], 0, 0),
  (42, .dup, 43, [], 0, 0),
  (43, .getfield 18, 46, [3, 0, 0, 109], 0, 0),
  (46, .iconst 1, 47, [], 1, 0),
  (47, .isub, 48, [], 0, 0),
  (48, .putfield 18, 51, [3, 0, 0, 0, 109], 0, 0),
  (51, .iload_n 2, 52, [2], 0, 0),
  (52, .ireturn, 53, [], 0, 0)]
/-- OdometerRing$Services.placeOfSmallest()I -/
def cd46 : List (Nat × Row) := [(0, .ldc 34, 2, [452], (-99999), 0),
  (2, .istore_n 1, 3, [1], 0, 0),
  (3, .iconst 0, 4, [], 0, 0),
  (4, .istore_n 2, 5, [2], 0, 0),
  (5, .iload_n 2, 6, [2], 0, 0),
  (6, .aload_n 0, 7, [0], 0, 0),
  (7, .getfield 18, 10, [3, 0, 0, 109], 0, 0),
  (10, .if_icmp .ge 30, 13, [40], 0, 0),
  (13, .iload_n 1, 14, [1], 0, 0),
  (14, .ldc 34, 16, [452], (-99999), 0),
  (16, .if_icmp .eq 16, 19, [32], 0, 0),
  (19, .aload_n 0, 20, [0], 0, 0),
  (20, .iload_n 2, 21, [2], 0, 0),
  (21, .invokevirtual 46, 24, [41, 462, 463, 464, 14, 465], 0, 0),
  (24, .aload_n 0, 25, [0], 0, 0),
  (25, .iload_n 1, 26, [1], 0, 0),
  (26, .invokevirtual 46, 29, [41, 462, 463, 464, 14, 465], 0, 0),
  (29, .if_icmp .ge 5, 32, [34], 0, 0),
  (32, .iload_n 2, 33, [2], 0, 0),
  (33, .istore_n 1, 34, [1], 0, 0),
  (34, .iinc 2 1, 37, [2], 1, 0),
  (37, .goto (-32), 40, [5], 0, 0),
  (40, .iload_n 1, 41, [1], 0, 0),
  (41, .ireturn, 42, [], 0, 0)]
/-- OdometerRing$Services.put(III)V -/
def cd47 : List (Nat × Row) := [(0, .iload_n 1, 1, [1], 0, 0),
  (1, .ifCond .lt 35, 4, [36], 0, 0),
  (4, .iload_n 1, 5, [1], 0, 0),
  (5, .aload_n 0, 6, [0], 0, 0),
  (6, .getfield 9, 9, [3, 1, 1, 112], 0, 0),
  (9, .arraylength, 10, [], 0, 0),
  (10, .if_icmp .ge 26, 13, [36], 0, 0),
  (13, .iload_n 1, 14, [1], 0, 0),
  (14, .aload_n 0, 15, [0], 0, 0),
  (15, .getfield 15, 18, [3, 2, 1, 113], 0, 0),
  (18, .arraylength, 19, [], 0, 0),
  (19, .if_icmp .ge 17, 22, [36], 0, 0),
  (22, .aload_n 0, 23, [0], 0, 0),
  (23, .getfield 9, 26, [3, 1, 1, 112], 0, 0),
  (26, .iload_n 1, 27, [1], 0, 0),
  (27, .iload_n 2, 28, [2], 0, 0),
  (28, .iastore, 29, [], 0, 0),
  (29, .aload_n 0, 30, [0], 0, 0),
  (30, .getfield 15, 33, [3, 2, 1, 113], 0, 0),
  (33, .iload_n 1, 34, [1], 0, 0),
  (34, .iload_n 3, 35, [3], 0, 0),
  (35, .iastore, 36, [], 0, 0),
  (36, .return_, 37, [], 0, 0)]
/-- OdometerRing$Shelf.<init>(I)V -/
def cd48 : List (Nat × Row) := [(0, .aload_n 0, 1, [0], 0, 0),
  (1, .invokespecial 1, 4, [0, 212, 31, 32], 0, 0),
  (4, .iconst 0, 5, [], 0, 0),
  (5, .iload_n 1, 6, [1], 0, 0),
  (6, .invokestatic 7, 9, [2, 213, 214, 15, 215], 0, 0),
  (9, .istore_n 2, 10, [2], 0, 0),
  (10, .aload_n 0, 11, [0], 0, 0),
  (11, .iload_n 2, 12, [2], 0, 0),
  (12, .anewarray 13, 15, [216], 0, 0),
  (15, .putfield 15, 18, [4, 0, 1, 1, 219], 0, 0),
  (18, .aload_n 0, 19, [0], 0, 0),
  (19, .iload_n 2, 20, [2], 0, 0),
  (20, .newarray .boolean, 22, [9, 226], 0, 0),
  (22, .putfield 21, 25, [4, 1, 1, 1, 220], 0, 0),
  (25, .iconst 0, 26, [], 0, 0),
  (26, .istore_n 3, 27, [3], 0, 0),
  (27, .iload_n 3, 28, [3], 0, 0),
  (28, .aload_n 0, 29, [0], 0, 0),
  (29, .getfield 15, 32, [4, 0, 1, 219], 0, 0),
  (32, .arraylength, 33, [], 0, 0),
  (33, .if_icmp .ge 22, 36, [55], 0, 0),
  (36, .aload_n 0, 37, [0], 0, 0),
  (37, .getfield 15, 40, [4, 0, 1, 219], 0, 0),
  (40, .iload_n 3, 41, [3], 0, 0),
  (41, .new 13, 44, [0, 2, 216, 76, 12], 0, 0),
  (44, .dup, 45, [], 0, 0),
  (45, .invokespecial 25, 48, [1, 19, 78, 12, 79, 218], 0, 0),
  (48, .aastore, 49, [], 0, 0),
  (49, .iinc 3 1, 52, [3], 1, 0),
  (52, .goto (-25), 55, [27], 0, 0),
  (55, .return_, 56, [], 0, 0)]
/-- OdometerRing$Shelf.isFull(I)Z -/
def cd49 : List (Nat × Row) := [(0, .iload_n 1, 1, [1], 0, 0),
  (1, .ifCond .lt 25, 4, [26], 0, 0),
  (4, .iload_n 1, 5, [1], 0, 0),
  (5, .aload_n 0, 6, [0], 0, 0),
  (6, .getfield 21, 9, [4, 1, 1, 220], 0, 0),
  (9, .arraylength, 10, [], 0, 0),
  (10, .if_icmp .ge 16, 13, [26], 0, 0),
  (13, .aload_n 0, 14, [0], 0, 0),
  (14, .getfield 21, 17, [4, 1, 1, 220], 0, 0),
  (17, .iload_n 1, 18, [1], 0, 0),
  (18, .baload, 19, [], 0, 0),
  (19, .ifCond .eq 7, 22, [26], 0, 0),
  (22, .iconst 1, 23, [], 1, 0),
  (23, .goto 4, 26, [27], 0, 0),
  (26, .iconst 0, 27, [], 0, 0),
  (27, .ireturn, 28, [], 0, 0)]
/-- OdometerRing$Shelf.emptyAll()V -/
def cd50 : List (Nat × Row) := [(0, .iconst 0, 1, [], 0, 0),
  (1, .istore_n 1, 2, [1], 0, 0),
  (2, .iload_n 1, 3, [1], 0, 0),
  (3, .aload_n 0, 4, [0], 0, 0),
  (4, .getfield 21, 7, [4, 1, 1, 220], 0, 0),
  (7, .arraylength, 8, [], 0, 0),
  (8, .if_icmp .ge 16, 11, [24], 0, 0),
  (11, .aload_n 0, 12, [0], 0, 0),
  (12, .getfield 21, 15, [4, 1, 1, 220], 0, 0),
  (15, .iload_n 1, 16, [1], 0, 0),
  (16, .iconst 0, 17, [], 0, 0),
  (17, .bastore, 18, [], 0, 0),
  (18, .iinc 1 1, 21, [1], 1, 0),
  (21, .goto (-19), 24, [2], 0, 0),
  (24, .return_, 25, [], 0, 0)]
/-- OdometerRing$Shelf.put(ILOdometerRing$Odometer;)V -/
def cd51 : List (Nat × Row) := [(0, .iload_n 1, 1, [1], 0, 0),
  (1, .ifCond .lt 21, 4, [22], 0, 0),
  (4, .iload_n 1, 5, [1], 0, 0),
  (5, .aload_n 0, 6, [0], 0, 0),
  (6, .getfield 15, 9, [4, 0, 1, 219], 0, 0),
  (9, .arraylength, 10, [], 0, 0),
  (10, .if_icmp .ge 12, 13, [22], 0, 0),
  (13, .iload_n 1, 14, [1], 0, 0),
  (14, .aload_n 0, 15, [0], 0, 0),
  (15, .getfield 21, 18, [4, 1, 1, 220], 0, 0),
  (18, .arraylength, 19, [], 0, 0),
  (19, .if_icmp .lt 4, 22, [23], 0, 0),
  (22, .return_, 23, [], 0, 0),
  (23, .aload_n 0, 24, [0], 0, 0),
  (24, .getfield 15, 27, [4, 0, 1, 219], 0, 0),
  (27, .iload_n 1, 28, [1], 0, 0),
  (28, .aaload, 29, [], 0, 0),
  (29, .astore_n 3, 30, [3], 0, 0),
  (30, .aload_n 3, 31, [3], 0, 0),
  (31, .ifnull 15, 34, [46], 0, 0),
  (34, .aload_n 3, 35, [3], 0, 0),
  (35, .aload_n 2, 36, [2], 0, 0),
  (36, .invokevirtual 26, 39, [21, 512, 513, 514, 12, 515], 0, 0),
  (39, .aload_n 0, 40, [0], 0, 0),
  (40, .getfield 21, 43, [4, 1, 1, 220], 0, 0),
  (43, .iload_n 1, 44, [1], 0, 0),
  (44, .iconst 1, 45, [], 1, 0),
  (45, .bastore, 46, [], 0, 0),
  (46, .return_, 47, [], 0, 0)]
/-- OdometerRing$Shelf.take(ILOdometerRing$Odometer;)V -/
def cd52 : List (Nat × Row) := [(0, .iload_n 1, 1, [1], 0, 0),
  (1, .ifCond .lt 12, 4, [13], 0, 0),
  (4, .iload_n 1, 5, [1], 0, 0),
  (5, .aload_n 0, 6, [0], 0, 0),
  (6, .getfield 15, 9, [4, 0, 1, 219], 0, 0),
  (9, .arraylength, 10, [], 0, 0),
  (10, .if_icmp .lt 4, 13, [14], 0, 0),
  (13, .return_, 14, [], 0, 0),
  (14, .aload_n 0, 15, [0], 0, 0),
  (15, .getfield 15, 18, [4, 0, 1, 219], 0, 0),
  (18, .iload_n 1, 19, [1], 0, 0),
  (19, .aaload, 20, [], 0, 0),
  (20, .astore_n 3, 21, [3], 0, 0),
  (21, .aload_n 3, 22, [3], 0, 0),
  (22, .ifnull 8, 25, [30], 0, 0),
  (25, .aload_n 2, 26, [2], 0, 0),
  (26, .aload_n 3, 27, [3], 0, 0),
  (27, .invokevirtual 26, 30, [21, 512, 513, 514, 12, 515], 0, 0),
  (30, .return_, 31, [], 0, 0)]
/-- OdometerRing$Story.<init>()V -/
def cd53 : List (Nat × Row) := [(0, .aload_n 0, 1, [0], 0, 0),
  (1, .invokespecial 3, 4, [0, 38, 31, 32], 0, 0),
  (4, .aload_n 0, 5, [0], 0, 0),
  (5, .bipush 90, 7, [], 90, 0),
  (7, .newarray .int, 9, [8, 74], 0, 0),
  (9, .putfield 9, 12, [5, 8, 1, 1, 54], 0, 0),
  (12, .return_, 13, [], 0, 0)]
/-- OdometerRing$Story.add(I)I -/
def cd54 : List (Nat × Row) := [(0, .aload_n 0, 1, [0], 0, 0),
  (1, .getfield 15, 4, [5, 0, 0, 39], 0, 0),
  (4, .ifCond .lt 35, 7, [39], 0, 0),
  (7, .aload_n 0, 8, [0], 0, 0),
  (8, .getfield 15, 11, [5, 0, 0, 39], 0, 0),
  (11, .aload_n 0, 12, [0], 0, 0),
  (12, .getfield 9, 15, [5, 8, 1, 54], 0, 0),
  (15, .arraylength, 16, [], 0, 0),
  (16, .if_icmp .ge 23, 19, [39], 0, 0),
  (19, .aload_n 0, 20, [0], 0, 0),
  (20, .getfield 9, 23, [5, 8, 1, 54], 0, 0),
  (23, .aload_n 0, 24, [0], 0, 0),
  (24, .getfield 15, 27, [5, 0, 0, 39], 0, 0),
  (27, .iload_n 1, 28, [1], 0, 0),
  (28, .iastore, 29, [], 0, 0),
  (29, .aload_n 0, 30, [0], 0, 0),
  (30, .dup, 31, [], 0, 0),
  (31, .getfield 15, 34, [5, 0, 0, 39], 0, 0),
  (34, .iconst 1, 35, [], 1, 0),
  (35, .iadd, 36, [], 0, 0),
  (36, .putfield 15, 39, [5, 0, 0, 0, 39], 0, 0),
  (39, .aload_n 0, 40, [0], 0, 0),
  (40, .getfield 15, 43, [5, 0, 0, 39], 0, 0),
  (43, .ireturn, 44, [], 0, 0)]
/-- OdometerRing$Story.empty()I -/
def cd55 : List (Nat × Row) := [(0, .aload_n 0, 1, [0], 0, 0),
  (1, .getfield 15, 4, [5, 0, 0, 39], 0, 0),
  (4, .istore_n 1, 5, [1], 0, 0),
  (5, .aload_n 0, 6, [0], 0, 0),
  (6, .iconst 0, 7, [], 0, 0),
  (7, .putfield 15, 10, [5, 0, 0, 0, 39], 0, 0),
  (10, .iload_n 1, 11, [1], 0, 0),
  (11, .ireturn, 12, [], 0, 0)]
/-- OdometerRing$Story.errorAt()I -/
def cd56 : List (Nat × Row) := [(0, .aload_n 0, 1, [0], 0, 0),
  (1, .invokevirtual 19, 4, [58, 273, 274, 275, 11, 276], 0, 0),
  (4, .ifCond .ne 8, 7, [12], 0, 0),
  (7, .aload_n 0, 8, [0], 0, 0),
  (8, .getfield 23, 11, [5, 7, 0, 53], 0, 0),
  (11, .ireturn, 12, [], 0, 0),
  (12, .iconst 0, 13, [], 0, 0),
  (13, .istore_n 1, 14, [1], 0, 0),
  (14, .iload_n 1, 15, [1], 0, 0),
  (15, .bipush 90, 17, [], 90, 0),
  (17, .if_icmp .ge 28, 20, [45], 0, 0),
  (20, .aload_n 0, 21, [0], 0, 0),
  (21, .invokevirtual 26, 24, [57, 286, 287, 288, 11, 289], 0, 0),
  (24, .ifCond .ne 21, 27, [45], 0, 0),
  (27, .aload_n 0, 28, [0], 0, 0),
  (28, .invokevirtual 29, 31, [59, 290, 291, 292, 11, 293], 0, 0),
  (31, .ifCond .ne 8, 34, [39], 0, 0),
  (34, .aload_n 0, 35, [0], 0, 0),
  (35, .getfield 23, 38, [5, 7, 0, 53], 0, 0),
  (38, .ireturn, 39, [], 0, 0),
  (39, .iinc 1 1, 42, [1], 1, 0),
  (42, .goto (-28), 45, [14], 0, 0),
  (45, .ldc 32, 47, [281], (-99999), 0),
  (47, .ireturn, 48, [], 0, 0)]
/-- OdometerRing$Story.isAtEnd()Z -/
def cd57 : List (Nat × Row) := [(0, .aload_n 0, 1, [0], 0, 0),
  (1, .getfield 23, 4, [5, 7, 0, 53], 0, 0),
  (4, .aload_n 0, 5, [0], 0, 0),
  (5, .getfield 15, 8, [5, 0, 0, 39], 0, 0),
  (8, .if_icmp .lt 7, 11, [15], 0, 0),
  (11, .iconst 1, 12, [], 1, 0),
  (12, .goto 4, 15, [16], 0, 0),
  (15, .iconst 0, 16, [], 0, 0),
  (16, .ireturn, 17, [], 0, 0)]
/-- OdometerRing$Story.readHead()Z -/
def cd58 : List (Nat × Row) := [(0, .aload_n 0, 1, [0], 0, 0),
  (1, .iconst 0, 2, [], 0, 0),
  (2, .putfield 23, 5, [5, 7, 0, 0, 53], 0, 0),
  (5, .aload_n 0, 6, [0], 0, 0),
  (6, .invokevirtual 33, 9, [61, 277, 279, 0, 11, 280], 0, 0),
  (9, .bipush 79, 11, [], 79, 0),
  (11, .if_icmp .eq 5, 14, [16], 0, 0),
  (14, .iconst 0, 15, [], 0, 0),
  (15, .ireturn, 16, [], 0, 0),
  (16, .aload_n 0, 17, [0], 0, 0),
  (17, .dup, 18, [], 0, 0),
  (18, .getfield 23, 21, [5, 7, 0, 53], 0, 0),
  (21, .iconst 1, 22, [], 1, 0),
  (22, .iadd, 23, [], 0, 0),
  (23, .putfield 23, 26, [5, 7, 0, 0, 53], 0, 0),
  (26, .aload_n 0, 27, [0], 0, 0),
  (27, .aload_n 0, 28, [0], 0, 0),
  (28, .iconst 2, 29, [], 2, 0),
  (29, .iconst 3, 30, [], 3, 0),
  (30, .bipush 12, 32, [], 12, 0),
  (32, .invokevirtual 37, 35, [60, 282, 284, 1, 11, 285], 0, 0),
  (35, .putfield 41, 38, [5, 1, 0, 0, 42], 0, 0),
  (38, .aload_n 0, 39, [0], 0, 0),
  (39, .aload_n 0, 40, [0], 0, 0),
  (40, .getfield 41, 43, [5, 1, 0, 42], 0, 0),
  (43, .ldc 32, 45, [281], (-99999), 0),
  (45, .if_icmp .ne 8, 48, [53], 0, 0),
  (48, .ldc 32, 50, [281], (-99999), 0),
  (50, .goto 11, 53, [61], 0, 0),
  (53, .aload_n 0, 54, [0], 0, 0),
  (54, .iconst 2, 55, [], 2, 0),
  (55, .iconst 1, 56, [], 1, 0),
  (56, .bipush 99, 58, [], 99, 0),
  (58, .invokevirtual 37, 61, [60, 282, 284, 1, 11, 285], 0, 0),
  (61, .putfield 44, 64, [5, 2, 0, 0, 44], 0, 0),
  (64, .aload_n 0, 65, [0], 0, 0),
  (65, .aload_n 0, 66, [0], 0, 0),
  (66, .getfield 44, 69, [5, 2, 0, 44], 0, 0),
  (69, .ldc 32, 71, [281], (-99999), 0),
  (71, .if_icmp .ne 8, 74, [79], 0, 0),
  (74, .ldc 32, 76, [281], (-99999), 0),
  (76, .goto 13, 79, [89], 0, 0),
  (79, .aload_n 0, 80, [0], 0, 0),
  (80, .iconst 3, 81, [], 3, 0),
  (81, .bipush 10, 83, [], 10, 0),
  (83, .sipush 999, 86, [], 999, 0),
  (86, .invokevirtual 37, 89, [60, 282, 284, 1, 11, 285], 0, 0),
  (89, .putfield 47, 92, [5, 3, 0, 0, 46], 0, 0),
  (92, .aload_n 0, 93, [0], 0, 0),
  (93, .getfield 47, 96, [5, 3, 0, 46], 0, 0),
  (96, .ldc 32, 98, [281], (-99999), 0),
  (98, .if_icmp .eq 7, 101, [105], 0, 0),
  (101, .iconst 1, 102, [], 1, 0),
  (102, .goto 4, 105, [106], 0, 0),
  (105, .iconst 0, 106, [], 0, 0),
  (106, .ireturn, 107, [], 0, 0)]
/-- OdometerRing$Story.readCommand()Z -/
def cd59 : List (Nat × Row) := [(0, .aload_n 0, 1, [0], 0, 0),
  (1, .aload_n 0, 2, [0], 0, 0),
  (2, .invokevirtual 33, 5, [61, 277, 279, 0, 11, 280], 0, 0),
  (5, .putfield 50, 8, [5, 4, 0, 0, 48], 0, 0),
  (8, .aload_n 0, 9, [0], 0, 0),
  (9, .iconst 0, 10, [], 0, 0),
  (10, .putfield 53, 13, [5, 5, 0, 0, 50], 0, 0),
  (13, .aload_n 0, 14, [0], 0, 0),
  (14, .iconst 0, 15, [], 0, 0),
  (15, .putfield 56, 18, [5, 6, 0, 0, 52], 0, 0),
  (18, .aload_n 0, 19, [0], 0, 0),
  (19, .getfield 50, 22, [5, 4, 0, 48], 0, 0),
  (22, .lookupswitch 219 #[(99, 76), (100, 50), (109, 139), (114, 190), (115, 126)], 72, [241, 99, 98, 100, 72, 109, 161, 114, 212, 115, 148], 0, 0),
  (72, .aload_n 0, 73, [0], 0, 0),
  (73, .dup, 74, [], 0, 0),
  (74, .getfield 23, 77, [5, 7, 0, 53], 0, 0),
  (77, .iconst 1, 78, [], 1, 0),
  (78, .iadd, 79, [], 0, 0),
  (79, .putfield 23, 82, [5, 7, 0, 0, 53], 0, 0),
  (82, .aload_n 0, 83, [0], 0, 0),
  (83, .aload_n 0, 84, [0], 0, 0),
  (84, .iconst 3, 85, [], 3, 0),
  (85, .iconst 1, 86, [], 1, 0),
  (86, .sipush 999, 89, [], 999, 0),
  (89, .invokevirtual 37, 92, [60, 282, 284, 1, 11, 285], 0, 0),
  (92, .putfield 53, 95, [5, 5, 0, 0, 50], 0, 0),
  (95, .goto 148, 98, [243], 0, 0),
  (98, .aload_n 0, 99, [0], 0, 0),
  (99, .dup, 100, [], 0, 0),
  (100, .getfield 23, 103, [5, 7, 0, 53], 0, 0),
  (103, .iconst 1, 104, [], 1, 0),
  (104, .iadd, 105, [], 0, 0),
  (105, .putfield 23, 108, [5, 7, 0, 0, 53], 0, 0),
  (108, .aload_n 0, 109, [0], 0, 0),
  (109, .aload_n 0, 110, [0], 0, 0),
  (110, .iconst 2, 111, [], 2, 0),
  (111, .iconst 1, 112, [], 1, 0),
  (112, .bipush 36, 114, [], 36, 0),
  (114, .invokevirtual 37, 117, [60, 282, 284, 1, 11, 285], 0, 0),
  (117, .putfield 53, 120, [5, 5, 0, 0, 50], 0, 0),
  (120, .aload_n 0, 121, [0], 0, 0),
  (121, .aload_n 0, 122, [0], 0, 0),
  (122, .getfield 53, 125, [5, 5, 0, 50], 0, 0),
  (125, .ldc 32, 127, [281], (-99999), 0),
  (127, .if_icmp .ne 8, 130, [135], 0, 0),
  (130, .ldc 32, 132, [281], (-99999), 0),
  (132, .goto 10, 135, [142], 0, 0),
  (135, .aload_n 0, 136, [0], 0, 0),
  (136, .iconst 1, 137, [], 1, 0),
  (137, .iconst 0, 138, [], 0, 0),
  (138, .iconst 2, 139, [], 2, 0),
  (139, .invokevirtual 37, 142, [60, 282, 284, 1, 11, 285], 0, 0),
  (142, .putfield 56, 145, [5, 6, 0, 0, 52], 0, 0),
  (145, .goto 98, 148, [243], 0, 0),
  (148, .aload_n 0, 149, [0], 0, 0),
  (149, .dup, 150, [], 0, 0),
  (150, .getfield 23, 153, [5, 7, 0, 53], 0, 0),
  (153, .iconst 1, 154, [], 1, 0),
  (154, .iadd, 155, [], 0, 0),
  (155, .putfield 23, 158, [5, 7, 0, 0, 53], 0, 0),
  (158, .goto 85, 161, [243], 0, 0),
  (161, .aload_n 0, 162, [0], 0, 0),
  (162, .dup, 163, [], 0, 0),
  (163, .getfield 23, 166, [5, 7, 0, 53], 0, 0),
  (166, .iconst 1, 167, [], 1, 0),
  (167, .iadd, 168, [], 0, 0),
  (168, .putfield 23, 171, [5, 7, 0, 0, 53], 0, 0),
  (171, .aload_n 0, 172, [0], 0, 0),
  (172, .aload_n 0, 173, [0], 0, 0),
  (173, .iconst 1, 174, [], 1, 0),
  (174, .iconst 0, 175, [], 0, 0),
  (175, .bipush 9, 177, [], 9, 0),
  (177, .invokevirtual 37, 180, [60, 282, 284, 1, 11, 285], 0, 0),
  (180, .putfield 53, 183, [5, 5, 0, 0, 50], 0, 0),
  (183, .aload_n 0, 184, [0], 0, 0),
  (184, .aload_n 0, 185, [0], 0, 0),
  (185, .getfield 53, 188, [5, 5, 0, 50], 0, 0),
  (188, .ldc 32, 190, [281], (-99999), 0),
  (190, .if_icmp .ne 8, 193, [198], 0, 0),
  (193, .ldc 32, 195, [281], (-99999), 0),
  (195, .goto 11, 198, [206], 0, 0),
  (198, .aload_n 0, 199, [0], 0, 0),
  (199, .iconst 1, 200, [], 1, 0),
  (200, .iconst 0, 201, [], 0, 0),
  (201, .bipush 9, 203, [], 9, 0),
  (203, .invokevirtual 37, 206, [60, 282, 284, 1, 11, 285], 0, 0),
  (206, .putfield 56, 209, [5, 6, 0, 0, 52], 0, 0),
  (209, .goto 34, 212, [243], 0, 0),
  (212, .aload_n 0, 213, [0], 0, 0),
  (213, .dup, 214, [], 0, 0),
  (214, .getfield 23, 217, [5, 7, 0, 53], 0, 0),
  (217, .iconst 1, 218, [], 1, 0),
  (218, .iadd, 219, [], 0, 0),
  (219, .putfield 23, 222, [5, 7, 0, 0, 53], 0, 0),
  (222, .aload_n 0, 223, [0], 0, 0),
  (223, .aload_n 0, 224, [0], 0, 0),
  (224, .iconst 2, 225, [], 2, 0),
  (225, .iconst 0, 226, [], 0, 0),
  (226, .aload_n 0, 227, [0], 0, 0),
  (227, .getfield 41, 230, [5, 1, 0, 42], 0, 0),
  (230, .iconst 1, 231, [], 1, 0),
  (231, .isub, 232, [], 0, 0),
  (232, .invokevirtual 37, 235, [60, 282, 284, 1, 11, 285], 0, 0),
  (235, .putfield 53, 238, [5, 5, 0, 0, 50], 0, 0),
  (238, .goto 5, 241, [243], 0, 0),
  (241, .iconst 0, 242, [], 0, 0),
  (242, .ireturn, 243, [], 0, 0),
  (243, .aload_n 0, 244, [0], 0, 0),
  (244, .getfield 53, 247, [5, 5, 0, 50], 0, 0),
  (247, .ldc 32, 249, [281], (-99999), 0),
  (249, .if_icmp .eq 16, 252, [265], 0, 0),
  (252, .aload_n 0, 253, [0], 0, 0),
  (253, .getfield 56, 256, [5, 6, 0, 52], 0, 0),
  (256, .ldc 32, 258, [281], (-99999), 0),
  (258, .if_icmp .eq 7, 261, [265], 0, 0),
  (261, .iconst 1, 262, [], 1, 0),
  (262, .goto 4, 265, [266], 0, 0),
  (265, .iconst 0, 266, [], 0, 0),
  (266, .ireturn, 267, [], 0, 0)]
/-- OdometerRing$Story.readNumber(III)I -/
def cd60 : List (Nat × Row) := [(0, .iconst 1, 1, [], 1, 0),
  (1, .istore 4, 3, [4], 0, 0),
  (3, .iconst 0, 4, [], 0, 0),
  (4, .istore 5, 6, [5], 0, 0),
  (6, .iload 5, 8, [5], 0, 0),
  (8, .iload_n 1, 9, [1], 0, 0),
  (9, .if_icmp .ge 16, 12, [25], 0, 0),
  (12, .iload 4, 14, [4], 0, 0),
  (14, .bipush 10, 16, [], 10, 0),
  (16, .imul, 17, [], 0, 0),
  (17, .istore 4, 19, [4], 0, 0),
  (19, .iinc 5 1, 22, [5], 1, 0),
  (22, .goto (-16), 25, [6], 0, 0),
  (25, .iconst 0, 26, [], 0, 0),
  (26, .istore 5, 28, [5], 0, 0),
  (28, .iconst 0, 29, [], 0, 0),
  (29, .istore 6, 31, [6], 0, 0),
  (31, .iload 6, 33, [6], 0, 0),
  (33, .iload_n 1, 34, [1], 0, 0),
  (34, .if_icmp .ge 79, 37, [113], 0, 0),
  (37, .iload 4, 39, [4], 0, 0),
  (39, .bipush 10, 41, [], 10, 0),
  (41, .idiv, 42, [], 0, 0),
  (42, .istore 4, 44, [4], 0, 0),
  (44, .aload_n 0, 45, [0], 0, 0),
  (45, .invokevirtual 33, 48, [61, 277, 279, 0, 11, 280], 0, 0),
  (48, .bipush 48, 50, [], 48, 0),
  (50, .isub, 51, [], 0, 0),
  (51, .istore 7, 53, [7], 0, 0),
  (53, .iload 5, 55, [5], 0, 0),
  (55, .iload 7, 57, [7], 0, 0),
  (57, .iload 4, 59, [4], 0, 0),
  (59, .imul, 60, [], 0, 0),
  (60, .iadd, 61, [], 0, 0),
  (61, .istore 8, 63, [8], 0, 0),
  (63, .iload 7, 65, [7], 0, 0),
  (65, .ifCond .lt 25, 68, [90], 0, 0),
  (68, .iload 7, 70, [7], 0, 0),
  (70, .bipush 9, 72, [], 9, 0),
  (72, .if_icmp .gt 18, 75, [90], 0, 0),
  (75, .iload 8, 77, [8], 0, 0),
  (77, .iload_n 3, 78, [3], 0, 0),
  (78, .if_icmp .gt 12, 81, [90], 0, 0),
  (81, .iload 8, 83, [8], 0, 0),
  (83, .iload 4, 85, [4], 0, 0),
  (85, .iadd, 86, [], 0, 0),
  (86, .iload_n 2, 87, [2], 0, 0),
  (87, .if_icmp .gt 6, 90, [93], 0, 0),
  (90, .ldc 32, 92, [281], (-99999), 0),
  (92, .ireturn, 93, [], 0, 0),
  (93, .iload 8, 95, [8], 0, 0),
  (95, .istore 5, 97, [5], 0, 0),
  (97, .aload_n 0, 98, [0], 0, 0),
  (98, .dup, 99, [], 0, 0),
  (99, .getfield 23, 102, [5, 7, 0, 53], 0, 0),
  (102, .iconst 1, 103, [], 1, 0),
  (103, .iadd, 104, [], 0, 0),
  (104, .putfield 23, 107, [5, 7, 0, 0, 53], 0, 0),
  (107, .iinc 6 1, 110, [6], 1, 0),
  (110, .goto (-79), 113, [31], 0, 0),
  (113, .iload 5, 115, [5], 0, 0),
  (115, .ireturn, 116, [], 0, 0)]
/-- OdometerRing$Story.signHere()I -/
def cd61 : List (Nat × Row) := [(0, .aload_n 0, 1, [0], 0, 0),
  (1, .getfield 23, 4, [5, 7, 0, 53], 0, 0),
  (4, .ifCond .lt 38, 7, [42], 0, 0),
  (7, .aload_n 0, 8, [0], 0, 0),
  (8, .getfield 23, 11, [5, 7, 0, 53], 0, 0),
  (11, .aload_n 0, 12, [0], 0, 0),
  (12, .getfield 15, 15, [5, 0, 0, 39], 0, 0),
  (15, .if_icmp .ge 27, 18, [42], 0, 0),
  (18, .aload_n 0, 19, [0], 0, 0),
  (19, .getfield 23, 22, [5, 7, 0, 53], 0, 0),
  (22, .aload_n 0, 23, [0], 0, 0),
  (23, .getfield 9, 26, [5, 8, 1, 54], 0, 0),
  (26, .arraylength, 27, [], 0, 0),
  (27, .if_icmp .ge 15, 30, [42], 0, 0),
  (30, .aload_n 0, 31, [0], 0, 0),
  (31, .getfield 9, 34, [5, 8, 1, 54], 0, 0),
  (34, .aload_n 0, 35, [0], 0, 0),
  (35, .getfield 23, 38, [5, 7, 0, 53], 0, 0),
  (38, .iaload, 39, [], 0, 0),
  (39, .goto 5, 42, [44], 0, 0),
  (42, .ldc 32, 44, [281], (-99999), 0),
  (44, .ireturn, 45, [], 0, 0)]
/-- OdometerRing.<init>()V -/
def cd62 : List (Nat × Row) := [(0, .aload_n 0, 1, [0], 0, 0),
  (1, .invokespecial 1, 4, [0, 30, 31, 32], 0, 0),
  (4, .aload_n 0, 5, [0], 0, 0),
  (5, .new 7, 8, [0, 5, 33, 34, 11], 0, 0),
  (8, .dup, 9, [], 0, 0),
  (9, .invokespecial 9, 12, [2, 53, 36, 11, 37, 0], 0, 0),
  (12, .putfield 10, 15, [6, 0, 1, 1, 240], 0, 0),
  (15, .aload_n 0, 16, [0], 0, 0),
  (16, .new 16, 19, [0, 2, 75, 76, 12], 0, 0),
  (19, .dup, 20, [], 0, 0),
  (20, .invokespecial 18, 23, [1, 19, 78, 12, 79, 77], 0, 0),
  (23, .putfield 19, 26, [6, 1, 1, 1, 241], 0, 0),
  (26, .aload_n 0, 27, [0], 0, 0),
  (27, .new 16, 30, [0, 2, 75, 76, 12], 0, 0),
  (30, .dup, 31, [], 0, 0),
  (31, .invokespecial 18, 34, [1, 19, 78, 12, 79, 77], 0, 0),
  (34, .putfield 23, 37, [6, 2, 1, 1, 242], 0, 0),
  (37, .aload_n 0, 38, [0], 0, 0),
  (38, .new 26, 41, [0, 1, 201, 202, 16], 0, 0),
  (41, .dup, 42, [], 0, 0),
  (42, .invokespecial 28, 45, [2, 15, 204, 16, 205, 3], 0, 0),
  (45, .putfield 29, 48, [6, 3, 1, 1, 243], 0, 0),
  (48, .aload_n 0, 49, [0], 0, 0),
  (49, .new 33, 52, [0, 4, 238, 208, 17], 0, 0),
  (52, .dup, 53, [], 0, 0),
  (53, .iconst 2, 54, [], 2, 0),
  (54, .invokespecial 35, 57, [1, 48, 210, 17, 211, 239], 0, 0),
  (57, .putfield 38, 60, [6, 4, 1, 1, 244], 0, 0),
  (60, .return_, 61, [], 0, 0)]
/-- OdometerRing.append(I)I -/
def cd63 : List (Nat × Row) := [(0, .iload_n 1, 1, [1], 0, 0),
  (1, .ifCond .lt 10, 4, [11], 0, 0),
  (4, .iload_n 1, 5, [1], 0, 0),
  (5, .sipush 255, 8, [], 255, 0),
  (8, .if_icmp .le 13, 11, [21], 0, 0),
  (11, .new 42, 21, [1, 0, 0, 44, 46, 22, 562, 21], 0, 0),
  (21, .aload_n 0, 22, [0], 0, 0),
  (22, .getfield 10, 25, [6, 0, 1, 240], 0, 0),
  (25, .getfield 49, 28, [5, 0, 0, 40], 0, 0),
  (28, .bipush 90, 30, [], 90, 0),
  (30, .if_icmp .lt 13, 33, [43], 0, 0),
  (33, .new 53, 43, [1, 1, 0, 55, 57, 23, 296, 23], 0, 0),
  (43, .aload_n 0, 44, [0], 0, 0),
  (44, .getfield 10, 47, [6, 0, 1, 240], 0, 0),
  (47, .iload_n 1, 48, [1], 0, 0),
  (48, .invokevirtual 58, 51, [54, 832, 833, 834, 11, 835], 0, 0),
  (51, .ireturn, 52, [], 0, 0)]
/-- OdometerRing.clearText()I -/
def cd64 : List (Nat × Row) := [(0, .aload_n 0, 1, [0], 0, 0),
  (1, .getfield 10, 4, [6, 0, 1, 240], 0, 0),
  (4, .invokevirtual 62, 7, [55, 889, 890, 891, 11, 892], 0, 0),
  (7, .ireturn, 8, [], 0, 0)]
/-- OdometerRing.errorPosition()I -/
def cd65 : List (Nat × Row) := [(0, .aload_n 0, 1, [0], 0, 0),
  (1, .getfield 10, 4, [6, 0, 1, 240], 0, 0),
  (4, .invokevirtual 66, 7, [56, 269, 270, 271, 11, 272], 0, 0),
  (7, .ireturn, 8, [], 0, 0)]
/-- OdometerRing.load()I -/
def cd66 : List (Nat × Row) := [(0, .aload_n 0, 1, [0], 0, 0),
  (1, .getfield 10, 4, [6, 0, 1, 240], 0, 0),
  (4, .invokevirtual 66, 7, [56, 269, 270, 271, 11, 272], 0, 0),
  (7, .ldc 69, 9, [294], (-99999), 0),
  (9, .if_icmp .ne 13, 12, [22], 0, 0),
  (12, .aload_n 0, 13, [0], 0, 0),
  (13, .getfield 10, 16, [6, 0, 1, 240], 0, 0),
  (16, .invokevirtual 70, 19, [58, 295, 274, 275, 11, 276], 0, 0),
  (19, .ifCond .ne 13, 22, [32], 0, 0),
  (22, .new 53, 32, [1, 1, 0, 74, 57, 0, 296, 23], 0, 0),
  (32, .aload_n 0, 33, [0], 0, 0),
  (33, .getfield 19, 36, [6, 1, 1, 241], 0, 0),
  (36, .aload_n 0, 37, [0], 0, 0),
  (37, .getfield 10, 40, [6, 0, 1, 240], 0, 0),
  (40, .getfield 76, 43, [5, 1, 0, 41], 0, 0),
  (43, .aload_n 0, 44, [0], 0, 0),
  (44, .getfield 10, 47, [6, 0, 1, 240], 0, 0),
  (47, .getfield 79, 50, [5, 2, 0, 43], 0, 0),
  (50, .aload_n 0, 51, [0], 0, 0),
  (51, .getfield 10, 54, [6, 0, 1, 240], 0, 0),
  (54, .getfield 82, 57, [5, 3, 0, 45], 0, 0),
  (57, .invokevirtual 85, 60, [20, 364, 122, 123, 12, 124], 0, 0),
  (60, .aload_n 0, 61, [0], 0, 0),
  (61, .getfield 29, 64, [6, 3, 1, 243], 0, 0),
  (64, .invokevirtual 89, 67, [18, 365, 366, 367, 16, 368], 0, 0),
  (67, .aload_n 0, 68, [0], 0, 0),
  (68, .getfield 38, 71, [6, 4, 1, 244], 0, 0),
  (71, .invokevirtual 92, 74, [50, 369, 370, 371, 17, 372], 0, 0),
  (74, .iconst 0, 75, [], 0, 0),
  (75, .istore_n 1, 76, [1], 0, 0),
  (76, .iconst 0, 77, [], 0, 0),
  (77, .istore_n 2, 78, [2], 0, 0),
  (78, .iload_n 2, 79, [2], 0, 0),
  (79, .bipush 90, 81, [], 90, 0),
  (81, .if_icmp .ge 63, 84, [144], 0, 0),
  (84, .aload_n 0, 85, [0], 0, 0),
  (85, .getfield 10, 88, [6, 0, 1, 240], 0, 0),
  (88, .invokevirtual 95, 91, [57, 373, 287, 288, 11, 289], 0, 0),
  (91, .ifCond .ne 53, 94, [144], 0, 0),
  (94, .aload_n 0, 95, [0], 0, 0),
  (95, .getfield 10, 98, [6, 0, 1, 240], 0, 0),
  (98, .invokevirtual 98, 101, [59, 374, 291, 292, 11, 293], 0, 0),
  (101, .ifCond .eq 34, 104, [135], 0, 0),
  (104, .aload_n 0, 105, [0], 0, 0),
  (105, .getfield 19, 108, [6, 1, 1, 241], 0, 0),
  (108, .aload_n 0, 109, [0], 0, 0),
  (109, .getfield 10, 112, [6, 0, 1, 240], 0, 0),
  (112, .getfield 101, 115, [5, 4, 0, 47], 0, 0),
  (115, .aload_n 0, 116, [0], 0, 0),
  (116, .getfield 10, 119, [6, 0, 1, 240], 0, 0),
  (119, .getfield 104, 122, [5, 5, 0, 49], 0, 0),
  (122, .aload_n 0, 123, [0], 0, 0),
  (123, .getfield 10, 126, [6, 0, 1, 240], 0, 0),
  (126, .getfield 107, 129, [5, 6, 0, 51], 0, 0),
  (129, .invokevirtual 110, 132, [34, 375, 376, 377, 12, 378], 0, 0),
  (132, .ifCond .ne 6, 135, [138], 0, 0),
  (135, .iinc 1 1, 138, [1], 1, 0),
  (138, .iinc 2 1, 141, [2], 1, 0),
  (141, .goto (-63), 144, [78], 0, 0),
  (144, .iload_n 1, 145, [1], 0, 0),
  (145, .ireturn, 146, [], 0, 0)]
/-- OdometerRing.about(I)I -/
def cd67 : List (Nat × Row) := [(0, .iload_n 1, 1, [1], 0, 0),
  (1, .ifCond .lt 9, 4, [10], 0, 0),
  (4, .iload_n 1, 5, [1], 0, 0),
  (5, .bipush 14, 7, [], 14, 0),
  (7, .if_icmp .le 13, 10, [20], 0, 0),
  (10, .new 42, 20, [1, 0, 0, 114, 46, 3, 562, 21], 0, 0),
  (20, .iload_n 1, 21, [1], 0, 0),
  (21, .bipush 8, 23, [], 8, 0),
  (23, .if_icmp .ge 14, 26, [37], 0, 0),
  (26, .aload_n 0, 27, [0], 0, 0),
  (27, .getfield 19, 30, [6, 1, 1, 241], 0, 0),
  (30, .iload_n 1, 31, [1], 0, 0),
  (31, .invokevirtual 116, 34, [22, 578, 579, 580, 12, 581], 0, 0),
  (34, .goto 11, 37, [45], 0, 0),
  (37, .aload_n 0, 38, [0], 0, 0),
  (38, .getfield 19, 41, [6, 1, 1, 241], 0, 0),
  (41, .iload_n 1, 42, [1], 0, 0),
  (42, .invokevirtual 119, 45, [23, 582, 583, 584, 12, 585], 0, 0),
  (45, .ireturn, 46, [], 0, 0)]
/-- OdometerRing.cell(III)I -/
def cd68 : List (Nat × Row) := [(0, .aload_n 0, 1, [0], 0, 0),
  (1, .getfield 19, 4, [6, 1, 1, 241], 0, 0),
  (4, .getfield 122, 7, [2, 0, 1, 138], 0, 0),
  (7, .iload_n 1, 8, [1], 0, 0),
  (8, .invokevirtual 126, 11, [3, 604, 479, 480, 13, 481], 0, 0),
  (11, .ifCond .eq 12, 14, [23], 0, 0),
  (14, .iload_n 2, 15, [2], 0, 0),
  (15, .ifCond .lt 8, 18, [23], 0, 0),
  (18, .iload_n 2, 19, [2], 0, 0),
  (19, .iconst 3, 20, [], 3, 0),
  (20, .if_icmp .lt 13, 23, [33], 0, 0),
  (23, .new 132, 33, [1, 2, 0, 134, 136, 4, 492, 22], 0, 0),
  (33, .iload_n 3, 34, [3], 0, 0),
  (34, .ifCond .lt 8, 37, [42], 0, 0),
  (37, .iload_n 3, 38, [3], 0, 0),
  (38, .iconst 2, 39, [], 2, 0),
  (39, .if_icmp .le 13, 42, [52], 0, 0),
  (42, .new 42, 52, [1, 0, 0, 137, 46, 5, 562, 21], 0, 0),
  (52, .iload_n 3, 53, [3], 0, 0),
  (53, .ifCond .ne 16, 56, [69], 0, 0),
  (56, .aload_n 0, 57, [0], 0, 0),
  (57, .getfield 19, 60, [6, 1, 1, 241], 0, 0),
  (60, .getfield 122, 63, [2, 0, 1, 138], 0, 0),
  (63, .iload_n 1, 64, [1], 0, 0),
  (64, .iload_n 2, 65, [2], 0, 0),
  (65, .invokevirtual 139, 68, [5, 607, 399, 400, 13, 401], 0, 0),
  (68, .ireturn, 69, [], 0, 0),
  (69, .iload_n 3, 70, [3], 0, 0),
  (70, .iconst 1, 71, [], 1, 0),
  (71, .if_icmp .ne 16, 74, [87], 0, 0),
  (74, .aload_n 0, 75, [0], 0, 0),
  (75, .getfield 19, 78, [6, 1, 1, 241], 0, 0),
  (78, .getfield 122, 81, [2, 0, 1, 138], 0, 0),
  (81, .iload_n 1, 82, [1], 0, 0),
  (82, .iload_n 2, 83, [2], 0, 0),
  (83, .invokevirtual 143, 86, [6, 608, 591, 592, 13, 593], 0, 0),
  (86, .ireturn, 87, [], 0, 0),
  (87, .aload_n 0, 88, [0], 0, 0),
  (88, .getfield 19, 91, [6, 1, 1, 241], 0, 0),
  (91, .getfield 122, 94, [2, 0, 1, 138], 0, 0),
  (94, .iload_n 1, 95, [1], 0, 0),
  (95, .iload_n 2, 96, [2], 0, 0),
  (96, .invokevirtual 146, 99, [7, 609, 610, 611, 13, 612], 0, 0),
  (99, .ifCond .eq 7, 102, [106], 0, 0),
  (102, .iconst 1, 103, [], 1, 0),
  (103, .goto 4, 106, [107], 0, 0),
  (106, .iconst 0, 107, [], 0, 0),
  (107, .ireturn, 108, [], 0, 0)]
/-- OdometerRing.says(I)I -/
def cd69 : List (Nat × Row) := [(0, .aload_n 0, 1, [0], 0, 0),
  (1, .getfield 19, 4, [6, 1, 1, 241], 0, 0),
  (4, .getfield 122, 7, [2, 0, 1, 138], 0, 0),
  (7, .iload_n 1, 8, [1], 0, 0),
  (8, .invokevirtual 126, 11, [3, 604, 479, 480, 13, 481], 0, 0),
  (11, .ifCond .ne 13, 14, [24], 0, 0),
  (14, .new 132, 24, [1, 2, 0, 150, 136, 8, 492, 22], 0, 0),
  (24, .aload_n 0, 25, [0], 0, 0),
  (25, .getfield 19, 28, [6, 1, 1, 241], 0, 0),
  (28, .getfield 122, 31, [2, 0, 1, 138], 0, 0),
  (31, .iload_n 1, 32, [1], 0, 0),
  (32, .invokevirtual 152, 35, [9, 643, 417, 418, 13, 419], 0, 0),
  (35, .ireturn, 36, [], 0, 0)]
/-- OdometerRing.whySilent(I)I -/
def cd70 : List (Nat × Row) := [(0, .aload_n 0, 1, [0], 0, 0),
  (1, .getfield 19, 4, [6, 1, 1, 241], 0, 0),
  (4, .getfield 122, 7, [2, 0, 1, 138], 0, 0),
  (7, .iload_n 1, 8, [1], 0, 0),
  (8, .invokevirtual 126, 11, [3, 604, 479, 480, 13, 481], 0, 0),
  (11, .ifCond .ne 13, 14, [24], 0, 0),
  (14, .new 132, 24, [1, 2, 0, 150, 136, 8, 492, 22], 0, 0),
  (24, .aload_n 0, 25, [0], 0, 0),
  (25, .getfield 19, 28, [6, 1, 1, 241], 0, 0),
  (28, .getfield 122, 31, [2, 0, 1, 138], 0, 0),
  (31, .iload_n 1, 32, [1], 0, 0),
  (32, .invokevirtual 152, 35, [9, 643, 417, 418, 13, 419], 0, 0),
  (35, .ldc 69, 37, [294], (-99999), 0),
  (37, .if_icmp .eq 5, 40, [42], 0, 0),
  (40, .iconst 0, 41, [], 0, 0),
  (41, .ireturn, 42, [], 0, 0),
  (42, .aload_n 0, 43, [0], 0, 0),
  (43, .getfield 19, 46, [6, 1, 1, 241], 0, 0),
  (46, .getfield 122, 49, [2, 0, 1, 138], 0, 0),
  (49, .iload_n 1, 50, [1], 0, 0),
  (50, .invokevirtual 155, 53, [10, 651, 652, 653, 13, 654], 0, 0),
  (53, .iconst 2, 54, [], 2, 0),
  (54, .if_icmp .ge 7, 57, [61], 0, 0),
  (57, .iconst 1, 58, [], 1, 0),
  (58, .goto 4, 61, [62], 0, 0),
  (61, .iconst 2, 62, [], 2, 0),
  (62, .ireturn, 63, [], 0, 0)]
/-- OdometerRing.share(I)I -/
def cd71 : List (Nat × Row) := [(0, .aload_n 0, 1, [0], 0, 0),
  (1, .getfield 19, 4, [6, 1, 1, 241], 0, 0),
  (4, .getfield 122, 7, [2, 0, 1, 138], 0, 0),
  (7, .iload_n 1, 8, [1], 0, 0),
  (8, .invokevirtual 126, 11, [3, 604, 479, 480, 13, 481], 0, 0),
  (11, .ifCond .ne 13, 14, [24], 0, 0),
  (14, .new 132, 24, [1, 2, 0, 150, 136, 8, 492, 22], 0, 0),
  (24, .iconst 0, 25, [], 0, 0),
  (25, .istore_n 2, 26, [2], 0, 0),
  (26, .iconst 0, 27, [], 0, 0),
  (27, .istore_n 3, 28, [3], 0, 0),
  (28, .iload_n 3, 29, [3], 0, 0),
  (29, .aload_n 0, 30, [0], 0, 0),
  (30, .getfield 19, 33, [6, 1, 1, 241], 0, 0),
  (33, .getfield 122, 36, [2, 0, 1, 138], 0, 0),
  (36, .getfield 158, 39, [0, 0, 0, 89], 0, 0),
  (39, .if_icmp .ge 23, 42, [62], 0, 0),
  (42, .iload_n 2, 43, [2], 0, 0),
  (43, .aload_n 0, 44, [0], 0, 0),
  (44, .getfield 19, 47, [6, 1, 1, 241], 0, 0),
  (47, .getfield 122, 50, [2, 0, 1, 138], 0, 0),
  (50, .iload_n 3, 51, [3], 0, 0),
  (51, .invokevirtual 159, 54, [8, 662, 663, 664, 13, 665], 0, 0),
  (54, .iadd, 55, [], 0, 0),
  (55, .istore_n 2, 56, [2], 0, 0),
  (56, .iinc 3 1, 59, [3], 1, 0),
  (59, .goto (-31), 62, [28], 0, 0),
  (62, .iload_n 2, 63, [2], 0, 0),
  (63, .ifCond .ne 7, 66, [70], 0, 0),
  (66, .iconst 0, 67, [], 0, 0),
  (67, .goto 19, 70, [86], 0, 0),
  (70, .bipush 100, 72, [], 100, 0),
  (72, .aload_n 0, 73, [0], 0, 0),
  (73, .getfield 19, 76, [6, 1, 1, 241], 0, 0),
  (76, .getfield 122, 79, [2, 0, 1, 138], 0, 0),
  (79, .iload_n 1, 80, [1], 0, 0),
  (80, .invokevirtual 159, 83, [8, 662, 663, 664, 13, 665], 0, 0),
  (83, .imul, 84, [], 0, 0),
  (84, .iload_n 2, 85, [2], 0, 0),
  (85, .idiv, 86, [], 0, 0),
  (86, .ireturn, 87, [], 0, 0)]
/-- OdometerRing.serviceAt(II)I -/
def cd72 : List (Nat × Row) := [(0, .iload_n 1, 1, [1], 0, 0),
  (1, .ifCond .lt 12, 4, [13], 0, 0),
  (4, .iload_n 2, 5, [2], 0, 0),
  (5, .ifCond .lt 8, 8, [13], 0, 0),
  (8, .iload_n 2, 9, [2], 0, 0),
  (9, .iconst 2, 10, [], 2, 0),
  (10, .if_icmp .le 13, 13, [23], 0, 0),
  (13, .new 42, 23, [1, 0, 0, 162, 46, 6, 562, 21], 0, 0),
  (23, .iload_n 1, 24, [1], 0, 0),
  (24, .aload_n 0, 25, [0], 0, 0),
  (25, .getfield 19, 28, [6, 1, 1, 241], 0, 0),
  (28, .getfield 164, 31, [2, 1, 1, 140], 0, 0),
  (31, .getfield 168, 34, [3, 0, 0, 111], 0, 0),
  (34, .if_icmp .lt 6, 37, [40], 0, 0),
  (37, .ldc 69, 39, [294], (-99999), 0),
  (39, .ireturn, 40, [], 0, 0),
  (40, .iload_n 2, 41, [2], 0, 0),
  (41, .iconst 2, 42, [], 2, 0),
  (42, .if_icmp .ne 15, 45, [57], 0, 0),
  (45, .aload_n 0, 46, [0], 0, 0),
  (46, .getfield 19, 49, [6, 1, 1, 241], 0, 0),
  (49, .getfield 164, 52, [2, 1, 1, 140], 0, 0),
  (52, .iload_n 1, 53, [1], 0, 0),
  (53, .invokevirtual 173, 56, [41, 622, 463, 464, 14, 465], 0, 0),
  (56, .ireturn, 57, [], 0, 0),
  (57, .aload_n 0, 58, [0], 0, 0),
  (58, .getfield 19, 61, [6, 1, 1, 241], 0, 0),
  (61, .getfield 164, 64, [2, 1, 1, 140], 0, 0),
  (64, .iload_n 1, 65, [1], 0, 0),
  (65, .invokevirtual 176, 68, [40, 623, 449, 450, 14, 451], 0, 0),
  (68, .istore_n 3, 69, [3], 0, 0),
  (69, .iload_n 2, 70, [2], 0, 0),
  (70, .ifCond .ne 10, 73, [80], 0, 0),
  (73, .iload_n 3, 74, [3], 0, 0),
  (74, .bipush 10, 76, [], 10, 0),
  (76, .idiv, 77, [], 0, 0),
  (77, .goto 7, 80, [84], 0, 0),
  (80, .iload_n 3, 81, [3], 0, 0),
  (81, .bipush 10, 83, [], 10, 0),
  (83, .irem, 84, [], 0, 0),
  (84, .ireturn, 85, [], 0, 0)]
/-- OdometerRing.lastCut(I)I -/
def cd73 : List (Nat × Row) := [(0, .iload_n 1, 1, [1], 0, 0),
  (1, .tableswitch 63 0 3 #[31, 39, 47, 55], 32, [64, 0, 32, 1, 40, 2, 48, 3, 56], 0, 0),
  (32, .aload_n 0, 33, [0], 0, 0),
  (33, .getfield 19, 36, [6, 1, 1, 241], 0, 0),
  (36, .getfield 179, 39, [2, 13, 0, 159], 0, 0),
  (39, .ireturn, 40, [], 0, 0),
  (40, .aload_n 0, 41, [0], 0, 0),
  (41, .getfield 19, 44, [6, 1, 1, 241], 0, 0),
  (44, .getfield 182, 47, [2, 14, 0, 161], 0, 0),
  (47, .ireturn, 48, [], 0, 0),
  (48, .aload_n 0, 49, [0], 0, 0),
  (49, .getfield 19, 52, [6, 1, 1, 241], 0, 0),
  (52, .getfield 185, 55, [2, 15, 0, 163], 0, 0),
  (55, .ireturn, 56, [], 0, 0),
  (56, .aload_n 0, 57, [0], 0, 0),
  (57, .getfield 19, 60, [6, 1, 1, 241], 0, 0),
  (60, .getfield 188, 63, [2, 16, 0, 165], 0, 0),
  (63, .ireturn, 64, [], 0, 0),
  (64, .new 42, 74, [1, 0, 0, 191, 46, 7, 562, 21], 0, 0)]
/-- OdometerRing.drive(I)I -/
def cd74 : List (Nat × Row) := [(0, .iload_n 1, 1, [1], 0, 0),
  (1, .invokestatic 193, 4, [0, 92, 673, 380, 10, 381], 0, 0),
  (4, .ifCond .ne 13, 7, [17], 0, 0),
  (7, .new 42, 17, [1, 0, 0, 196, 46, 9, 562, 21], 0, 0),
  (17, .aload_n 0, 18, [0], 0, 0),
  (18, .getfield 19, 21, [6, 1, 1, 241], 0, 0),
  (21, .getfield 198, 24, [2, 3, 2, 144], 0, 0),
  (24, .ifCond .ne 13, 27, [37], 0, 0),
  (27, .new 53, 37, [1, 1, 0, 202, 57, 10, 296, 23], 0, 0),
  (37, .aload_n 0, 38, [0], 0, 0),
  (38, .getfield 29, 41, [6, 3, 1, 243], 0, 0),
  (41, .aload_n 0, 42, [0], 0, 0),
  (42, .getfield 19, 45, [6, 1, 1, 241], 0, 0),
  (45, .invokevirtual 204, 48, [16, 676, 677, 678, 16, 679], 0, 0),
  (48, .aload_n 0, 49, [0], 0, 0),
  (49, .getfield 19, 52, [6, 1, 1, 241], 0, 0),
  (52, .iload_n 1, 53, [1], 0, 0),
  (53, .invokevirtual 208, 56, [24, 682, 383, 384, 12, 385], 0, 0),
  (56, .ireturn, 57, [], 0, 0)]
/-- OdometerRing.cut(II)I -/
def cd75 : List (Nat × Row) := [(0, .iload_n 1, 1, [1], 0, 0),
  (1, .iload_n 2, 2, [2], 0, 0),
  (2, .invokestatic 211, 5, [0, 93, 690, 422, 10, 423], 0, 0),
  (5, .ifCond .ne 13, 8, [18], 0, 0),
  (8, .new 42, 18, [1, 0, 0, 214, 46, 11, 562, 21], 0, 0),
  (18, .aload_n 0, 19, [0], 0, 0),
  (19, .getfield 19, 22, [6, 1, 1, 241], 0, 0),
  (22, .getfield 198, 25, [2, 3, 2, 144], 0, 0),
  (25, .ifCond .ne 13, 28, [38], 0, 0),
  (28, .new 53, 38, [1, 1, 0, 202, 57, 10, 296, 23], 0, 0),
  (38, .aload_n 0, 39, [0], 0, 0),
  (39, .getfield 29, 42, [6, 3, 1, 243], 0, 0),
  (42, .aload_n 0, 43, [0], 0, 0),
  (43, .getfield 19, 46, [6, 1, 1, 241], 0, 0),
  (46, .invokevirtual 204, 49, [16, 676, 677, 678, 16, 679], 0, 0),
  (49, .aload_n 0, 50, [0], 0, 0),
  (50, .getfield 19, 53, [6, 1, 1, 241], 0, 0),
  (53, .iload_n 1, 54, [1], 0, 0),
  (54, .iload_n 2, 55, [2], 0, 0),
  (55, .invokevirtual 216, 58, [31, 692, 425, 426, 12, 427], 0, 0),
  (58, .ireturn, 59, [], 0, 0)]
/-- OdometerRing.start()I -/
def cd76 : List (Nat × Row) := [(0, .aload_n 0, 1, [0], 0, 0),
  (1, .getfield 19, 4, [6, 1, 1, 241], 0, 0),
  (4, .getfield 198, 7, [2, 3, 2, 144], 0, 0),
  (7, .ifCond .eq 13, 10, [20], 0, 0),
  (10, .new 53, 20, [1, 1, 0, 219, 57, 19, 296, 23], 0, 0),
  (20, .aload_n 0, 21, [0], 0, 0),
  (21, .getfield 29, 24, [6, 3, 1, 243], 0, 0),
  (24, .aload_n 0, 25, [0], 0, 0),
  (25, .getfield 19, 28, [6, 1, 1, 241], 0, 0),
  (28, .invokevirtual 204, 31, [16, 676, 677, 678, 16, 679], 0, 0),
  (31, .aload_n 0, 32, [0], 0, 0),
  (32, .getfield 19, 35, [6, 1, 1, 241], 0, 0),
  (35, .invokevirtual 221, 38, [30, 750, 429, 430, 12, 431], 0, 0),
  (38, .ireturn, 39, [], 0, 0)]
/-- OdometerRing.service(II)I -/
def cd77 : List (Nat × Row) := [(0, .iload_n 1, 1, [1], 0, 0),
  (1, .iload_n 2, 2, [2], 0, 0),
  (2, .invokestatic 224, 5, [0, 94, 700, 438, 10, 439], 0, 0),
  (5, .ifCond .ne 13, 8, [18], 0, 0),
  (8, .new 42, 18, [1, 0, 0, 227, 46, 12, 562, 21], 0, 0),
  (18, .aload_n 0, 19, [0], 0, 0),
  (19, .getfield 19, 22, [6, 1, 1, 241], 0, 0),
  (22, .getfield 198, 25, [2, 3, 2, 144], 0, 0),
  (25, .ifCond .eq 18, 28, [43], 0, 0),
  (28, .aload_n 0, 29, [0], 0, 0),
  (29, .getfield 19, 32, [6, 1, 1, 241], 0, 0),
  (32, .getfield 164, 35, [2, 1, 1, 140], 0, 0),
  (35, .iload_n 1, 36, [1], 0, 0),
  (36, .iload_n 2, 37, [2], 0, 0),
  (37, .invokevirtual 229, 40, [43, 702, 441, 442, 14, 443], 0, 0),
  (40, .ifCond .ne 13, 43, [53], 0, 0),
  (43, .new 53, 53, [1, 1, 0, 232, 57, 13, 296, 23], 0, 0),
  (53, .aload_n 0, 54, [0], 0, 0),
  (54, .getfield 29, 57, [6, 3, 1, 243], 0, 0),
  (57, .aload_n 0, 58, [0], 0, 0),
  (58, .getfield 19, 61, [6, 1, 1, 241], 0, 0),
  (61, .invokevirtual 204, 64, [16, 676, 677, 678, 16, 679], 0, 0),
  (64, .aload_n 0, 65, [0], 0, 0),
  (65, .getfield 19, 68, [6, 1, 1, 241], 0, 0),
  (68, .iload_n 1, 69, [1], 0, 0),
  (69, .iload_n 2, 70, [2], 0, 0),
  (70, .invokevirtual 234, 73, [32, 704, 454, 455, 12, 456], 0, 0),
  (73, .ireturn, 74, [], 0, 0)]
/-- OdometerRing.forget(II)I -/
def cd78 : List (Nat × Row) := [(0, .iload_n 1, 1, [1], 0, 0),
  (1, .iload_n 2, 2, [2], 0, 0),
  (2, .invokestatic 224, 5, [0, 94, 700, 438, 10, 439], 0, 0),
  (5, .ifCond .ne 13, 8, [18], 0, 0),
  (8, .new 42, 18, [1, 0, 0, 227, 46, 12, 562, 21], 0, 0),
  (18, .aload_n 0, 19, [0], 0, 0),
  (19, .getfield 19, 22, [6, 1, 1, 241], 0, 0),
  (22, .getfield 164, 25, [2, 1, 1, 140], 0, 0),
  (25, .iload_n 1, 26, [1], 0, 0),
  (26, .iload_n 2, 27, [2], 0, 0),
  (27, .invokevirtual 237, 30, [42, 712, 445, 446, 14, 447], 0, 0),
  (30, .istore_n 3, 31, [3], 0, 0),
  (31, .iload_n 3, 32, [3], 0, 0),
  (32, .ldc 69, 34, [294], (-99999), 0),
  (34, .if_icmp .ne 13, 37, [47], 0, 0),
  (37, .new 53, 47, [1, 1, 0, 240, 57, 14, 296, 23], 0, 0),
  (47, .aload_n 0, 48, [0], 0, 0),
  (48, .getfield 29, 51, [6, 3, 1, 243], 0, 0),
  (51, .aload_n 0, 52, [0], 0, 0),
  (52, .getfield 19, 55, [6, 1, 1, 241], 0, 0),
  (55, .invokevirtual 204, 58, [16, 676, 677, 678, 16, 679], 0, 0),
  (58, .aload_n 0, 59, [0], 0, 0),
  (59, .getfield 19, 62, [6, 1, 1, 241], 0, 0),
  (62, .getfield 164, 65, [2, 1, 1, 140], 0, 0),
  (65, .iload_n 3, 66, [3], 0, 0),
  (66, .invokevirtual 242, 69, [45, 714, 459, 460, 14, 461], 0, 0),
  (69, .ireturn, 70, [], 0, 0)]
/-- OdometerRing.setStep(I)I -/
def cd79 : List (Nat × Row) := [(0, .iload_n 1, 1, [1], 0, 0),
  (1, .invokestatic 245, 4, [0, 95, 722, 723, 10, 724], 0, 0),
  (4, .ifCond .ne 13, 7, [17], 0, 0),
  (7, .new 42, 17, [1, 0, 0, 248, 46, 15, 562, 21], 0, 0),
  (17, .aload_n 0, 18, [0], 0, 0),
  (18, .getfield 29, 21, [6, 3, 1, 243], 0, 0),
  (21, .aload_n 0, 22, [0], 0, 0),
  (22, .getfield 19, 25, [6, 1, 1, 241], 0, 0),
  (25, .invokevirtual 204, 28, [16, 676, 677, 678, 16, 679], 0, 0),
  (28, .aload_n 0, 29, [0], 0, 0),
  (29, .getfield 19, 32, [6, 1, 1, 241], 0, 0),
  (32, .getfield 250, 35, [2, 2, 0, 142], 0, 0),
  (35, .istore_n 2, 36, [2], 0, 0),
  (36, .aload_n 0, 37, [0], 0, 0),
  (37, .getfield 19, 40, [6, 1, 1, 241], 0, 0),
  (40, .iload_n 1, 41, [1], 0, 0),
  (41, .putfield 250, 44, [2, 2, 0, 0, 142], 0, 0),
  (44, .iload_n 2, 45, [2], 0, 0),
  (45, .ireturn, 46, [], 0, 0)]
/-- OdometerRing.replace(I)I -/
def cd80 : List (Nat × Row) := [(0, .aload_n 0, 1, [0], 0, 0),
  (1, .getfield 19, 4, [6, 1, 1, 241], 0, 0),
  (4, .getfield 122, 7, [2, 0, 1, 138], 0, 0),
  (7, .iload_n 1, 8, [1], 0, 0),
  (8, .invokevirtual 126, 11, [3, 604, 479, 480, 13, 481], 0, 0),
  (11, .ifCond .ne 13, 14, [24], 0, 0),
  (14, .new 132, 24, [1, 2, 0, 150, 136, 8, 492, 22], 0, 0),
  (24, .aload_n 0, 25, [0], 0, 0),
  (25, .getfield 19, 28, [6, 1, 1, 241], 0, 0),
  (28, .iload_n 1, 29, [1], 0, 0),
  (29, .invokevirtual 251, 32, [33, 733, 475, 476, 12, 477], 0, 0),
  (32, .ifCond .ne 13, 35, [45], 0, 0),
  (35, .new 53, 45, [1, 1, 0, 254, 57, 16, 296, 23], 0, 0),
  (45, .aload_n 0, 46, [0], 0, 0),
  (46, .getfield 29, 49, [6, 3, 1, 243], 0, 0),
  (49, .aload_n 0, 50, [0], 0, 0),
  (50, .getfield 19, 53, [6, 1, 1, 241], 0, 0),
  (53, .invokevirtual 204, 56, [16, 676, 677, 678, 16, 679], 0, 0),
  (56, .aload_n 0, 57, [0], 0, 0),
  (57, .getfield 19, 60, [6, 1, 1, 241], 0, 0),
  (60, .getfield 122, 63, [2, 0, 1, 138], 0, 0),
  (63, .iload_n 1, 64, [1], 0, 0),
  (64, .invokevirtual 256, 67, [12, 735, 133, 134, 13, 135], 0, 0),
  (67, .ireturn, 68, [], 0, 0)]
/-- OdometerRing.undo()I -/
def cd81 : List (Nat × Row) := [(0, .aload_n 0, 1, [0], 0, 0),
  (1, .getfield 29, 4, [6, 3, 1, 243], 0, 0),
  (4, .getfield 259, 7, [1, 0, 0, 228], 0, 0),
  (7, .ifCond .ne 14, 10, [21], 0, 0),
  (10, .new 53, 21, [1, 1, 1, 260, 57, 24, 296, 23], 0, 0),
  (21, .aload_n 0, 22, [0], 0, 0),
  (22, .getfield 29, 25, [6, 3, 1, 243], 0, 0),
  (25, .aload_n 0, 26, [0], 0, 0),
  (26, .getfield 19, 29, [6, 1, 1, 241], 0, 0),
  (29, .invokevirtual 262, 32, [17, 868, 869, 870, 16, 871], 0, 0),
  (32, .ireturn, 33, [], 0, 0)]
/-- OdometerRing.afterCut(II)I -/
def cd82 : List (Nat × Row) := [(0, .iload_n 1, 1, [1], 0, 0),
  (1, .iload_n 2, 2, [2], 0, 0),
  (2, .invokestatic 211, 5, [0, 93, 690, 422, 10, 423], 0, 0),
  (5, .ifCond .ne 13, 8, [18], 0, 0),
  (8, .new 42, 18, [1, 0, 0, 214, 46, 11, 562, 21], 0, 0),
  (18, .aload_n 0, 19, [0], 0, 0),
  (19, .getfield 19, 22, [6, 1, 1, 241], 0, 0),
  (22, .getfield 198, 25, [2, 3, 2, 144], 0, 0),
  (25, .ifCond .eq 13, 28, [38], 0, 0),
  (28, .aload_n 0, 29, [0], 0, 0),
  (29, .getfield 19, 32, [6, 1, 1, 241], 0, 0),
  (32, .getfield 266, 35, [2, 4, 2, 146], 0, 0),
  (35, .ifCond .eq 14, 38, [49], 0, 0),
  (38, .new 53, 49, [1, 1, 1, 269, 57, 17, 296, 23], 0, 0),
  (49, .aload_n 0, 50, [0], 0, 0),
  (50, .iload_n 1, 51, [1], 0, 0),
  (51, .iload_n 2, 52, [2], 0, 0),
  (52, .invokevirtual 271, 55, [91, 744, 746, 7, 10, 747], 0, 0),
  (55, .ireturn, 56, [], 0, 0)]
/-- OdometerRing.worstLoss()I -/
def cd83 : List (Nat × Row) := [(0, .aload_n 0, 1, [0], 0, 0),
  (1, .getfield 19, 4, [6, 1, 1, 241], 0, 0),
  (4, .getfield 198, 7, [2, 3, 2, 144], 0, 0),
  (7, .ifCond .eq 13, 10, [20], 0, 0),
  (10, .aload_n 0, 11, [0], 0, 0),
  (11, .getfield 19, 14, [6, 1, 1, 241], 0, 0),
  (14, .getfield 266, 17, [2, 4, 2, 146], 0, 0),
  (17, .ifCond .eq 14, 20, [31], 0, 0),
  (20, .new 53, 31, [1, 1, 1, 269, 57, 17, 296, 23], 0, 0),
  (31, .aload_n 0, 32, [0], 0, 0),
  (32, .getfield 19, 35, [6, 1, 1, 241], 0, 0),
  (35, .getfield 274, 38, [2, 5, 0, 148], 0, 0),
  (38, .istore_n 1, 39, [1], 0, 0),
  (39, .iconst 1, 40, [], 1, 0),
  (40, .istore_n 2, 41, [2], 0, 0),
  (41, .iload_n 2, 42, [2], 0, 0),
  (42, .bipush 36, 44, [], 36, 0),
  (44, .if_icmp .gt 33, 47, [77], 0, 0),
  (47, .iconst 0, 48, [], 0, 0),
  (48, .istore_n 3, 49, [3], 0, 0),
  (49, .iload_n 3, 50, [3], 0, 0),
  (50, .iconst 2, 51, [], 2, 0),
  (51, .if_icmp .gt 20, 54, [71], 0, 0),
  (54, .iload_n 1, 55, [1], 0, 0),
  (55, .aload_n 0, 56, [0], 0, 0),
  (56, .iload_n 2, 57, [2], 0, 0),
  (57, .iload_n 3, 58, [3], 0, 0),
  (58, .invokevirtual 271, 61, [91, 744, 746, 7, 10, 747], 0, 0),
  (61, .invokestatic 277, 64, [1, 777, 130, 15, 131], 0, 0),
  (64, .istore_n 1, 65, [1], 0, 0),
  (65, .iinc 3 1, 68, [3], 1, 0),
  (68, .goto (-19), 71, [49], 0, 0),
  (71, .iinc 2 1, 74, [2], 1, 0),
  (74, .goto (-33), 77, [41], 0, 0),
  (77, .aload_n 0, 78, [0], 0, 0),
  (78, .getfield 19, 81, [6, 1, 1, 241], 0, 0),
  (81, .getfield 274, 84, [2, 5, 0, 148], 0, 0),
  (84, .iload_n 1, 85, [1], 0, 0),
  (85, .isub, 86, [], 0, 0),
  (86, .ireturn, 87, [], 0, 0)]
/-- OdometerRing.lasts(I)I -/
def cd84 : List (Nat × Row) := [(0, .iload_n 1, 1, [1], 0, 0),
  (1, .invokestatic 245, 4, [0, 95, 722, 723, 10, 724], 0, 0),
  (4, .ifCond .ne 13, 7, [17], 0, 0),
  (7, .new 42, 17, [1, 0, 0, 248, 46, 15, 562, 21], 0, 0),
  (17, .aload_n 0, 18, [0], 0, 0),
  (18, .getfield 19, 21, [6, 1, 1, 241], 0, 0),
  (21, .getfield 198, 24, [2, 3, 2, 144], 0, 0),
  (24, .ifCond .ne 13, 27, [37], 0, 0),
  (27, .new 53, 37, [1, 1, 0, 202, 57, 10, 296, 23], 0, 0),
  (37, .aload_n 0, 38, [0], 0, 0),
  (38, .getfield 23, 41, [6, 2, 1, 242], 0, 0),
  (41, .aload_n 0, 42, [0], 0, 0),
  (42, .getfield 19, 45, [6, 1, 1, 241], 0, 0),
  (45, .invokevirtual 282, 48, [21, 748, 513, 514, 12, 515], 0, 0),
  (48, .aload_n 0, 49, [0], 0, 0),
  (49, .getfield 23, 52, [6, 2, 1, 242], 0, 0),
  (52, .iload_n 1, 53, [1], 0, 0),
  (53, .putfield 250, 56, [2, 2, 0, 0, 142], 0, 0),
  (56, .aload_n 0, 57, [0], 0, 0),
  (57, .getfield 23, 60, [6, 2, 1, 242], 0, 0),
  (60, .iconst 0, 61, [], 0, 0),
  (61, .putfield 285, 64, [2, 11, 0, 0, 156], 0, 0),
  (64, .aload_n 0, 65, [0], 0, 0),
  (65, .getfield 23, 68, [6, 2, 1, 242], 0, 0),
  (68, .invokevirtual 288, 71, [25, 758, 759, 760, 12, 761], 0, 0),
  (71, .ireturn, 72, [], 0, 0)]
/-- OdometerRing.dueIn(III)I -/
def cd85 : List (Nat × Row) := [(0, .iload_n 1, 1, [1], 0, 0),
  (1, .iload_n 2, 2, [2], 0, 0),
  (2, .invokestatic 224, 5, [0, 94, 700, 438, 10, 439], 0, 0),
  (5, .ifCond .eq 15, 8, [20], 0, 0),
  (8, .iload_n 3, 9, [3], 0, 0),
  (9, .iconst 1, 10, [], 1, 0),
  (10, .if_icmp .lt 10, 13, [20], 0, 0),
  (13, .iload_n 3, 14, [3], 0, 0),
  (14, .sipush 9999, 17, [], 9999, 0),
  (17, .if_icmp .le 14, 20, [31], 0, 0),
  (20, .new 42, 31, [1, 0, 1, 291, 46, 18, 562, 21], 0, 0),
  (31, .aload_n 0, 32, [0], 0, 0),
  (32, .getfield 19, 35, [6, 1, 1, 241], 0, 0),
  (35, .getfield 198, 38, [2, 3, 2, 144], 0, 0),
  (38, .ifCond .ne 13, 41, [51], 0, 0),
  (41, .new 53, 51, [1, 1, 0, 202, 57, 10, 296, 23], 0, 0),
  (51, .aload_n 0, 52, [0], 0, 0),
  (52, .getfield 19, 55, [6, 1, 1, 241], 0, 0),
  (55, .getfield 164, 58, [2, 1, 1, 140], 0, 0),
  (58, .iload_n 1, 59, [1], 0, 0),
  (59, .iload_n 2, 60, [2], 0, 0),
  (60, .invokevirtual 237, 63, [42, 712, 445, 446, 14, 447], 0, 0),
  (63, .istore 4, 65, [4], 0, 0),
  (65, .iload 4, 67, [4], 0, 0),
  (67, .ldc 69, 69, [294], (-99999), 0),
  (69, .if_icmp .ne 8, 72, [77], 0, 0),
  (72, .ldc 69, 74, [294], (-99999), 0),
  (74, .goto 25, 77, [99], 0, 0),
  (77, .aload_n 0, 78, [0], 0, 0),
  (78, .getfield 19, 81, [6, 1, 1, 241], 0, 0),
  (81, .getfield 164, 84, [2, 1, 1, 140], 0, 0),
  (84, .iload 4, 86, [4], 0, 0),
  (86, .invokevirtual 173, 89, [41, 622, 463, 464, 14, 465], 0, 0),
  (89, .iload_n 3, 90, [3], 0, 0),
  (90, .iadd, 91, [], 0, 0),
  (91, .aload_n 0, 92, [0], 0, 0),
  (92, .getfield 19, 95, [6, 1, 1, 241], 0, 0),
  (95, .getfield 274, 98, [2, 5, 0, 148], 0, 0),
  (98, .isub, 99, [], 0, 0),
  (99, .ireturn, 100, [], 0, 0)]
/-- OdometerRing.dueFirst()I -/
def cd86 : List (Nat × Row) := [(0, .aload_n 0, 1, [0], 0, 0),
  (1, .getfield 19, 4, [6, 1, 1, 241], 0, 0),
  (4, .getfield 164, 7, [2, 1, 1, 140], 0, 0),
  (7, .invokevirtual 293, 10, [46, 850, 851, 852, 14, 853], 0, 0),
  (10, .istore_n 1, 11, [1], 0, 0),
  (11, .iload_n 1, 12, [1], 0, 0),
  (12, .ldc 69, 14, [294], (-99999), 0),
  (14, .if_icmp .ne 8, 17, [22], 0, 0),
  (17, .ldc 69, 19, [294], (-99999), 0),
  (19, .goto 14, 22, [33], 0, 0),
  (22, .aload_n 0, 23, [0], 0, 0),
  (23, .getfield 19, 26, [6, 1, 1, 241], 0, 0),
  (26, .getfield 164, 29, [2, 1, 1, 140], 0, 0),
  (29, .iload_n 1, 30, [1], 0, 0),
  (30, .invokevirtual 176, 33, [40, 623, 449, 450, 14, 451], 0, 0),
  (33, .ireturn, 34, [], 0, 0)]
/-- OdometerRing.runScript(IJ)I -/
def cd87 : List (Nat × Row) := [(0, .iload_n 1, 1, [1], 0, 0),
  (1, .iconst 1, 2, [], 1, 0),
  (2, .if_icmp .lt 24, 5, [26], 0, 0),
  (5, .iload_n 1, 6, [1], 0, 0),
  (6, .iconst 4, 7, [], 4, 0),
  (7, .if_icmp .gt 19, 10, [26], 0, 0),
  (10, .lload_n 2, 11, [2], 0, 0),
  (11, .lconst 0, 12, [], 0, 0),
  (12, .lcmp, 13, [], 0, 0),
  (13, .ifCond .lt 13, 16, [26], 0, 0),
  (16, .lload_n 2, 17, [2], 0, 0),
  (17, .iload_n 1, 18, [1], 0, 0),
  (18, .invokestatic 296, 21, [0, 96, 793, 794, 10, 795], 0, 0),
  (21, .lconst 0, 22, [], 0, 0),
  (22, .lcmp, 23, [], 0, 0),
  (23, .ifCond .eq 14, 26, [37], 0, 0),
  (26, .new 42, 37, [1, 0, 1, 300, 46, 20, 562, 21], 0, 0),
  (37, .aload_n 0, 38, [0], 0, 0),
  (38, .getfield 23, 41, [6, 2, 1, 242], 0, 0),
  (41, .aload_n 0, 42, [0], 0, 0),
  (42, .getfield 19, 45, [6, 1, 1, 241], 0, 0),
  (45, .invokevirtual 282, 48, [21, 748, 513, 514, 12, 515], 0, 0),
  (48, .iconst 0, 49, [], 0, 0),
  (49, .istore 4, 51, [4], 0, 0),
  (51, .iload 4, 53, [4], 0, 0),
  (53, .iload_n 1, 54, [1], 0, 0),
  (54, .if_icmp .ge 41, 57, [95], 0, 0),
  (57, .lload_n 2, 58, [2], 0, 0),
  (58, .iload_n 1, 59, [1], 0, 0),
  (59, .iconst 1, 60, [], 1, 0),
  (60, .isub, 61, [], 0, 0),
  (61, .iload 4, 63, [4], 0, 0),
  (63, .isub, 64, [], 0, 0),
  (64, .invokestatic 296, 67, [0, 96, 793, 794, 10, 795], 0, 0),
  (67, .ldc2_w 302, 70, [796], 0, 10000),
  (70, .lrem, 71, [], 0, 0),
  (71, .l2i, 72, [], 0, 0),
  (72, .istore 5, 74, [5], 0, 0),
  (74, .aload_n 0, 75, [0], 0, 0),
  (75, .getfield 23, 78, [6, 2, 1, 242], 0, 0),
  (78, .iload 5, 80, [5], 0, 0),
  (80, .invokevirtual 304, 83, [35, 798, 799, 800, 12, 801], 0, 0),
  (83, .ifCond .ne 6, 86, [89], 0, 0),
  (86, .iload 4, 88, [4], 0, 0),
  (88, .ireturn, 89, [], 0, 0),
  (89, .iinc 4 1, 92, [4], 1, 0),
  (92, .goto (-41), 95, [51], 0, 0),
  (95, .ldc 69, 97, [294], (-99999), 0),
  (97, .ireturn, 98, [], 0, 0)]
/-- OdometerRing.simulate(JI)I -/
def cd88 : List (Nat × Row) := [(0, .iload_n 3, 1, [3], 0, 0),
  (1, .iconst 1, 2, [], 1, 0),
  (2, .if_icmp .lt 9, 5, [11], 0, 0),
  (5, .iload_n 3, 6, [3], 0, 0),
  (6, .bipush 99, 8, [], 99, 0),
  (8, .if_icmp .le 14, 11, [22], 0, 0),
  (11, .new 42, 22, [1, 0, 1, 307, 46, 21, 562, 21], 0, 0),
  (22, .aload_n 0, 23, [0], 0, 0),
  (23, .getfield 23, 26, [6, 2, 1, 242], 0, 0),
  (26, .aload_n 0, 27, [0], 0, 0),
  (27, .getfield 19, 30, [6, 1, 1, 241], 0, 0),
  (30, .invokevirtual 282, 33, [21, 748, 513, 514, 12, 515], 0, 0),
  (33, .lload_n 1, 34, [1], 0, 0),
  (34, .lstore 4, 36, [4], 0, 0),
  (36, .iconst 0, 37, [], 0, 0),
  (37, .istore 6, 39, [6], 0, 0),
  (39, .iload 6, 41, [6], 0, 0),
  (41, .iload_n 3, 42, [3], 0, 0),
  (42, .if_icmp .ge 34, 45, [76], 0, 0),
  (45, .lload 4, 47, [4], 0, 0),
  (47, .ldc2_w 309, 50, [817], 0, 6364136223846793005),
  (50, .lmul, 51, [], 0, 0),
  (51, .ldc2_w 311, 54, [818], 0, 1442695040888963407),
  (54, .ladd, 55, [], 0, 0),
  (55, .lstore 4, 57, [4], 0, 0),
  (57, .aload_n 0, 58, [0], 0, 0),
  (58, .getfield 23, 61, [6, 2, 1, 242], 0, 0),
  (61, .lload 4, 63, [4], 0, 0),
  (63, .bipush 33, 65, [], 33, 0),
  (65, .lushr, 66, [], 0, 0),
  (66, .l2i, 67, [], 0, 0),
  (67, .invokevirtual 313, 70, [37, 819, 820, 821, 12, 822], 0, 0),
  (70, .iinc 6 1, 73, [6], 1, 0),
  (73, .goto (-34), 76, [39], 0, 0),
  (76, .aload_n 0, 77, [0], 0, 0),
  (77, .getfield 23, 80, [6, 2, 1, 242], 0, 0),
  (80, .getfield 198, 83, [2, 3, 2, 144], 0, 0),
  (83, .ifCond .ne 11, 86, [94], 0, 0),
  (86, .aload_n 0, 87, [0], 0, 0),
  (87, .getfield 23, 90, [6, 2, 1, 242], 0, 0),
  (90, .invokevirtual 221, 93, [30, 750, 429, 430, 12, 431], 0, 0),
  (93, .pop, 94, [], 0, 0),
  (94, .aload_n 0, 95, [0], 0, 0),
  (95, .getfield 23, 98, [6, 2, 1, 242], 0, 0),
  (98, .getfield 316, 101, [2, 8, 0, 152], 0, 0),
  (101, .aload_n 0, 102, [0], 0, 0),
  (102, .getfield 23, 105, [6, 2, 1, 242], 0, 0),
  (105, .getfield 274, 108, [2, 5, 0, 148], 0, 0),
  (108, .isub, 109, [], 0, 0),
  (109, .istore 6, 111, [6], 0, 0),
  (111, .sipush 10000, 114, [], 10000, 0),
  (114, .aload_n 0, 115, [0], 0, 0),
  (115, .getfield 23, 118, [6, 2, 1, 242], 0, 0),
  (118, .getfield 316, 121, [2, 8, 0, 152], 0, 0),
  (121, .aload_n 0, 122, [0], 0, 0),
  (122, .getfield 19, 125, [6, 1, 1, 241], 0, 0),
  (125, .getfield 316, 128, [2, 8, 0, 152], 0, 0),
  (128, .isub, 129, [], 0, 0),
  (129, .imul, 130, [], 0, 0),
  (130, .iload 6, 132, [6], 0, 0),
  (132, .sipush 9999, 135, [], 9999, 0),
  (135, .invokestatic 277, 138, [1, 777, 130, 15, 131], 0, 0),
  (138, .iadd, 139, [], 0, 0),
  (139, .ireturn, 140, [], 0, 0)]
/-- OdometerRing.save(I)I -/
def cd89 : List (Nat × Row) := [(0, .iload_n 1, 1, [1], 0, 0),
  (1, .ifCond .lt 8, 4, [9], 0, 0),
  (4, .iload_n 1, 5, [1], 0, 0),
  (5, .iconst 2, 6, [], 2, 0),
  (6, .if_icmp .lt 14, 9, [20], 0, 0),
  (9, .new 132, 20, [1, 2, 1, 319, 136, 1, 492, 22], 0, 0),
  (20, .aload_n 0, 21, [0], 0, 0),
  (21, .getfield 38, 24, [6, 4, 1, 244], 0, 0),
  (24, .iload_n 1, 25, [1], 0, 0),
  (25, .aload_n 0, 26, [0], 0, 0),
  (26, .getfield 19, 29, [6, 1, 1, 241], 0, 0),
  (29, .invokevirtual 321, 32, [51, 508, 509, 510, 17, 511], 0, 0),
  (32, .aload_n 0, 33, [0], 0, 0),
  (33, .getfield 19, 36, [6, 1, 1, 241], 0, 0),
  (36, .getfield 316, 39, [2, 8, 0, 152], 0, 0),
  (39, .ireturn, 40, [], 0, 0)]
/-- OdometerRing.restore(I)I -/
def cd90 : List (Nat × Row) := [(0, .iload_n 1, 1, [1], 0, 0),
  (1, .ifCond .lt 8, 4, [9], 0, 0),
  (4, .iload_n 1, 5, [1], 0, 0),
  (5, .iconst 2, 6, [], 2, 0),
  (6, .if_icmp .lt 14, 9, [20], 0, 0),
  (9, .new 132, 20, [1, 2, 1, 319, 136, 1, 492, 22], 0, 0),
  (20, .aload_n 0, 21, [0], 0, 0),
  (21, .getfield 38, 24, [6, 4, 1, 244], 0, 0),
  (24, .iload_n 1, 25, [1], 0, 0),
  (25, .invokevirtual 325, 28, [49, 537, 538, 539, 17, 540], 0, 0),
  (28, .ifCond .ne 14, 31, [42], 0, 0),
  (31, .new 53, 42, [1, 1, 1, 328, 57, 2, 296, 23], 0, 0),
  (42, .aload_n 0, 43, [0], 0, 0),
  (43, .getfield 38, 46, [6, 4, 1, 244], 0, 0),
  (46, .iload_n 1, 47, [1], 0, 0),
  (47, .aload_n 0, 48, [0], 0, 0),
  (48, .getfield 19, 51, [6, 1, 1, 241], 0, 0),
  (51, .invokevirtual 330, 54, [52, 542, 543, 544, 17, 545], 0, 0),
  (54, .aload_n 0, 55, [0], 0, 0),
  (55, .getfield 29, 58, [6, 3, 1, 243], 0, 0),
  (58, .invokevirtual 89, 61, [18, 365, 366, 367, 16, 368], 0, 0),
  (61, .aload_n 0, 62, [0], 0, 0),
  (62, .getfield 19, 65, [6, 1, 1, 241], 0, 0),
  (65, .getfield 316, 68, [2, 8, 0, 152], 0, 0),
  (68, .ireturn, 69, [], 0, 0)]
/-- OdometerRing.toldAfterCut(II)I -/
def cd91 : List (Nat × Row) := [(0, .aload_n 0, 1, [0], 0, 0),
  (1, .getfield 23, 4, [6, 2, 1, 242], 0, 0),
  (4, .aload_n 0, 5, [0], 0, 0),
  (5, .getfield 19, 8, [6, 1, 1, 241], 0, 0),
  (8, .invokevirtual 282, 11, [21, 748, 513, 514, 12, 515], 0, 0),
  (11, .aload_n 0, 12, [0], 0, 0),
  (12, .getfield 23, 15, [6, 2, 1, 242], 0, 0),
  (15, .iload_n 1, 16, [1], 0, 0),
  (16, .iload_n 2, 17, [2], 0, 0),
  (17, .invokevirtual 216, 20, [31, 692, 425, 426, 12, 427], 0, 0),
  (20, .pop, 21, [], 0, 0),
  (21, .aload_n 0, 22, [0], 0, 0),
  (22, .getfield 23, 25, [6, 2, 1, 242], 0, 0),
  (25, .invokevirtual 333, 28, [26, 749, 387, 388, 12, 389], 0, 0),
  (28, .aload_n 0, 29, [0], 0, 0),
  (29, .getfield 23, 32, [6, 2, 1, 242], 0, 0),
  (32, .getfield 198, 35, [2, 3, 2, 144], 0, 0),
  (35, .ifCond .eq 13, 38, [48], 0, 0),
  (38, .aload_n 0, 39, [0], 0, 0),
  (39, .getfield 23, 42, [6, 2, 1, 242], 0, 0),
  (42, .getfield 274, 45, [2, 5, 0, 148], 0, 0),
  (45, .goto 10, 48, [55], 0, 0),
  (48, .aload_n 0, 49, [0], 0, 0),
  (49, .getfield 23, 52, [6, 2, 1, 242], 0, 0),
  (52, .invokevirtual 221, 55, [30, 750, 429, 430, 12, 431], 0, 0),
  (55, .ireturn, 56, [], 0, 0)]
/-- OdometerRing.isTenths(I)Z -/
def cd92 : List (Nat × Row) := [(0, .iload_n 0, 1, [0], 0, 0),
  (1, .iconst 1, 2, [], 1, 0),
  (2, .if_icmp .lt 14, 5, [16], 0, 0),
  (5, .iload_n 0, 6, [0], 0, 0),
  (6, .sipush 999, 9, [], 999, 0),
  (9, .if_icmp .gt 7, 12, [16], 0, 0),
  (12, .iconst 1, 13, [], 1, 0),
  (13, .goto 4, 16, [17], 0, 0),
  (16, .iconst 0, 17, [], 0, 0),
  (17, .ireturn, 18, [], 0, 0)]
/-- OdometerRing.isCut(II)Z -/
def cd93 : List (Nat × Row) := [(0, .iload_n 0, 1, [0], 0, 0),
  (1, .iconst 1, 2, [], 1, 0),
  (2, .if_icmp .lt 22, 5, [24], 0, 0),
  (5, .iload_n 0, 6, [0], 0, 0),
  (6, .bipush 36, 8, [], 36, 0),
  (8, .if_icmp .gt 16, 11, [24], 0, 0),
  (11, .iload_n 1, 12, [1], 0, 0),
  (12, .ifCond .lt 12, 15, [24], 0, 0),
  (15, .iload_n 1, 16, [1], 0, 0),
  (16, .iconst 2, 17, [], 2, 0),
  (17, .if_icmp .gt 7, 20, [24], 0, 0),
  (20, .iconst 1, 21, [], 1, 0),
  (21, .goto 4, 24, [25], 0, 0),
  (24, .iconst 0, 25, [], 0, 0),
  (25, .ireturn, 26, [], 0, 0)]
/-- OdometerRing.isService(II)Z -/
def cd94 : List (Nat × Row) := [(0, .iload_n 0, 1, [0], 0, 0),
  (1, .ifCond .lt 23, 4, [24], 0, 0),
  (4, .iload_n 0, 5, [0], 0, 0),
  (5, .bipush 9, 7, [], 9, 0),
  (7, .if_icmp .gt 17, 10, [24], 0, 0),
  (10, .iload_n 1, 11, [1], 0, 0),
  (11, .ifCond .lt 13, 14, [24], 0, 0),
  (14, .iload_n 1, 15, [1], 0, 0),
  (15, .bipush 9, 17, [], 9, 0),
  (17, .if_icmp .gt 7, 20, [24], 0, 0),
  (20, .iconst 1, 21, [], 1, 0),
  (21, .goto 4, 24, [25], 0, 0),
  (24, .iconst 0, 25, [], 0, 0),
  (25, .ireturn, 26, [], 0, 0)]
/-- OdometerRing.isStep(I)Z -/
def cd95 : List (Nat × Row) := [(0, .iload_n 0, 1, [0], 0, 0),
  (1, .iconst 1, 2, [], 1, 0),
  (2, .if_icmp .lt 13, 5, [15], 0, 0),
  (5, .iload_n 0, 6, [0], 0, 0),
  (6, .bipush 99, 8, [], 99, 0),
  (8, .if_icmp .gt 7, 11, [15], 0, 0),
  (11, .iconst 1, 12, [], 1, 0),
  (12, .goto 4, 15, [16], 0, 0),
  (15, .iconst 0, 16, [], 0, 0),
  (16, .ireturn, 17, [], 0, 0)]
/-- OdometerRing.lessGroups(JI)J -/
def cd96 : List (Nat × Row) := [(0, .lload_n 0, 1, [0], 0, 0),
  (1, .lstore_n 3, 2, [3], 0, 0),
  (2, .iconst 0, 3, [], 0, 0),
  (3, .istore 5, 5, [5], 0, 0),
  (5, .iload 5, 7, [5], 0, 0),
  (7, .iload_n 2, 8, [2], 0, 0),
  (8, .if_icmp .ge 15, 11, [23], 0, 0),
  (11, .lload_n 3, 12, [3], 0, 0),
  (12, .ldc2_w 302, 15, [796], 0, 10000),
  (15, .ldiv, 16, [], 0, 0),
  (16, .lstore_n 3, 17, [3], 0, 0),
  (17, .iinc 5 1, 20, [5], 1, 0),
  (20, .goto (-15), 23, [5], 0, 0),
  (23, .lload_n 3, 24, [3], 0, 0),
  (24, .lreturn, 25, [], 0, 0)]
/-- OdometerRingLaw.draw([II)I -/
def cd97 : List (Nat × Row) := [(0, .iload_n 1, 1, [1], 0, 0),
  (1, .aload_n 0, 2, [0], 0, 0),
  (2, .arraylength, 3, [], 0, 0),
  (3, .if_icmp .ge 9, 6, [12], 0, 0),
  (6, .aload_n 0, 7, [0], 0, 0),
  (7, .iload_n 1, 8, [1], 0, 0),
  (8, .iaload, 9, [], 0, 0),
  (9, .goto 11, 12, [20], 0, 0),
  (12, .ldc 7, 14, [259], 15593239, 0),
  (14, .iload_n 1, 15, [1], 0, 0),
  (15, .imul, 16, [], 0, 0),
  (16, .sipush 10343, 19, [], 10343, 0),
  (19, .iadd, 20, [], 0, 0),
  (20, .ldc 8, 22, [260], 2147483647, 0),
  (22, .iand, 23, [], 0, 0),
  (23, .ireturn, 24, [], 0, 0)]
/-- OdometerRingLaw.in(JJJ)Z -/
def cd98 : List (Nat × Row) := [(0, .lload_n 0, 1, [0], 0, 0),
  (1, .lload_n 2, 2, [2], 0, 0),
  (2, .lcmp, 3, [], 0, 0),
  (3, .ifCond .lt 14, 6, [17], 0, 0),
  (6, .lload_n 0, 7, [0], 0, 0),
  (7, .lload 4, 9, [4], 0, 0),
  (9, .lcmp, 10, [], 0, 0),
  (10, .ifCond .gt 7, 13, [17], 0, 0),
  (13, .iconst 1, 14, [], 1, 0),
  (14, .goto 4, 17, [18], 0, 0),
  (17, .iconst 0, 18, [], 0, 0),
  (18, .ireturn, 19, [], 0, 0)]
/-- OdometerRingLaw.append(LOdometerRing;I)J -/
def cd99 : List (Nat × Row) := [(0, .aload_n 0, 1, [0], 0, 0),
  (1, .iload_n 1, 2, [1], 0, 0),
  (2, .invokevirtual 9, 5, [63, 826, 827, 828, 10, 829], 0, 0),
  (5, .i2l, 6, [], 0, 0),
  (6, .lreturn, 7, [], 0, 0),
  (7, .astore_n 2, 8, [2], 0, 0),
  (8, .ldc2_w 17, 11, [595], 0, (-9000000000000000002)),
  (11, .lreturn, 12, [], 0, 0),
  (12, .astore_n 2, 13, [2], 0, 0),
  (13, .ldc2_w 21, 16, [483], 0, (-9000000000000000003)),
  (16, .lreturn, 17, [], 0, 0)]
/-- OdometerRingLaw.load(LOdometerRing;)J -/
def cd100 : List (Nat × Row) := [(0, .aload_n 0, 1, [0], 0, 0),
  (1, .invokevirtual 23, 4, [66, 265, 266, 267, 10, 268], 0, 0),
  (4, .i2l, 5, [], 0, 0),
  (5, .lreturn, 6, [], 0, 0),
  (6, .astore_n 1, 7, [1], 0, 0),
  (7, .ldc2_w 21, 10, [483], 0, (-9000000000000000003)),
  (10, .lreturn, 11, [], 0, 0)]
/-- OdometerRingLaw.about(LOdometerRing;I)J -/
def cd101 : List (Nat × Row) := [(0, .aload_n 0, 1, [0], 0, 0),
  (1, .iload_n 1, 2, [1], 0, 0),
  (2, .invokevirtual 27, 5, [67, 558, 559, 560, 10, 561], 0, 0),
  (5, .i2l, 6, [], 0, 0),
  (6, .lreturn, 7, [], 0, 0),
  (7, .astore_n 2, 8, [2], 0, 0),
  (8, .ldc2_w 17, 11, [595], 0, (-9000000000000000002)),
  (11, .lreturn, 12, [], 0, 0)]
/-- OdometerRingLaw.cell(LOdometerRing;III)J -/
def cd102 : List (Nat × Row) := [(0, .aload_n 0, 1, [0], 0, 0),
  (1, .iload_n 1, 2, [1], 0, 0),
  (2, .iload_n 2, 3, [2], 0, 0),
  (3, .iload_n 3, 4, [3], 0, 0),
  (4, .invokevirtual 30, 7, [68, 600, 601, 602, 10, 603], 0, 0),
  (7, .i2l, 8, [], 0, 0),
  (8, .lreturn, 9, [], 0, 0),
  (9, .astore 4, 11, [4], 0, 0),
  (11, .ldc2_w 36, 14, [529], 0, (-9000000000000000001)),
  (14, .lreturn, 15, [], 0, 0),
  (15, .astore 4, 17, [4], 0, 0),
  (17, .ldc2_w 17, 20, [595], 0, (-9000000000000000002)),
  (20, .lreturn, 21, [], 0, 0)]
/-- OdometerRingLaw.says(LOdometerRing;I)J -/
def cd103 : List (Nat × Row) := [(0, .aload_n 0, 1, [0], 0, 0),
  (1, .iload_n 1, 2, [1], 0, 0),
  (2, .invokevirtual 38, 5, [69, 638, 639, 640, 10, 641], 0, 0),
  (5, .i2l, 6, [], 0, 0),
  (6, .lreturn, 7, [], 0, 0),
  (7, .astore_n 2, 8, [2], 0, 0),
  (8, .ldc2_w 36, 11, [529], 0, (-9000000000000000001)),
  (11, .lreturn, 12, [], 0, 0)]
/-- OdometerRingLaw.whySilent(LOdometerRing;I)J -/
def cd104 : List (Nat × Row) := [(0, .aload_n 0, 1, [0], 0, 0),
  (1, .iload_n 1, 2, [1], 0, 0),
  (2, .invokevirtual 41, 5, [70, 647, 648, 649, 10, 650], 0, 0),
  (5, .i2l, 6, [], 0, 0),
  (6, .lreturn, 7, [], 0, 0),
  (7, .astore_n 2, 8, [2], 0, 0),
  (8, .ldc2_w 36, 11, [529], 0, (-9000000000000000001)),
  (11, .lreturn, 12, [], 0, 0)]
/-- OdometerRingLaw.portion(LOdometerRing;I)J -/
def cd105 : List (Nat × Row) := [(0, .aload_n 0, 1, [0], 0, 0),
  (1, .iload_n 1, 2, [1], 0, 0),
  (2, .invokevirtual 44, 5, [71, 658, 659, 660, 10, 661], 0, 0),
  (5, .i2l, 6, [], 0, 0),
  (6, .lreturn, 7, [], 0, 0),
  (7, .astore_n 2, 8, [2], 0, 0),
  (8, .ldc2_w 36, 11, [529], 0, (-9000000000000000001)),
  (11, .lreturn, 12, [], 0, 0)]
/-- OdometerRingLaw.serviceAt(LOdometerRing;II)J -/
def cd106 : List (Nat × Row) := [(0, .aload_n 0, 1, [0], 0, 0),
  (1, .iload_n 1, 2, [1], 0, 0),
  (2, .iload_n 2, 3, [2], 0, 0),
  (3, .invokevirtual 47, 6, [72, 617, 618, 619, 10, 620], 0, 0),
  (6, .i2l, 7, [], 0, 0),
  (7, .lreturn, 8, [], 0, 0),
  (8, .astore_n 3, 9, [3], 0, 0),
  (9, .ldc2_w 17, 12, [595], 0, (-9000000000000000002)),
  (12, .lreturn, 13, [], 0, 0)]
/-- OdometerRingLaw.lastCut(LOdometerRing;I)J -/
def cd107 : List (Nat × Row) := [(0, .aload_n 0, 1, [0], 0, 0),
  (1, .iload_n 1, 2, [1], 0, 0),
  (2, .invokevirtual 51, 5, [73, 627, 628, 629, 10, 630], 0, 0),
  (5, .i2l, 6, [], 0, 0),
  (6, .lreturn, 7, [], 0, 0),
  (7, .astore_n 2, 8, [2], 0, 0),
  (8, .ldc2_w 17, 11, [595], 0, (-9000000000000000002)),
  (11, .lreturn, 12, [], 0, 0)]
/-- OdometerRingLaw.drive(LOdometerRing;I)J -/
def cd108 : List (Nat × Row) := [(0, .aload_n 0, 1, [0], 0, 0),
  (1, .iload_n 1, 2, [1], 0, 0),
  (2, .invokevirtual 54, 5, [74, 669, 670, 671, 10, 672], 0, 0),
  (5, .i2l, 6, [], 0, 0),
  (6, .lreturn, 7, [], 0, 0),
  (7, .astore_n 2, 8, [2], 0, 0),
  (8, .ldc2_w 17, 11, [595], 0, (-9000000000000000002)),
  (11, .lreturn, 12, [], 0, 0),
  (12, .astore_n 2, 13, [2], 0, 0),
  (13, .ldc2_w 21, 16, [483], 0, (-9000000000000000003)),
  (16, .lreturn, 17, [], 0, 0)]
/-- OdometerRingLaw.cut(LOdometerRing;II)J -/
def cd109 : List (Nat × Row) := [(0, .aload_n 0, 1, [0], 0, 0),
  (1, .iload_n 1, 2, [1], 0, 0),
  (2, .iload_n 2, 3, [2], 0, 0),
  (3, .invokevirtual 57, 6, [75, 686, 687, 688, 10, 689], 0, 0),
  (6, .i2l, 7, [], 0, 0),
  (7, .lreturn, 8, [], 0, 0),
  (8, .astore_n 3, 9, [3], 0, 0),
  (9, .ldc2_w 17, 12, [595], 0, (-9000000000000000002)),
  (12, .lreturn, 13, [], 0, 0),
  (13, .astore_n 3, 14, [3], 0, 0),
  (14, .ldc2_w 21, 17, [483], 0, (-9000000000000000003)),
  (17, .lreturn, 18, [], 0, 0)]
/-- OdometerRingLaw.start(LOdometerRing;)J -/
def cd110 : List (Nat × Row) := [(0, .aload_n 0, 1, [0], 0, 0),
  (1, .invokevirtual 60, 4, [76, 781, 782, 783, 10, 784], 0, 0),
  (4, .i2l, 5, [], 0, 0),
  (5, .lreturn, 6, [], 0, 0),
  (6, .astore_n 1, 7, [1], 0, 0),
  (7, .ldc2_w 21, 10, [483], 0, (-9000000000000000003)),
  (10, .lreturn, 11, [], 0, 0)]
/-- OdometerRingLaw.service(LOdometerRing;II)J -/
def cd111 : List (Nat × Row) := [(0, .aload_n 0, 1, [0], 0, 0),
  (1, .iload_n 1, 2, [1], 0, 0),
  (2, .iload_n 2, 3, [2], 0, 0),
  (3, .invokevirtual 63, 6, [77, 696, 697, 698, 10, 699], 0, 0),
  (6, .i2l, 7, [], 0, 0),
  (7, .lreturn, 8, [], 0, 0),
  (8, .astore_n 3, 9, [3], 0, 0),
  (9, .ldc2_w 17, 12, [595], 0, (-9000000000000000002)),
  (12, .lreturn, 13, [], 0, 0),
  (13, .astore_n 3, 14, [3], 0, 0),
  (14, .ldc2_w 21, 17, [483], 0, (-9000000000000000003)),
  (17, .lreturn, 18, [], 0, 0)]
/-- OdometerRingLaw.forget(LOdometerRing;II)J -/
def cd112 : List (Nat × Row) := [(0, .aload_n 0, 1, [0], 0, 0),
  (1, .iload_n 1, 2, [1], 0, 0),
  (2, .iload_n 2, 3, [2], 0, 0),
  (3, .invokevirtual 66, 6, [78, 708, 709, 710, 10, 711], 0, 0),
  (6, .i2l, 7, [], 0, 0),
  (7, .lreturn, 8, [], 0, 0),
  (8, .astore_n 3, 9, [3], 0, 0),
  (9, .ldc2_w 17, 12, [595], 0, (-9000000000000000002)),
  (12, .lreturn, 13, [], 0, 0),
  (13, .astore_n 3, 14, [3], 0, 0),
  (14, .ldc2_w 21, 17, [483], 0, (-9000000000000000003)),
  (17, .lreturn, 18, [], 0, 0)]
/-- OdometerRingLaw.setStep(LOdometerRing;I)J -/
def cd113 : List (Nat × Row) := [(0, .aload_n 0, 1, [0], 0, 0),
  (1, .iload_n 1, 2, [1], 0, 0),
  (2, .invokevirtual 69, 5, [79, 718, 719, 720, 10, 721], 0, 0),
  (5, .i2l, 6, [], 0, 0),
  (6, .lreturn, 7, [], 0, 0),
  (7, .astore_n 2, 8, [2], 0, 0),
  (8, .ldc2_w 17, 11, [595], 0, (-9000000000000000002)),
  (11, .lreturn, 12, [], 0, 0)]
/-- OdometerRingLaw.replace(LOdometerRing;I)J -/
def cd114 : List (Nat × Row) := [(0, .aload_n 0, 1, [0], 0, 0),
  (1, .iload_n 1, 2, [1], 0, 0),
  (2, .invokevirtual 72, 5, [80, 729, 730, 731, 10, 732], 0, 0),
  (5, .i2l, 6, [], 0, 0),
  (6, .lreturn, 7, [], 0, 0),
  (7, .astore_n 2, 8, [2], 0, 0),
  (8, .ldc2_w 36, 11, [529], 0, (-9000000000000000001)),
  (11, .lreturn, 12, [], 0, 0),
  (12, .astore_n 2, 13, [2], 0, 0),
  (13, .ldc2_w 21, 16, [483], 0, (-9000000000000000003)),
  (16, .lreturn, 17, [], 0, 0)]
/-- OdometerRingLaw.undo(LOdometerRing;)J -/
def cd115 : List (Nat × Row) := [(0, .aload_n 0, 1, [0], 0, 0),
  (1, .invokevirtual 75, 4, [81, 863, 864, 865, 10, 866], 0, 0),
  (4, .i2l, 5, [], 0, 0),
  (5, .lreturn, 6, [], 0, 0),
  (6, .astore_n 1, 7, [1], 0, 0),
  (7, .ldc2_w 21, 10, [483], 0, (-9000000000000000003)),
  (10, .lreturn, 11, [], 0, 0)]
/-- OdometerRingLaw.afterCut(LOdometerRing;II)J -/
def cd116 : List (Nat × Row) := [(0, .aload_n 0, 1, [0], 0, 0),
  (1, .iload_n 1, 2, [1], 0, 0),
  (2, .iload_n 2, 3, [2], 0, 0),
  (3, .invokevirtual 78, 6, [82, 739, 740, 741, 10, 742], 0, 0),
  (6, .i2l, 7, [], 0, 0),
  (7, .lreturn, 8, [], 0, 0),
  (8, .astore_n 3, 9, [3], 0, 0),
  (9, .ldc2_w 17, 12, [595], 0, (-9000000000000000002)),
  (12, .lreturn, 13, [], 0, 0),
  (13, .astore_n 3, 14, [3], 0, 0),
  (14, .ldc2_w 21, 17, [483], 0, (-9000000000000000003)),
  (17, .lreturn, 18, [], 0, 0)]
/-- OdometerRingLaw.worstLoss(LOdometerRing;)J -/
def cd117 : List (Nat × Row) := [(0, .aload_n 0, 1, [0], 0, 0),
  (1, .invokevirtual 81, 4, [83, 773, 774, 775, 10, 776], 0, 0),
  (4, .i2l, 5, [], 0, 0),
  (5, .lreturn, 6, [], 0, 0),
  (6, .astore_n 1, 7, [1], 0, 0),
  (7, .ldc2_w 21, 10, [483], 0, (-9000000000000000003)),
  (10, .lreturn, 11, [], 0, 0)]
/-- OdometerRingLaw.lasts(LOdometerRing;I)J -/
def cd118 : List (Nat × Row) := [(0, .aload_n 0, 1, [0], 0, 0),
  (1, .iload_n 1, 2, [1], 0, 0),
  (2, .invokevirtual 84, 5, [84, 754, 755, 756, 10, 757], 0, 0),
  (5, .i2l, 6, [], 0, 0),
  (6, .lreturn, 7, [], 0, 0),
  (7, .astore_n 2, 8, [2], 0, 0),
  (8, .ldc2_w 17, 11, [595], 0, (-9000000000000000002)),
  (11, .lreturn, 12, [], 0, 0),
  (12, .astore_n 2, 13, [2], 0, 0),
  (13, .ldc2_w 21, 16, [483], 0, (-9000000000000000003)),
  (16, .lreturn, 17, [], 0, 0)]
/-- OdometerRingLaw.dueIn(LOdometerRing;III)J -/
def cd119 : List (Nat × Row) := [(0, .aload_n 0, 1, [0], 0, 0),
  (1, .iload_n 1, 2, [1], 0, 0),
  (2, .iload_n 2, 3, [2], 0, 0),
  (3, .iload_n 3, 4, [3], 0, 0),
  (4, .invokevirtual 87, 7, [85, 765, 766, 767, 10, 768], 0, 0),
  (7, .i2l, 8, [], 0, 0),
  (8, .lreturn, 9, [], 0, 0),
  (9, .astore 4, 11, [4], 0, 0),
  (11, .ldc2_w 17, 14, [595], 0, (-9000000000000000002)),
  (14, .lreturn, 15, [], 0, 0),
  (15, .astore 4, 17, [4], 0, 0),
  (17, .ldc2_w 21, 20, [483], 0, (-9000000000000000003)),
  (20, .lreturn, 21, [], 0, 0)]
/-- OdometerRingLaw.script(LOdometerRing;IJ)J -/
def cd120 : List (Nat × Row) := [(0, .aload_n 0, 1, [0], 0, 0),
  (1, .iload_n 1, 2, [1], 0, 0),
  (2, .lload_n 2, 3, [2], 0, 0),
  (3, .invokevirtual 90, 6, [87, 789, 790, 791, 10, 792], 0, 0),
  (6, .i2l, 7, [], 0, 0),
  (7, .lreturn, 8, [], 0, 0),
  (8, .astore 4, 10, [4], 0, 0),
  (10, .ldc2_w 17, 13, [595], 0, (-9000000000000000002)),
  (13, .lreturn, 14, [], 0, 0)]
/-- OdometerRingLaw.simulate(LOdometerRing;JI)J -/
def cd121 : List (Nat × Row) := [(0, .aload_n 0, 1, [0], 0, 0),
  (1, .lload_n 1, 2, [1], 0, 0),
  (2, .iload_n 3, 3, [3], 0, 0),
  (3, .invokevirtual 94, 6, [88, 812, 813, 814, 10, 815], 0, 0),
  (6, .i2l, 7, [], 0, 0),
  (7, .lreturn, 8, [], 0, 0),
  (8, .astore 4, 10, [4], 0, 0),
  (10, .ldc2_w 17, 13, [595], 0, (-9000000000000000002)),
  (13, .lreturn, 14, [], 0, 0)]
/-- OdometerRingLaw.save(LOdometerRing;I)J -/
def cd122 : List (Nat × Row) := [(0, .aload_n 0, 1, [0], 0, 0),
  (1, .iload_n 1, 2, [1], 0, 0),
  (2, .invokevirtual 98, 5, [89, 488, 489, 490, 10, 491], 0, 0),
  (5, .i2l, 6, [], 0, 0),
  (6, .lreturn, 7, [], 0, 0),
  (7, .astore_n 2, 8, [2], 0, 0),
  (8, .ldc2_w 36, 11, [529], 0, (-9000000000000000001)),
  (11, .lreturn, 12, [], 0, 0)]
/-- OdometerRingLaw.restore(LOdometerRing;I)J -/
def cd123 : List (Nat × Row) := [(0, .aload_n 0, 1, [0], 0, 0),
  (1, .iload_n 1, 2, [1], 0, 0),
  (2, .invokevirtual 101, 5, [90, 533, 534, 535, 10, 536], 0, 0),
  (5, .i2l, 6, [], 0, 0),
  (6, .lreturn, 7, [], 0, 0),
  (7, .astore_n 2, 8, [2], 0, 0),
  (8, .ldc2_w 36, 11, [529], 0, (-9000000000000000001)),
  (11, .lreturn, 12, [], 0, 0),
  (12, .astore_n 2, 13, [2], 0, 0),
  (13, .ldc2_w 21, 16, [483], 0, (-9000000000000000003)),
  (16, .lreturn, 17, [], 0, 0)]
/-- OdometerRingLaw.now(LOdometerRing;)J -/
def cd124 : List (Nat × Row) := [(0, .ldc2_w 104, 3, [552], 0, 23),
  (3, .lstore_n 1, 4, [1], 0, 0),
  (4, .iconst 0, 5, [], 0, 0),
  (5, .istore_n 3, 6, [3], 0, 0),
  (6, .iload_n 3, 7, [3], 0, 0),
  (7, .bipush 15, 9, [], 15, 0),
  (9, .if_icmp .ge 21, 12, [30], 0, 0),
  (12, .ldc2_w 106, 15, [553], 0, 31),
  (15, .lload_n 1, 16, [1], 0, 0),
  (16, .lmul, 17, [], 0, 0),
  (17, .aload_n 0, 18, [0], 0, 0),
  (18, .iload_n 3, 19, [3], 0, 0),
  (19, .invokestatic 108, 22, [0, 101, 554, 555, 9, 556], 0, 0),
  (22, .ladd, 23, [], 0, 0),
  (23, .lstore_n 1, 24, [1], 0, 0),
  (24, .iinc 3 1, 27, [3], 1, 0),
  (27, .goto (-21), 30, [6], 0, 0),
  (30, .iconst 0, 31, [], 0, 0),
  (31, .istore_n 3, 32, [3], 0, 0),
  (32, .iload_n 3, 33, [3], 0, 0),
  (33, .i2l, 34, [], 0, 0),
  (34, .ldc2_w 113, 37, [596], 0, 3),
  (37, .aload_n 0, 38, [0], 0, 0),
  (38, .iconst 0, 39, [], 0, 0),
  (39, .invokestatic 108, 42, [0, 101, 554, 555, 9, 556], 0, 0),
  (42, .lmul, 43, [], 0, 0),
  (43, .lcmp, 44, [], 0, 0),
  (44, .ifCond .ge 43, 47, [87], 0, 0),
  (47, .ldc2_w 106, 50, [553], 0, 31),
  (50, .ldc2_w 106, 53, [553], 0, 31),
  (53, .lload_n 1, 54, [1], 0, 0),
  (54, .lmul, 55, [], 0, 0),
  (55, .aload_n 0, 56, [0], 0, 0),
  (56, .iload_n 3, 57, [3], 0, 0),
  (57, .iconst 3, 58, [], 3, 0),
  (58, .idiv, 59, [], 0, 0),
  (59, .iload_n 3, 60, [3], 0, 0),
  (60, .iconst 3, 61, [], 3, 0),
  (61, .irem, 62, [], 0, 0),
  (62, .iconst 0, 63, [], 0, 0),
  (63, .invokestatic 115, 66, [0, 102, 597, 598, 9, 599], 0, 0),
  (66, .ladd, 67, [], 0, 0),
  (67, .lmul, 68, [], 0, 0),
  (68, .aload_n 0, 69, [0], 0, 0),
  (69, .iload_n 3, 70, [3], 0, 0),
  (70, .iconst 3, 71, [], 3, 0),
  (71, .idiv, 72, [], 0, 0),
  (72, .iload_n 3, 73, [3], 0, 0),
  (73, .iconst 3, 74, [], 3, 0),
  (74, .irem, 75, [], 0, 0),
  (75, .iconst 1, 76, [], 1, 0),
  (76, .invokestatic 115, 79, [0, 102, 597, 598, 9, 599], 0, 0),
  (79, .ladd, 80, [], 0, 0),
  (80, .lstore_n 1, 81, [1], 0, 0),
  (81, .iinc 3 1, 84, [3], 1, 0),
  (84, .goto (-52), 87, [32], 0, 0),
  (87, .iconst 0, 88, [], 0, 0),
  (88, .istore_n 3, 89, [3], 0, 0),
  (89, .iload_n 3, 90, [3], 0, 0),
  (90, .i2l, 91, [], 0, 0),
  (91, .aload_n 0, 92, [0], 0, 0),
  (92, .bipush 14, 94, [], 14, 0),
  (94, .invokestatic 108, 97, [0, 101, 554, 555, 9, 556], 0, 0),
  (97, .lcmp, 98, [], 0, 0),
  (98, .ifCond .ge 44, 101, [142], 0, 0),
  (101, .ldc2_w 106, 104, [553], 0, 31),
  (104, .ldc2_w 106, 107, [553], 0, 31),
  (107, .lload_n 1, 108, [1], 0, 0),
  (108, .lmul, 109, [], 0, 0),
  (109, .ldc2_w 118, 112, [613], 0, 10),
  (112, .aload_n 0, 113, [0], 0, 0),
  (113, .iload_n 3, 114, [3], 0, 0),
  (114, .iconst 0, 115, [], 0, 0),
  (115, .invokestatic 120, 118, [0, 106, 614, 615, 9, 616], 0, 0),
  (118, .lmul, 119, [], 0, 0),
  (119, .ladd, 120, [], 0, 0),
  (120, .aload_n 0, 121, [0], 0, 0),
  (121, .iload_n 3, 122, [3], 0, 0),
  (122, .iconst 1, 123, [], 1, 0),
  (123, .invokestatic 120, 126, [0, 106, 614, 615, 9, 616], 0, 0),
  (126, .ladd, 127, [], 0, 0),
  (127, .lmul, 128, [], 0, 0),
  (128, .aload_n 0, 129, [0], 0, 0),
  (129, .iload_n 3, 130, [3], 0, 0),
  (130, .iconst 2, 131, [], 2, 0),
  (131, .invokestatic 120, 134, [0, 106, 614, 615, 9, 616], 0, 0),
  (134, .ladd, 135, [], 0, 0),
  (135, .lstore_n 1, 136, [1], 0, 0),
  (136, .iinc 3 1, 139, [3], 1, 0),
  (139, .goto (-50), 142, [89], 0, 0),
  (142, .lload_n 1, 143, [1], 0, 0),
  (143, .aload_n 0, 144, [0], 0, 0),
  (144, .iconst 0, 145, [], 0, 0),
  (145, .invokestatic 123, 148, [0, 107, 624, 625, 9, 626], 0, 0),
  (148, .ladd, 149, [], 0, 0),
  (149, .ldc2_w 125, 152, [632], 0, 37),
  (152, .aload_n 0, 153, [0], 0, 0),
  (153, .iconst 1, 154, [], 1, 0),
  (154, .invokestatic 123, 157, [0, 107, 624, 625, 9, 626], 0, 0),
  (157, .lmul, 158, [], 0, 0),
  (158, .ladd, 159, [], 0, 0),
  (159, .ldc2_w 127, 162, [633], 0, 41),
  (162, .aload_n 0, 163, [0], 0, 0),
  (163, .iconst 2, 164, [], 2, 0),
  (164, .invokestatic 123, 167, [0, 107, 624, 625, 9, 626], 0, 0),
  (167, .lmul, 168, [], 0, 0),
  (168, .ladd, 169, [], 0, 0),
  (169, .ldc2_w 129, 172, [634], 0, 43),
  (172, .aload_n 0, 173, [0], 0, 0),
  (173, .iconst 3, 174, [], 3, 0),
  (174, .invokestatic 123, 177, [0, 107, 624, 625, 9, 626], 0, 0),
  (177, .lmul, 178, [], 0, 0),
  (178, .ladd, 179, [], 0, 0),
  (179, .lreturn, 180, [], 0, 0)]
/-- OdometerRingLaw.errors(LOdometerRing;)Z -/
def cd125_0 : List (Nat × Row) := [(0, .aload_n 0, 1, [0], 0, 0),
  (1, .invokestatic 131, 4, [0, 124, 549, 550, 9, 551], 0, 0),
  (4, .lstore_n 1, 5, [1], 0, 0),
  (5, .aload_n 0, 6, [0], 0, 0),
  (6, .iconst 0, 7, [], 0, 0),
  (7, .invokestatic 108, 10, [0, 101, 554, 555, 9, 556], 0, 0),
  (10, .l2i, 11, [], 0, 0),
  (11, .istore_n 3, 12, [3], 0, 0),
  (12, .aload_n 0, 13, [0], 0, 0),
  (13, .iconst 3, 14, [], 3, 0),
  (14, .invokestatic 108, 17, [0, 101, 554, 555, 9, 556], 0, 0),
  (17, .lconst 0, 18, [], 0, 0),
  (18, .lcmp, 19, [], 0, 0),
  (19, .ifCond .ne 7, 22, [26], 0, 0),
  (22, .iconst 1, 23, [], 1, 0),
  (23, .goto 4, 26, [27], 0, 0),
  (26, .iconst 0, 27, [], 0, 0),
  (27, .istore 4, 29, [4], 0, 0),
  (29, .aload_n 0, 30, [0], 0, 0),
  (30, .iconst (-1), 31, [], (-1), 0),
  (31, .invokestatic 108, 34, [0, 101, 554, 555, 9, 556], 0, 0),
  (34, .ldc2_w 17, 37, [595], 0, (-9000000000000000002)),
  (37, .lcmp, 38, [], 0, 0),
  (38, .ifCond .ne 138, 41, [176], 0, 0),
  (41, .aload_n 0, 42, [0], 0, 0),
  (42, .bipush 15, 44, [], 15, 0),
  (44, .invokestatic 108, 47, [0, 101, 554, 555, 9, 556], 0, 0),
  (47, .ldc2_w 17, 50, [595], 0, (-9000000000000000002)),
  (50, .lcmp, 51, [], 0, 0),
  (51, .ifCond .ne 125, 54, [176], 0, 0),
  (54, .aload_n 0, 55, [0], 0, 0),
  (55, .iload_n 3, 56, [3], 0, 0),
  (56, .iconst 0, 57, [], 0, 0),
  (57, .bipush 9, 59, [], 9, 0),
  (59, .invokestatic 115, 62, [0, 102, 597, 598, 9, 599], 0, 0),
  (62, .ldc2_w 36, 65, [529], 0, (-9000000000000000001)),
  (65, .lcmp, 66, [], 0, 0),
  (66, .ifCond .ne 110, 69, [176], 0, 0),
  (69, .aload_n 0, 70, [0], 0, 0),
  (70, .iconst 0, 71, [], 0, 0),
  (71, .iconst (-1), 72, [], (-1), 0),
  (72, .bipush 9, 74, [], 9, 0),
  (74, .invokestatic 115, 77, [0, 102, 597, 598, 9, 599], 0, 0),
  (77, .ldc2_w 36, 80, [529], 0, (-9000000000000000001)),
  (80, .lcmp, 81, [], 0, 0),
  (81, .ifCond .ne 95, 84, [176], 0, 0),
  (84, .aload_n 0, 85, [0], 0, 0),
  (85, .iconst 0, 86, [], 0, 0),
  (86, .iconst 0, 87, [], 0, 0),
  (87, .iconst 3, 88, [], 3, 0),
  (88, .invokestatic 115, 91, [0, 102, 597, 598, 9, 599], 0, 0),
  (91, .ldc2_w 17, 94, [595], 0, (-9000000000000000002)),
  (94, .lcmp, 95, [], 0, 0),
  (95, .ifCond .ne 81, 98, [176], 0, 0),
  (98, .aload_n 0, 99, [0], 0, 0),
  (99, .iconst (-1), 100, [], (-1), 0),
  (100, .invokestatic 135, 103, [0, 103, 635, 636, 9, 637], 0, 0),
  (103, .ldc2_w 36, 106, [529], 0, (-9000000000000000001)),
  (106, .lcmp, 107, [], 0, 0),
  (107, .ifCond .ne 69, 110, [176], 0, 0),
  (110, .aload_n 0, 111, [0], 0, 0),
  (111, .iload_n 3, 112, [3], 0, 0),
  (112, .invokestatic 137, 115, [0, 104, 644, 645, 9, 646], 0, 0),
  (115, .ldc2_w 36, 118, [529], 0, (-9000000000000000001)),
  (118, .lcmp, 119, [], 0, 0),
  (119, .ifCond .ne 57, 122, [176], 0, 0),
  (122, .aload_n 0, 123, [0], 0, 0),
  (123, .iload_n 3, 124, [3], 0, 0),
  (124, .invokestatic 139, 127, [0, 105, 655, 656, 9, 657], 0, 0),
  (127, .ldc2_w 36, 130, [529], 0, (-9000000000000000001)),
  (130, .lcmp, 131, [], 0, 0),
  (131, .ifCond .ne 45, 134, [176], 0, 0),
  (134, .aload_n 0, 135, [0], 0, 0),
  (135, .iconst (-1), 136, [], (-1), 0),
  (136, .iconst 0, 137, [], 0, 0),
  (137, .invokestatic 120, 140, [0, 106, 614, 615, 9, 616], 0, 0),
  (140, .ldc2_w 17, 143, [595], 0, (-9000000000000000002)),
  (143, .lcmp, 144, [], 0, 0),
  (144, .ifCond .ne 32, 147, [176], 0, 0),
  (147, .aload_n 0, 148, [0], 0, 0)]
def cd125_1 : List (Nat × Row) := [(148, .iconst 0, 149, [], 0, 0),
  (149, .iconst 3, 150, [], 3, 0),
  (150, .invokestatic 120, 153, [0, 106, 614, 615, 9, 616], 0, 0),
  (153, .ldc2_w 17, 156, [595], 0, (-9000000000000000002)),
  (156, .lcmp, 157, [], 0, 0),
  (157, .ifCond .ne 19, 160, [176], 0, 0),
  (160, .aload_n 0, 161, [0], 0, 0),
  (161, .iconst (-1), 162, [], (-1), 0),
  (162, .invokestatic 123, 165, [0, 107, 624, 625, 9, 626], 0, 0),
  (165, .ldc2_w 17, 168, [595], 0, (-9000000000000000002)),
  (168, .lcmp, 169, [], 0, 0),
  (169, .ifCond .ne 7, 172, [176], 0, 0),
  (172, .iconst 1, 173, [], 1, 0),
  (173, .goto 4, 176, [177], 0, 0),
  (176, .iconst 0, 177, [], 0, 0),
  (177, .istore 5, 179, [5], 0, 0),
  (179, .iload 5, 181, [5], 0, 0),
  (181, .ifCond .eq 290, 184, [471], 0, 0),
  (184, .aload_n 0, 185, [0], 0, 0),
  (185, .iconst 0, 186, [], 0, 0),
  (186, .invokestatic 142, 189, [0, 108, 666, 667, 9, 668], 0, 0),
  (189, .ldc2_w 17, 192, [595], 0, (-9000000000000000002)),
  (192, .lcmp, 193, [], 0, 0),
  (193, .ifCond .ne 278, 196, [471], 0, 0),
  (196, .aload_n 0, 197, [0], 0, 0),
  (197, .sipush 1000, 200, [], 1000, 0),
  (200, .invokestatic 142, 203, [0, 108, 666, 667, 9, 668], 0, 0),
  (203, .ldc2_w 17, 206, [595], 0, (-9000000000000000002)),
  (206, .lcmp, 207, [], 0, 0),
  (207, .ifCond .ne 264, 210, [471], 0, 0),
  (210, .aload_n 0, 211, [0], 0, 0),
  (211, .iconst 0, 212, [], 0, 0),
  (212, .iconst 0, 213, [], 0, 0),
  (213, .invokestatic 144, 216, [0, 109, 683, 684, 9, 685], 0, 0),
  (216, .ldc2_w 17, 219, [595], 0, (-9000000000000000002)),
  (219, .lcmp, 220, [], 0, 0),
  (220, .ifCond .ne 251, 223, [471], 0, 0),
  (223, .aload_n 0, 224, [0], 0, 0),
  (224, .iconst 1, 225, [], 1, 0),
  (225, .iconst (-1), 226, [], (-1), 0),
  (226, .invokestatic 144, 229, [0, 109, 683, 684, 9, 685], 0, 0),
  (229, .ldc2_w 17, 232, [595], 0, (-9000000000000000002)),
  (232, .lcmp, 233, [], 0, 0),
  (233, .ifCond .ne 238, 236, [471], 0, 0),
  (236, .aload_n 0, 237, [0], 0, 0),
  (237, .iconst (-1), 238, [], (-1), 0),
  (238, .iconst 0, 239, [], 0, 0),
  (239, .invokestatic 146, 242, [0, 111, 693, 694, 9, 695], 0, 0),
  (242, .ldc2_w 17, 245, [595], 0, (-9000000000000000002)),
  (245, .lcmp, 246, [], 0, 0),
  (246, .ifCond .ne 225, 249, [471], 0, 0),
  (249, .aload_n 0, 250, [0], 0, 0),
  (250, .iconst 0, 251, [], 0, 0),
  (251, .bipush 10, 253, [], 10, 0),
  (253, .invokestatic 148, 256, [0, 112, 705, 706, 9, 707], 0, 0),
  (256, .ldc2_w 17, 259, [595], 0, (-9000000000000000002)),
  (259, .lcmp, 260, [], 0, 0),
  (260, .ifCond .ne 211, 263, [471], 0, 0),
  (263, .aload_n 0, 264, [0], 0, 0),
  (264, .bipush 100, 266, [], 100, 0),
  (266, .invokestatic 150, 269, [0, 113, 715, 716, 9, 717], 0, 0),
  (269, .ldc2_w 17, 272, [595], 0, (-9000000000000000002)),
  (272, .lcmp, 273, [], 0, 0),
  (273, .ifCond .ne 198, 276, [471], 0, 0),
  (276, .aload_n 0, 277, [0], 0, 0),
  (277, .iload_n 3, 278, [3], 0, 0),
  (278, .invokestatic 152, 281, [0, 114, 726, 727, 9, 728], 0, 0),
  (281, .ldc2_w 36, 284, [529], 0, (-9000000000000000001)),
  (284, .lcmp, 285, [], 0, 0),
  (285, .ifCond .ne 186, 288, [471], 0, 0),
  (288, .aload_n 0, 289, [0], 0, 0),
  (289, .bipush 37, 291, [], 37, 0),
  (291, .iconst 0, 292, [], 0, 0),
  (292, .invokestatic 154, 295, [0, 116, 736, 737, 9, 738], 0, 0),
  (295, .ldc2_w 17, 298, [595], 0, (-9000000000000000002)),
  (298, .lcmp, 299, [], 0, 0),
  (299, .ifCond .ne 172, 302, [471], 0, 0),
  (302, .aload_n 0, 303, [0], 0, 0),
  (303, .iconst 0, 304, [], 0, 0),
  (304, .invokestatic 156, 307, [0, 118, 751, 752, 9, 753], 0, 0)]
def cd125_2 : List (Nat × Row) := [(307, .ldc2_w 17, 310, [595], 0, (-9000000000000000002)),
  (310, .lcmp, 311, [], 0, 0),
  (311, .ifCond .ne 160, 314, [471], 0, 0),
  (314, .aload_n 0, 315, [0], 0, 0),
  (315, .iconst 0, 316, [], 0, 0),
  (316, .iconst 0, 317, [], 0, 0),
  (317, .iconst 0, 318, [], 0, 0),
  (318, .invokestatic 158, 321, [0, 119, 762, 763, 9, 764], 0, 0),
  (321, .ldc2_w 17, 324, [595], 0, (-9000000000000000002)),
  (324, .lcmp, 325, [], 0, 0),
  (325, .ifCond .ne 146, 328, [471], 0, 0),
  (328, .iload 4, 330, [4], 0, 0),
  (330, .ifCond .eq 103, 333, [433], 0, 0),
  (333, .aload_n 0, 334, [0], 0, 0),
  (334, .iconst 1, 335, [], 1, 0),
  (335, .invokestatic 142, 338, [0, 108, 666, 667, 9, 668], 0, 0),
  (338, .ldc2_w 21, 341, [483], 0, (-9000000000000000003)),
  (341, .lcmp, 342, [], 0, 0),
  (342, .ifCond .ne 129, 345, [471], 0, 0),
  (345, .aload_n 0, 346, [0], 0, 0),
  (346, .iconst 1, 347, [], 1, 0),
  (347, .iconst 0, 348, [], 0, 0),
  (348, .invokestatic 144, 351, [0, 109, 683, 684, 9, 685], 0, 0),
  (351, .ldc2_w 21, 354, [483], 0, (-9000000000000000003)),
  (354, .lcmp, 355, [], 0, 0),
  (355, .ifCond .ne 116, 358, [471], 0, 0),
  (358, .aload_n 0, 359, [0], 0, 0),
  (359, .iconst 1, 360, [], 1, 0),
  (360, .iconst 1, 361, [], 1, 0),
  (361, .invokestatic 146, 364, [0, 111, 693, 694, 9, 695], 0, 0),
  (364, .ldc2_w 21, 367, [483], 0, (-9000000000000000003)),
  (367, .lcmp, 368, [], 0, 0),
  (368, .ifCond .ne 103, 371, [471], 0, 0),
  (371, .aload_n 0, 372, [0], 0, 0),
  (372, .iconst 0, 373, [], 0, 0),
  (373, .invokestatic 152, 376, [0, 114, 726, 727, 9, 728], 0, 0),
  (376, .ldc2_w 21, 379, [483], 0, (-9000000000000000003)),
  (379, .lcmp, 380, [], 0, 0),
  (380, .ifCond .ne 91, 383, [471], 0, 0),
  (383, .aload_n 0, 384, [0], 0, 0),
  (384, .iconst 1, 385, [], 1, 0),
  (385, .iconst 0, 386, [], 0, 0),
  (386, .invokestatic 154, 389, [0, 116, 736, 737, 9, 738], 0, 0),
  (389, .ldc2_w 21, 392, [483], 0, (-9000000000000000003)),
  (392, .lcmp, 393, [], 0, 0),
  (393, .ifCond .ne 78, 396, [471], 0, 0),
  (396, .aload_n 0, 397, [0], 0, 0),
  (397, .invokestatic 160, 400, [0, 117, 770, 771, 9, 772], 0, 0),
  (400, .ldc2_w 21, 403, [483], 0, (-9000000000000000003)),
  (403, .lcmp, 404, [], 0, 0),
  (404, .ifCond .ne 67, 407, [471], 0, 0),
  (407, .aload_n 0, 408, [0], 0, 0),
  (408, .iconst 1, 409, [], 1, 0),
  (409, .invokestatic 156, 412, [0, 118, 751, 752, 9, 753], 0, 0),
  (412, .ldc2_w 21, 415, [483], 0, (-9000000000000000003)),
  (415, .lcmp, 416, [], 0, 0),
  (416, .ifCond .ne 55, 419, [471], 0, 0),
  (419, .aload_n 0, 420, [0], 0, 0),
  (420, .iconst 0, 421, [], 0, 0),
  (421, .iconst 0, 422, [], 0, 0),
  (422, .iconst 1, 423, [], 1, 0),
  (423, .invokestatic 158, 426, [0, 119, 762, 763, 9, 764], 0, 0),
  (426, .ldc2_w 21, 429, [483], 0, (-9000000000000000003)),
  (429, .lcmp, 430, [], 0, 0),
  (430, .ifCond .ne 41, 433, [471], 0, 0),
  (433, .iload 4, 435, [4], 0, 0),
  (435, .ifCond .ne 32, 438, [467], 0, 0),
  (438, .aload_n 0, 439, [0], 0, 0),
  (439, .invokestatic 162, 442, [0, 110, 778, 779, 9, 780], 0, 0),
  (442, .ldc2_w 21, 445, [483], 0, (-9000000000000000003)),
  (445, .lcmp, 446, [], 0, 0),
  (446, .ifCond .ne 25, 449, [471], 0, 0),
  (449, .aload_n 0, 450, [0], 0, 0),
  (450, .aload_n 0, 451, [0], 0, 0),
  (451, .bipush 7, 453, [], 7, 0),
  (453, .invokestatic 108, 456, [0, 101, 554, 555, 9, 556], 0, 0),
  (456, .l2i, 457, [], 0, 0),
  (457, .invokestatic 152, 460, [0, 114, 726, 727, 9, 728], 0, 0),
  (460, .ldc2_w 21, 463, [483], 0, (-9000000000000000003)),
  (463, .lcmp, 464, [], 0, 0)]
def cd125_3 : List (Nat × Row) := [(464, .ifCond .ne 7, 467, [471], 0, 0),
  (467, .iconst 1, 468, [], 1, 0),
  (468, .goto 4, 471, [472], 0, 0),
  (471, .iconst 0, 472, [], 0, 0),
  (472, .istore 5, 474, [5], 0, 0),
  (474, .iload 5, 476, [5], 0, 0),
  (476, .ifCond .eq 138, 479, [614], 0, 0),
  (479, .aload_n 0, 480, [0], 0, 0),
  (480, .bipush 12, 482, [], 12, 0),
  (482, .invokestatic 108, 485, [0, 101, 554, 555, 9, 556], 0, 0),
  (485, .lconst 0, 486, [], 0, 0),
  (486, .lcmp, 487, [], 0, 0),
  (487, .ifCond .eq 37, 490, [524], 0, 0),
  (490, .aload_n 0, 491, [0], 0, 0),
  (491, .iconst 1, 492, [], 1, 0),
  (492, .iconst 0, 493, [], 0, 0),
  (493, .invokestatic 154, 496, [0, 116, 736, 737, 9, 738], 0, 0),
  (496, .ldc2_w 21, 499, [483], 0, (-9000000000000000003)),
  (499, .lcmp, 500, [], 0, 0),
  (500, .ifCond .ne 114, 503, [614], 0, 0),
  (503, .aload_n 0, 504, [0], 0, 0),
  (504, .invokestatic 160, 507, [0, 117, 770, 771, 9, 772], 0, 0),
  (507, .ldc2_w 21, 510, [483], 0, (-9000000000000000003)),
  (510, .lcmp, 511, [], 0, 0),
  (511, .ifCond .ne 103, 514, [614], 0, 0),
  (514, .aload_n 0, 515, [0], 0, 0),
  (515, .iconst 1, 516, [], 1, 0),
  (516, .invokestatic 156, 519, [0, 118, 751, 752, 9, 753], 0, 0),
  (519, .lconst 0, 520, [], 0, 0),
  (520, .lcmp, 521, [], 0, 0),
  (521, .ifCond .ne 93, 524, [614], 0, 0),
  (524, .aload_n 0, 525, [0], 0, 0),
  (525, .iconst 0, 526, [], 0, 0),
  (526, .lconst 0, 527, [], 0, 0),
  (527, .invokestatic 164, 530, [0, 120, 786, 787, 9, 788], 0, 0),
  (530, .ldc2_w 17, 533, [595], 0, (-9000000000000000002)),
  (533, .lcmp, 534, [], 0, 0),
  (534, .ifCond .ne 80, 537, [614], 0, 0),
  (537, .aload_n 0, 538, [0], 0, 0),
  (538, .iconst 4, 539, [], 4, 0),
  (539, .ldc2_w 168, 542, [808], 0, 10000000000000000),
  (542, .invokestatic 164, 545, [0, 120, 786, 787, 9, 788], 0, 0),
  (545, .ldc2_w 17, 548, [595], 0, (-9000000000000000002)),
  (548, .lcmp, 549, [], 0, 0),
  (549, .ifCond .ne 65, 552, [614], 0, 0),
  (552, .aload_n 0, 553, [0], 0, 0),
  (553, .lconst 1, 554, [], 0, 1),
  (554, .iconst 0, 555, [], 0, 0),
  (555, .invokestatic 170, 558, [0, 121, 809, 810, 9, 811], 0, 0),
  (558, .ldc2_w 17, 561, [595], 0, (-9000000000000000002)),
  (561, .lcmp, 562, [], 0, 0),
  (562, .ifCond .ne 52, 565, [614], 0, 0),
  (565, .aload_n 0, 566, [0], 0, 0),
  (566, .iconst 2, 567, [], 2, 0),
  (567, .invokestatic 173, 570, [0, 122, 484, 485, 9, 486], 0, 0),
  (570, .ldc2_w 36, 573, [529], 0, (-9000000000000000001)),
  (573, .lcmp, 574, [], 0, 0),
  (574, .ifCond .ne 40, 577, [614], 0, 0),
  (577, .aload_n 0, 578, [0], 0, 0),
  (578, .iconst 2, 579, [], 2, 0),
  (579, .invokestatic 175, 582, [0, 123, 530, 531, 9, 532], 0, 0),
  (582, .ldc2_w 36, 585, [529], 0, (-9000000000000000001)),
  (585, .lcmp, 586, [], 0, 0),
  (586, .ifCond .ne 28, 589, [614], 0, 0),
  (589, .aload_n 0, 590, [0], 0, 0),
  (590, .iconst (-1), 591, [], (-1), 0),
  (591, .invokestatic 177, 594, [0, 99, 823, 824, 9, 825], 0, 0),
  (594, .ldc2_w 17, 597, [595], 0, (-9000000000000000002)),
  (597, .lcmp, 598, [], 0, 0),
  (598, .ifCond .ne 16, 601, [614], 0, 0),
  (601, .aload_n 0, 602, [0], 0, 0),
  (602, .invokestatic 131, 605, [0, 124, 549, 550, 9, 551], 0, 0),
  (605, .lload_n 1, 606, [1], 0, 0),
  (606, .lcmp, 607, [], 0, 0),
  (607, .ifCond .ne 7, 610, [614], 0, 0),
  (610, .iconst 1, 611, [], 1, 0),
  (611, .goto 4, 614, [615], 0, 0),
  (614, .iconst 0, 615, [], 0, 0),
  (615, .ireturn, 616, [], 0, 0)]
def cd125 : List (Nat × Row) := cd125_0 ++ (cd125_1 ++ (cd125_2 ++ (cd125_3)))
/-- OdometerRingLaw.kept(LOdometerRing;)Z -/
def cd126_0 : List (Nat × Row) := [(0, .aload_n 0, 1, [0], 0, 0),
  (1, .iconst 0, 2, [], 0, 0),
  (2, .invokestatic 108, 5, [0, 101, 554, 555, 9, 556], 0, 0),
  (5, .l2i, 6, [], 0, 0),
  (6, .istore_n 1, 7, [1], 0, 0),
  (7, .aload_n 0, 8, [0], 0, 0),
  (8, .iconst 3, 9, [], 3, 0),
  (9, .invokestatic 108, 12, [0, 101, 554, 555, 9, 556], 0, 0),
  (12, .lconst 0, 13, [], 0, 0),
  (13, .lcmp, 14, [], 0, 0),
  (14, .ifCond .ne 7, 17, [21], 0, 0),
  (17, .iconst 1, 18, [], 1, 0),
  (18, .goto 4, 21, [22], 0, 0),
  (21, .iconst 0, 22, [], 0, 0),
  (22, .istore_n 2, 23, [2], 0, 0),
  (23, .iconst 1, 24, [], 1, 0),
  (24, .istore_n 3, 25, [3], 0, 0),
  (25, .lconst 0, 26, [], 0, 0),
  (26, .lstore 4, 28, [4], 0, 0),
  (28, .aload_n 0, 29, [0], 0, 0),
  (29, .iconst 0, 30, [], 0, 0),
  (30, .iconst 0, 31, [], 0, 0),
  (31, .iconst 1, 32, [], 1, 0),
  (32, .invokestatic 115, 35, [0, 102, 597, 598, 9, 599], 0, 0),
  (35, .lstore 6, 37, [6], 0, 0),
  (37, .lload 6, 39, [6], 0, 0),
  (39, .lstore 8, 41, [8], 0, 0),
  (41, .ldc2_w 179, 44, [839], 0, (-99999)),
  (44, .lstore 10, 46, [10], 0, 0),
  (46, .iconst 0, 47, [], 0, 0),
  (47, .istore 12, 49, [12], 0, 0),
  (49, .iload 12, 51, [12], 0, 0),
  (51, .iload_n 1, 52, [1], 0, 0),
  (52, .if_icmp .ge 422, 55, [474], 0, 0),
  (55, .iload_n 3, 56, [3], 0, 0),
  (56, .ifCond .eq 418, 59, [474], 0, 0),
  (59, .aload_n 0, 60, [0], 0, 0),
  (60, .iload 12, 62, [12], 0, 0),
  (62, .iconst 0, 63, [], 0, 0),
  (63, .iconst 0, 64, [], 0, 0),
  (64, .invokestatic 115, 67, [0, 102, 597, 598, 9, 599], 0, 0),
  (67, .lstore 13, 69, [13], 0, 0),
  (69, .aload_n 0, 70, [0], 0, 0),
  (70, .iload 12, 72, [12], 0, 0),
  (72, .iconst 1, 73, [], 1, 0),
  (73, .iconst 0, 74, [], 0, 0),
  (74, .invokestatic 115, 77, [0, 102, 597, 598, 9, 599], 0, 0),
  (77, .lstore 15, 79, [15], 0, 0),
  (79, .aload_n 0, 80, [0], 0, 0),
  (80, .iload 12, 82, [12], 0, 0),
  (82, .iconst 2, 83, [], 2, 0),
  (83, .iconst 0, 84, [], 0, 0),
  (84, .invokestatic 115, 87, [0, 102, 597, 598, 9, 599], 0, 0),
  (87, .lstore 17, 89, [17], 0, 0),
  (89, .aload_n 0, 90, [0], 0, 0),
  (90, .iload 12, 92, [12], 0, 0),
  (92, .invokestatic 135, 95, [0, 103, 635, 636, 9, 637], 0, 0),
  (95, .lstore 19, 97, [19], 0, 0),
  (97, .lload 13, 99, [13], 0, 0),
  (99, .lload 19, 101, [19], 0, 0),
  (101, .lcmp, 102, [], 0, 0),
  (102, .ifCond .ne 7, 105, [109], 0, 0),
  (105, .iconst 1, 106, [], 1, 0),
  (106, .goto 4, 109, [110], 0, 0),
  (109, .iconst 0, 110, [], 0, 0),
  (110, .lload 15, 112, [15], 0, 0),
  (112, .lload 19, 114, [19], 0, 0),
  (114, .lcmp, 115, [], 0, 0),
  (115, .ifCond .ne 7, 118, [122], 0, 0),
  (118, .iconst 1, 119, [], 1, 0),
  (119, .goto 4, 122, [123], 0, 0),
  (122, .iconst 0, 123, [], 0, 0),
  (123, .iadd, 124, [], 0, 0),
  (124, .lload 17, 126, [17], 0, 0),
  (126, .lload 19, 128, [19], 0, 0),
  (128, .lcmp, 129, [], 0, 0),
  (129, .ifCond .ne 7, 132, [136], 0, 0),
  (132, .iconst 1, 133, [], 1, 0),
  (133, .goto 4, 136, [137], 0, 0),
  (136, .iconst 0, 137, [], 0, 0)]
def cd126_1 : List (Nat × Row) := [(137, .iadd, 138, [], 0, 0),
  (138, .istore 21, 140, [21], 0, 0),
  (140, .lload 13, 142, [13], 0, 0),
  (142, .ldc2_w 179, 145, [839], 0, (-99999)),
  (145, .lcmp, 146, [], 0, 0),
  (146, .ifCond .ne 7, 149, [153], 0, 0),
  (149, .iconst 0, 150, [], 0, 0),
  (150, .goto 4, 153, [154], 0, 0),
  (153, .iconst 1, 154, [], 1, 0),
  (154, .lload 15, 156, [15], 0, 0),
  (156, .ldc2_w 179, 159, [839], 0, (-99999)),
  (159, .lcmp, 160, [], 0, 0),
  (160, .ifCond .ne 7, 163, [167], 0, 0),
  (163, .iconst 0, 164, [], 0, 0),
  (164, .goto 4, 167, [168], 0, 0),
  (167, .iconst 1, 168, [], 1, 0),
  (168, .iadd, 169, [], 0, 0),
  (169, .lload 17, 171, [17], 0, 0),
  (171, .ldc2_w 179, 174, [839], 0, (-99999)),
  (174, .lcmp, 175, [], 0, 0),
  (175, .ifCond .ne 7, 178, [182], 0, 0),
  (178, .iconst 0, 179, [], 0, 0),
  (179, .goto 4, 182, [183], 0, 0),
  (182, .iconst 1, 183, [], 1, 0),
  (183, .iadd, 184, [], 0, 0),
  (184, .istore 22, 186, [22], 0, 0),
  (186, .lload 13, 188, [13], 0, 0),
  (188, .ldc2_w 179, 191, [839], 0, (-99999)),
  (191, .lcmp, 192, [], 0, 0),
  (192, .ifCond .eq 19, 195, [211], 0, 0),
  (195, .lload 13, 197, [13], 0, 0),
  (197, .lload 15, 199, [15], 0, 0),
  (199, .lcmp, 200, [], 0, 0),
  (200, .ifCond .eq 28, 203, [228], 0, 0),
  (203, .lload 13, 205, [13], 0, 0),
  (205, .lload 17, 207, [17], 0, 0),
  (207, .lcmp, 208, [], 0, 0),
  (208, .ifCond .eq 20, 211, [228], 0, 0),
  (211, .lload 15, 213, [15], 0, 0),
  (213, .ldc2_w 179, 216, [839], 0, (-99999)),
  (216, .lcmp, 217, [], 0, 0),
  (217, .ifCond .eq 15, 220, [232], 0, 0),
  (220, .lload 15, 222, [15], 0, 0),
  (222, .lload 17, 224, [17], 0, 0),
  (224, .lcmp, 225, [], 0, 0),
  (225, .ifCond .ne 7, 228, [232], 0, 0),
  (228, .iconst 1, 229, [], 1, 0),
  (229, .goto 4, 232, [233], 0, 0),
  (232, .iconst 0, 233, [], 0, 0),
  (233, .istore 23, 235, [23], 0, 0),
  (235, .lload 19, 237, [19], 0, 0),
  (237, .ldc2_w 179, 240, [839], 0, (-99999)),
  (240, .lcmp, 241, [], 0, 0),
  (241, .ifCond .eq 7, 244, [248], 0, 0),
  (244, .iconst 1, 245, [], 1, 0),
  (245, .goto 4, 248, [249], 0, 0),
  (248, .iconst 0, 249, [], 0, 0),
  (249, .iload 23, 251, [23], 0, 0),
  (251, .if_icmp .ne 74, 254, [325], 0, 0),
  (254, .lload 19, 256, [19], 0, 0),
  (256, .ldc2_w 179, 259, [839], 0, (-99999)),
  (259, .lcmp, 260, [], 0, 0),
  (260, .ifCond .eq 9, 263, [269], 0, 0),
  (263, .iload 21, 265, [21], 0, 0),
  (265, .iconst 1, 266, [], 1, 0),
  (266, .if_icmp .le 59, 269, [325], 0, 0),
  (269, .aload_n 0, 270, [0], 0, 0),
  (270, .iload 12, 272, [12], 0, 0),
  (272, .invokestatic 137, 275, [0, 104, 644, 645, 9, 646], 0, 0),
  (275, .iload 23, 277, [23], 0, 0),
  (277, .ifCond .eq 7, 280, [284], 0, 0),
  (280, .lconst 0, 281, [], 0, 0),
  (281, .goto 16, 284, [297], 0, 0),
  (284, .iload 22, 286, [22], 0, 0),
  (286, .iconst 2, 287, [], 2, 0),
  (287, .if_icmp .ge 7, 290, [294], 0, 0),
  (290, .lconst 1, 291, [], 0, 1),
  (291, .goto 6, 294, [297], 0, 0),
  (294, .ldc2_w 181, 297, [840], 0, 2),
  (297, .lcmp, 298, [], 0, 0)]
def cd126_2 : List (Nat × Row) := [(298, .ifCond .ne 27, 301, [325], 0, 0),
  (301, .lload 19, 303, [19], 0, 0),
  (303, .ldc2_w 179, 306, [839], 0, (-99999)),
  (306, .lcmp, 307, [], 0, 0),
  (307, .ifCond .eq 14, 310, [321], 0, 0),
  (310, .lload 19, 312, [19], 0, 0),
  (312, .aload_n 0, 313, [0], 0, 0),
  (313, .iconst 5, 314, [], 5, 0),
  (314, .invokestatic 108, 317, [0, 101, 554, 555, 9, 556], 0, 0),
  (317, .lcmp, 318, [], 0, 0),
  (318, .ifCond .gt 7, 321, [325], 0, 0),
  (321, .iconst 1, 322, [], 1, 0),
  (322, .goto 4, 325, [326], 0, 0),
  (325, .iconst 0, 326, [], 0, 0),
  (326, .istore_n 3, 327, [3], 0, 0),
  (327, .lload 19, 329, [19], 0, 0),
  (329, .lload 10, 331, [10], 0, 0),
  (331, .lcmp, 332, [], 0, 0),
  (332, .ifCond .le 8, 335, [340], 0, 0),
  (335, .lload 19, 337, [19], 0, 0),
  (337, .goto 5, 340, [342], 0, 0),
  (340, .lload 10, 342, [10], 0, 0),
  (342, .lstore 10, 344, [10], 0, 0),
  (344, .iconst 0, 345, [], 0, 0),
  (345, .istore 24, 347, [24], 0, 0),
  (347, .iload 24, 349, [24], 0, 0),
  (349, .iconst 3, 350, [], 3, 0),
  (350, .if_icmp .ge 118, 353, [468], 0, 0),
  (353, .iload_n 3, 354, [3], 0, 0),
  (354, .ifCond .eq 114, 357, [468], 0, 0),
  (357, .aload_n 0, 358, [0], 0, 0),
  (358, .iload 12, 360, [12], 0, 0),
  (360, .iload 24, 362, [24], 0, 0),
  (362, .iconst 1, 363, [], 1, 0),
  (363, .invokestatic 115, 366, [0, 102, 597, 598, 9, 599], 0, 0),
  (366, .lstore 25, 368, [25], 0, 0),
  (368, .lload 4, 370, [4], 0, 0),
  (370, .lload 25, 372, [25], 0, 0),
  (372, .ladd, 373, [], 0, 0),
  (373, .lstore 4, 375, [4], 0, 0),
  (375, .lload 25, 377, [25], 0, 0),
  (377, .lload 6, 379, [6], 0, 0),
  (379, .lcmp, 380, [], 0, 0),
  (380, .ifCond .ge 8, 383, [388], 0, 0),
  (383, .lload 25, 385, [25], 0, 0),
  (385, .goto 5, 388, [390], 0, 0),
  (388, .lload 6, 390, [6], 0, 0),
  (390, .lstore 6, 392, [6], 0, 0),
  (392, .lload 25, 394, [25], 0, 0),
  (394, .lload 8, 396, [8], 0, 0),
  (396, .lcmp, 397, [], 0, 0),
  (397, .ifCond .le 8, 400, [405], 0, 0),
  (400, .lload 25, 402, [25], 0, 0),
  (402, .goto 5, 405, [407], 0, 0),
  (405, .lload 8, 407, [8], 0, 0),
  (407, .lstore 8, 409, [8], 0, 0),
  (409, .lload 25, 411, [25], 0, 0),
  (411, .lconst 0, 412, [], 0, 0),
  (412, .lcmp, 413, [], 0, 0),
  (413, .ifCond .lt 47, 416, [460], 0, 0),
  (416, .lload 25, 418, [25], 0, 0),
  (418, .aload_n 0, 419, [0], 0, 0),
  (419, .iconst 2, 420, [], 2, 0),
  (420, .invokestatic 108, 423, [0, 101, 554, 555, 9, 556], 0, 0),
  (423, .lcmp, 424, [], 0, 0),
  (424, .ifCond .gt 36, 427, [460], 0, 0),
  (427, .aload_n 0, 428, [0], 0, 0),
  (428, .iload 12, 430, [12], 0, 0),
  (430, .iload 24, 432, [24], 0, 0),
  (432, .iconst 2, 433, [], 2, 0),
  (433, .invokestatic 115, 436, [0, 102, 597, 598, 9, 599], 0, 0),
  (436, .lload 25, 438, [25], 0, 0),
  (438, .aload_n 0, 439, [0], 0, 0),
  (439, .iconst 2, 440, [], 2, 0),
  (440, .invokestatic 108, 443, [0, 101, 554, 555, 9, 556], 0, 0),
  (443, .lcmp, 444, [], 0, 0),
  (444, .ifCond .ne 7, 447, [451], 0, 0),
  (447, .lconst 1, 448, [], 0, 1),
  (448, .goto 4, 451, [452], 0, 0),
  (451, .lconst 0, 452, [], 0, 0)]
def cd126_3 : List (Nat × Row) := [(452, .lcmp, 453, [], 0, 0),
  (453, .ifCond .ne 7, 456, [460], 0, 0),
  (456, .iconst 1, 457, [], 1, 0),
  (457, .goto 4, 460, [461], 0, 0),
  (460, .iconst 0, 461, [], 0, 0),
  (461, .istore_n 3, 462, [3], 0, 0),
  (462, .iinc 24 1, 465, [24], 1, 0),
  (465, .goto (-118), 468, [347], 0, 0),
  (468, .iinc 12 1, 471, [12], 1, 0),
  (471, .goto (-422), 474, [49], 0, 0),
  (474, .lconst 0, 475, [], 0, 0),
  (475, .lstore 12, 477, [12], 0, 0),
  (477, .iconst 0, 478, [], 0, 0),
  (478, .istore 14, 480, [14], 0, 0),
  (480, .iload 14, 482, [14], 0, 0),
  (482, .iload_n 1, 483, [1], 0, 0),
  (483, .if_icmp .ge 84, 486, [567], 0, 0),
  (486, .iload_n 3, 487, [3], 0, 0),
  (487, .ifCond .eq 80, 490, [567], 0, 0),
  (490, .aload_n 0, 491, [0], 0, 0),
  (491, .iload 14, 493, [14], 0, 0),
  (493, .invokestatic 139, 496, [0, 105, 655, 656, 9, 657], 0, 0),
  (496, .lload 4, 498, [4], 0, 0),
  (498, .lconst 0, 499, [], 0, 0),
  (499, .lcmp, 500, [], 0, 0),
  (500, .ifCond .ne 7, 503, [507], 0, 0),
  (503, .lconst 0, 504, [], 0, 0),
  (504, .goto 36, 507, [540], 0, 0),
  (507, .ldc2_w 183, 510, [841], 0, 100),
  (510, .aload_n 0, 511, [0], 0, 0),
  (511, .iload 14, 513, [14], 0, 0),
  (513, .iconst 0, 514, [], 0, 0),
  (514, .iconst 1, 515, [], 1, 0),
  (515, .invokestatic 115, 518, [0, 102, 597, 598, 9, 599], 0, 0),
  (518, .aload_n 0, 519, [0], 0, 0),
  (519, .iload 14, 521, [14], 0, 0),
  (521, .iconst 1, 522, [], 1, 0),
  (522, .iconst 1, 523, [], 1, 0),
  (523, .invokestatic 115, 526, [0, 102, 597, 598, 9, 599], 0, 0),
  (526, .ladd, 527, [], 0, 0),
  (527, .aload_n 0, 528, [0], 0, 0),
  (528, .iload 14, 530, [14], 0, 0),
  (530, .iconst 2, 531, [], 2, 0),
  (531, .iconst 1, 532, [], 1, 0),
  (532, .invokestatic 115, 535, [0, 102, 597, 598, 9, 599], 0, 0),
  (535, .ladd, 536, [], 0, 0),
  (536, .lmul, 537, [], 0, 0),
  (537, .lload 4, 539, [4], 0, 0),
  (539, .ldiv, 540, [], 0, 0),
  (540, .lcmp, 541, [], 0, 0),
  (541, .ifCond .ne 7, 544, [548], 0, 0),
  (544, .iconst 1, 545, [], 1, 0),
  (545, .goto 4, 548, [549], 0, 0),
  (548, .iconst 0, 549, [], 0, 0),
  (549, .istore_n 3, 550, [3], 0, 0),
  (550, .lload 12, 552, [12], 0, 0),
  (552, .aload_n 0, 553, [0], 0, 0),
  (553, .iload 14, 555, [14], 0, 0),
  (555, .invokestatic 139, 558, [0, 105, 655, 656, 9, 657], 0, 0),
  (558, .ladd, 559, [], 0, 0),
  (559, .lstore 12, 561, [12], 0, 0),
  (561, .iinc 14 1, 564, [14], 1, 0),
  (564, .goto (-84), 567, [480], 0, 0),
  (567, .iload_n 3, 568, [3], 0, 0),
  (568, .ifCond .eq 43, 571, [611], 0, 0),
  (571, .lload 12, 573, [12], 0, 0),
  (573, .ldc2_w 183, 576, [841], 0, 100),
  (576, .lcmp, 577, [], 0, 0),
  (577, .ifCond .gt 34, 580, [611], 0, 0),
  (580, .aload_n 0, 581, [0], 0, 0),
  (581, .bipush 13, 583, [], 13, 0),
  (583, .invokestatic 108, 586, [0, 101, 554, 555, 9, 556], 0, 0),
  (586, .lload 8, 588, [8], 0, 0),
  (588, .lload 6, 590, [6], 0, 0),
  (590, .lsub, 591, [], 0, 0),
  (591, .lcmp, 592, [], 0, 0),
  (592, .ifCond .ne 19, 595, [611], 0, 0),
  (595, .lload 4, 597, [4], 0, 0),
  (597, .aload_n 0, 598, [0], 0, 0),
  (598, .bipush 8, 600, [], 8, 0)]
def cd126_4 : List (Nat × Row) := [(600, .invokestatic 108, 603, [0, 101, 554, 555, 9, 556], 0, 0),
  (603, .lcmp, 604, [], 0, 0),
  (604, .ifCond .gt 7, 607, [611], 0, 0),
  (607, .iconst 1, 608, [], 1, 0),
  (608, .goto 4, 611, [612], 0, 0),
  (611, .iconst 0, 612, [], 0, 0),
  (612, .istore_n 3, 613, [3], 0, 0),
  (613, .iload_n 2, 614, [2], 0, 0),
  (614, .ifCond .eq 135, 617, [749], 0, 0),
  (617, .iload_n 3, 618, [3], 0, 0),
  (618, .ifCond .eq 129, 621, [747], 0, 0),
  (621, .aload_n 0, 622, [0], 0, 0),
  (622, .iconst 4, 623, [], 4, 0),
  (623, .invokestatic 108, 626, [0, 101, 554, 555, 9, 556], 0, 0),
  (626, .ldc2_w 179, 629, [839], 0, (-99999)),
  (629, .lcmp, 630, [], 0, 0),
  (630, .ifCond .ne 117, 633, [747], 0, 0),
  (633, .aload_n 0, 634, [0], 0, 0),
  (634, .bipush 6, 636, [], 6, 0),
  (636, .invokestatic 108, 639, [0, 101, 554, 555, 9, 556], 0, 0),
  (639, .ldc2_w 179, 642, [839], 0, (-99999)),
  (642, .lcmp, 643, [], 0, 0),
  (643, .ifCond .ne 104, 646, [747], 0, 0),
  (646, .aload_n 0, 647, [0], 0, 0),
  (647, .bipush 7, 649, [], 7, 0),
  (649, .invokestatic 108, 652, [0, 101, 554, 555, 9, 556], 0, 0),
  (652, .ldc2_w 179, 655, [839], 0, (-99999)),
  (655, .lcmp, 656, [], 0, 0),
  (656, .ifCond .ne 91, 659, [747], 0, 0),
  (659, .aload_n 0, 660, [0], 0, 0),
  (660, .bipush 12, 662, [], 12, 0),
  (662, .invokestatic 108, 665, [0, 101, 554, 555, 9, 556], 0, 0),
  (665, .lconst 0, 666, [], 0, 0),
  (666, .lcmp, 667, [], 0, 0),
  (667, .ifCond .ne 80, 670, [747], 0, 0),
  (670, .aload_n 0, 671, [0], 0, 0),
  (671, .bipush 9, 673, [], 9, 0),
  (673, .invokestatic 108, 676, [0, 101, 554, 555, 9, 556], 0, 0),
  (676, .lconst 0, 677, [], 0, 0),
  (677, .lcmp, 678, [], 0, 0),
  (678, .ifCond .le 69, 681, [747], 0, 0),
  (681, .aload_n 0, 682, [0], 0, 0),
  (682, .iconst 0, 683, [], 0, 0),
  (683, .invokestatic 123, 686, [0, 107, 624, 625, 9, 626], 0, 0),
  (686, .lconst 0, 687, [], 0, 0),
  (687, .iload_n 1, 688, [1], 0, 0),
  (688, .iconst 1, 689, [], 1, 0),
  (689, .isub, 690, [], 0, 0),
  (690, .i2l, 691, [], 0, 0),
  (691, .invokestatic 185, 694, [0, 98, 842, 843, 9, 844], 0, 0),
  (694, .ifCond .eq 53, 697, [747], 0, 0),
  (697, .aload_n 0, 698, [0], 0, 0),
  (698, .iconst 1, 699, [], 1, 0),
  (699, .invokestatic 123, 702, [0, 107, 624, 625, 9, 626], 0, 0),
  (702, .lconst 0, 703, [], 0, 0),
  (703, .ldc2_w 181, 706, [840], 0, 2),
  (706, .invokestatic 185, 709, [0, 98, 842, 843, 9, 844], 0, 0),
  (709, .ifCond .eq 38, 712, [747], 0, 0),
  (712, .aload_n 0, 713, [0], 0, 0),
  (713, .iconst 2, 714, [], 2, 0),
  (714, .invokestatic 123, 717, [0, 107, 624, 625, 9, 626], 0, 0),
  (717, .lconst 0, 718, [], 0, 0),
  (718, .ldc2_w 181, 721, [840], 0, 2),
  (721, .invokestatic 185, 724, [0, 98, 842, 843, 9, 844], 0, 0),
  (724, .ifCond .eq 23, 727, [747], 0, 0),
  (727, .aload_n 0, 728, [0], 0, 0),
  (728, .iconst 3, 729, [], 3, 0),
  (729, .invokestatic 123, 732, [0, 107, 624, 625, 9, 626], 0, 0),
  (732, .lconst 0, 733, [], 0, 0),
  (733, .iload_n 1, 734, [1], 0, 0),
  (734, .iconst 2, 735, [], 2, 0),
  (735, .isub, 736, [], 0, 0),
  (736, .i2l, 737, [], 0, 0),
  (737, .invokestatic 185, 740, [0, 98, 842, 843, 9, 844], 0, 0),
  (740, .ifCond .eq 7, 743, [747], 0, 0),
  (743, .iconst 1, 744, [], 1, 0),
  (744, .goto 4, 747, [748], 0, 0),
  (747, .iconst 0, 748, [], 0, 0),
  (748, .ireturn, 749, [], 0, 0),
  (749, .aload_n 0, 750, [0], 0, 0)]
def cd126_5 : List (Nat × Row) := [(750, .iconst 4, 751, [], 4, 0),
  (751, .invokestatic 108, 754, [0, 101, 554, 555, 9, 556], 0, 0),
  (754, .lstore 14, 756, [14], 0, 0),
  (756, .aload_n 0, 757, [0], 0, 0),
  (757, .bipush 6, 759, [], 6, 0),
  (759, .invokestatic 108, 762, [0, 101, 554, 555, 9, 556], 0, 0),
  (762, .lstore 16, 764, [16], 0, 0),
  (764, .aload_n 0, 765, [0], 0, 0),
  (765, .bipush 14, 767, [], 14, 0),
  (767, .invokestatic 108, 770, [0, 101, 554, 555, 9, 556], 0, 0),
  (770, .l2i, 771, [], 0, 0),
  (771, .istore 18, 773, [18], 0, 0),
  (773, .iload_n 3, 774, [3], 0, 0),
  (774, .ifCond .eq 166, 777, [940], 0, 0),
  (777, .lload 14, 779, [14], 0, 0),
  (779, .lload 16, 781, [16], 0, 0),
  (781, .lcmp, 782, [], 0, 0),
  (782, .ifCond .lt 158, 785, [940], 0, 0),
  (785, .lload 14, 787, [14], 0, 0),
  (787, .aload_n 0, 788, [0], 0, 0),
  (788, .iconst 5, 789, [], 5, 0),
  (789, .invokestatic 108, 792, [0, 101, 554, 555, 9, 556], 0, 0),
  (792, .lcmp, 793, [], 0, 0),
  (793, .ifCond .gt 147, 796, [940], 0, 0),
  (796, .lload 10, 798, [10], 0, 0),
  (798, .lload 14, 800, [14], 0, 0),
  (800, .lcmp, 801, [], 0, 0),
  (801, .ifCond .gt 139, 804, [940], 0, 0),
  (804, .aload_n 0, 805, [0], 0, 0),
  (805, .bipush 7, 807, [], 7, 0),
  (807, .invokestatic 108, 810, [0, 101, 554, 555, 9, 556], 0, 0),
  (810, .lconst 0, 811, [], 0, 0),
  (811, .iload_n 1, 812, [1], 0, 0),
  (812, .iconst 1, 813, [], 1, 0),
  (813, .isub, 814, [], 0, 0),
  (814, .i2l, 815, [], 0, 0),
  (815, .invokestatic 185, 818, [0, 98, 842, 843, 9, 844], 0, 0),
  (818, .ifCond .eq 122, 821, [940], 0, 0),
  (821, .lload 16, 823, [16], 0, 0),
  (823, .lconst 0, 824, [], 0, 0),
  (824, .lcmp, 825, [], 0, 0),
  (825, .ifCond .eq 20, 828, [845], 0, 0),
  (828, .aload_n 0, 829, [0], 0, 0),
  (829, .aload_n 0, 830, [0], 0, 0),
  (830, .bipush 7, 832, [], 7, 0),
  (832, .invokestatic 108, 835, [0, 101, 554, 555, 9, 556], 0, 0),
  (835, .l2i, 836, [], 0, 0),
  (836, .invokestatic 135, 839, [0, 103, 635, 636, 9, 637], 0, 0),
  (839, .lload 16, 841, [16], 0, 0),
  (841, .lcmp, 842, [], 0, 0),
  (842, .ifCond .ne 98, 845, [940], 0, 0),
  (845, .aload_n 0, 846, [0], 0, 0),
  (846, .bipush 10, 848, [], 10, 0),
  (848, .invokestatic 108, 851, [0, 101, 554, 555, 9, 556], 0, 0),
  (851, .lconst 0, 852, [], 0, 0),
  (852, .lcmp, 853, [], 0, 0),
  (853, .ifCond .ne 7, 856, [860], 0, 0),
  (856, .iconst 1, 857, [], 1, 0),
  (857, .goto 4, 860, [861], 0, 0),
  (860, .iconst 0, 861, [], 0, 0),
  (861, .aload_n 0, 862, [0], 0, 0),
  (862, .bipush 11, 864, [], 11, 0),
  (864, .invokestatic 108, 867, [0, 101, 554, 555, 9, 556], 0, 0),
  (867, .ldc2_w 179, 870, [839], 0, (-99999)),
  (870, .lcmp, 871, [], 0, 0),
  (871, .ifCond .ne 7, 874, [878], 0, 0),
  (874, .iconst 1, 875, [], 1, 0),
  (875, .goto 4, 878, [879], 0, 0),
  (878, .iconst 0, 879, [], 0, 0),
  (879, .if_icmp .ne 61, 882, [940], 0, 0),
  (882, .iload 18, 884, [18], 0, 0),
  (884, .i2l, 885, [], 0, 0),
  (885, .lconst 0, 886, [], 0, 0),
  (886, .ldc2_w 189, 889, [845], 0, 12),
  (889, .invokestatic 185, 892, [0, 98, 842, 843, 9, 844], 0, 0),
  (892, .ifCond .eq 48, 895, [940], 0, 0),
  (895, .aload_n 0, 896, [0], 0, 0),
  (896, .iload 18, 898, [18], 0, 0),
  (898, .iconst 0, 899, [], 0, 0),
  (899, .invokestatic 120, 902, [0, 106, 614, 615, 9, 616], 0, 0)]
def cd126_6 : List (Nat × Row) := [(902, .ldc2_w 179, 905, [839], 0, (-99999)),
  (905, .lcmp, 906, [], 0, 0),
  (906, .ifCond .ne 34, 909, [940], 0, 0),
  (909, .iload 18, 911, [18], 0, 0),
  (911, .ifCond .ne 7, 914, [918], 0, 0),
  (914, .iconst 1, 915, [], 1, 0),
  (915, .goto 4, 918, [919], 0, 0),
  (918, .iconst 0, 919, [], 0, 0),
  (919, .aload_n 0, 920, [0], 0, 0),
  (920, .invokevirtual 191, 923, [86, 846, 847, 848, 10, 849], 0, 0),
  (923, .ldc 194, 925, [854], (-99999), 0),
  (925, .if_icmp .ne 7, 928, [932], 0, 0),
  (928, .iconst 1, 929, [], 1, 0),
  (929, .goto 4, 932, [933], 0, 0),
  (932, .iconst 0, 933, [], 0, 0),
  (933, .if_icmp .ne 7, 936, [940], 0, 0),
  (936, .iconst 1, 937, [], 1, 0),
  (937, .goto 4, 940, [941], 0, 0),
  (940, .iconst 0, 941, [], 0, 0),
  (941, .istore_n 3, 942, [3], 0, 0),
  (942, .iconst 0, 943, [], 0, 0),
  (943, .istore 19, 945, [19], 0, 0),
  (945, .iload 19, 947, [19], 0, 0),
  (947, .iload 18, 949, [18], 0, 0),
  (949, .if_icmp .ge 178, 952, [1127], 0, 0),
  (952, .iload_n 3, 953, [3], 0, 0),
  (953, .ifCond .eq 174, 956, [1127], 0, 0),
  (956, .aload_n 0, 957, [0], 0, 0),
  (957, .iload 19, 959, [19], 0, 0),
  (959, .iconst 0, 960, [], 0, 0),
  (960, .invokestatic 120, 963, [0, 106, 614, 615, 9, 616], 0, 0),
  (963, .l2i, 964, [], 0, 0),
  (964, .istore 20, 966, [20], 0, 0),
  (966, .aload_n 0, 967, [0], 0, 0),
  (967, .iload 19, 969, [19], 0, 0),
  (969, .iconst 1, 970, [], 1, 0),
  (970, .invokestatic 120, 973, [0, 106, 614, 615, 9, 616], 0, 0),
  (973, .l2i, 974, [], 0, 0),
  (974, .istore 21, 976, [21], 0, 0),
  (976, .iload 20, 978, [20], 0, 0),
  (978, .i2l, 979, [], 0, 0),
  (979, .lconst 0, 980, [], 0, 0),
  (980, .ldc2_w 195, 983, [855], 0, 9),
  (983, .invokestatic 185, 986, [0, 98, 842, 843, 9, 844], 0, 0),
  (986, .ifCond .eq 79, 989, [1065], 0, 0),
  (989, .iload 21, 991, [21], 0, 0),
  (991, .i2l, 992, [], 0, 0),
  (992, .lconst 0, 993, [], 0, 0),
  (993, .ldc2_w 195, 996, [855], 0, 9),
  (996, .invokestatic 185, 999, [0, 98, 842, 843, 9, 844], 0, 0),
  (999, .ifCond .eq 66, 1002, [1065], 0, 0),
  (1002, .aload_n 0, 1003, [0], 0, 0),
  (1003, .iload 20, 1005, [20], 0, 0),
  (1005, .iload 21, 1007, [21], 0, 0),
  (1007, .iconst 5, 1008, [], 5, 0),
  (1008, .invokestatic 158, 1011, [0, 119, 762, 763, 9, 764], 0, 0),
  (1011, .aload_n 0, 1012, [0], 0, 0),
  (1012, .iload 19, 1014, [19], 0, 0),
  (1014, .iconst 2, 1015, [], 2, 0),
  (1015, .invokestatic 120, 1018, [0, 106, 614, 615, 9, 616], 0, 0),
  (1018, .ldc2_w 197, 1021, [856], 0, 5),
  (1021, .ladd, 1022, [], 0, 0),
  (1022, .lload 14, 1024, [14], 0, 0),
  (1024, .lsub, 1025, [], 0, 0),
  (1025, .lcmp, 1026, [], 0, 0),
  (1026, .ifCond .ne 39, 1029, [1065], 0, 0),
  (1029, .aload_n 0, 1030, [0], 0, 0),
  (1030, .aload_n 0, 1031, [0], 0, 0),
  (1031, .invokevirtual 191, 1034, [86, 846, 847, 848, 10, 849], 0, 0),
  (1034, .bipush 10, 1036, [], 10, 0),
  (1036, .idiv, 1037, [], 0, 0),
  (1037, .aload_n 0, 1038, [0], 0, 0),
  (1038, .invokevirtual 191, 1041, [86, 846, 847, 848, 10, 849], 0, 0),
  (1041, .bipush 10, 1043, [], 10, 0),
  (1043, .irem, 1044, [], 0, 0),
  (1044, .iconst 5, 1045, [], 5, 0),
  (1045, .invokestatic 158, 1048, [0, 119, 762, 763, 9, 764], 0, 0),
  (1048, .aload_n 0, 1049, [0], 0, 0),
  (1049, .iload 20, 1051, [20], 0, 0),
  (1051, .iload 21, 1053, [21], 0, 0)]
def cd126_7 : List (Nat × Row) := [(1053, .iconst 5, 1054, [], 5, 0),
  (1054, .invokestatic 158, 1057, [0, 119, 762, 763, 9, 764], 0, 0),
  (1057, .lcmp, 1058, [], 0, 0),
  (1058, .ifCond .gt 7, 1061, [1065], 0, 0),
  (1061, .iconst 1, 1062, [], 1, 0),
  (1062, .goto 4, 1065, [1066], 0, 0),
  (1065, .iconst 0, 1066, [], 0, 0),
  (1066, .istore_n 3, 1067, [3], 0, 0),
  (1067, .iconst 0, 1068, [], 0, 0),
  (1068, .istore 22, 1070, [22], 0, 0),
  (1070, .iload 22, 1072, [22], 0, 0),
  (1072, .iload 19, 1074, [19], 0, 0),
  (1074, .if_icmp .ge 47, 1077, [1121], 0, 0),
  (1077, .iload_n 3, 1078, [3], 0, 0),
  (1078, .ifCond .eq 43, 1081, [1121], 0, 0),
  (1081, .aload_n 0, 1082, [0], 0, 0),
  (1082, .iload 22, 1084, [22], 0, 0),
  (1084, .iconst 0, 1085, [], 0, 0),
  (1085, .invokestatic 120, 1088, [0, 106, 614, 615, 9, 616], 0, 0),
  (1088, .iload 20, 1090, [20], 0, 0),
  (1090, .i2l, 1091, [], 0, 0),
  (1091, .lcmp, 1092, [], 0, 0),
  (1092, .ifCond .ne 17, 1095, [1109], 0, 0),
  (1095, .aload_n 0, 1096, [0], 0, 0),
  (1096, .iload 22, 1098, [22], 0, 0),
  (1098, .iconst 1, 1099, [], 1, 0),
  (1099, .invokestatic 120, 1102, [0, 106, 614, 615, 9, 616], 0, 0),
  (1102, .iload 21, 1104, [21], 0, 0),
  (1104, .i2l, 1105, [], 0, 0),
  (1105, .lcmp, 1106, [], 0, 0),
  (1106, .ifCond .eq 7, 1109, [1113], 0, 0),
  (1109, .iconst 1, 1110, [], 1, 0),
  (1110, .goto 4, 1113, [1114], 0, 0),
  (1113, .iconst 0, 1114, [], 0, 0),
  (1114, .istore_n 3, 1115, [3], 0, 0),
  (1115, .iinc 22 1, 1118, [22], 1, 0),
  (1118, .goto (-48), 1121, [1070], 0, 0),
  (1121, .iinc 19 1, 1124, [19], 1, 0),
  (1124, .goto (-179), 1127, [945], 0, 0),
  (1127, .iload_n 3, 1128, [3], 0, 0),
  (1128, .ireturn, 1129, [], 0, 0)]
def cd126 : List (Nat × Row) := cd126_0 ++ (cd126_1 ++ (cd126_2 ++ (cd126_3 ++ (cd126_4 ++ (cd126_5 ++ (cd126_6 ++ (cd126_7)))))))
/-- OdometerRingLaw.follows(LOdometerRing;I)Z -/
def cd127_0 : List (Nat × Row) := [(0, .aload_n 0, 1, [0], 0, 0),
  (1, .invokestatic 131, 4, [0, 124, 549, 550, 9, 551], 0, 0),
  (4, .lstore_n 2, 5, [2], 0, 0),
  (5, .iconst 1, 6, [], 1, 0),
  (6, .iload_n 1, 7, [1], 0, 0),
  (7, .bipush 36, 9, [], 36, 0),
  (9, .irem, 10, [], 0, 0),
  (10, .iadd, 11, [], 0, 0),
  (11, .istore 4, 13, [4], 0, 0),
  (13, .iload_n 1, 14, [1], 0, 0),
  (14, .bipush 36, 16, [], 36, 0),
  (16, .idiv, 17, [], 0, 0),
  (17, .iconst 3, 18, [], 3, 0),
  (18, .irem, 19, [], 0, 0),
  (19, .istore 5, 21, [5], 0, 0),
  (21, .aload_n 0, 22, [0], 0, 0),
  (22, .iconst 3, 23, [], 3, 0),
  (23, .invokestatic 108, 26, [0, 101, 554, 555, 9, 556], 0, 0),
  (26, .lconst 1, 27, [], 0, 1),
  (27, .lcmp, 28, [], 0, 0),
  (28, .ifCond .ne 7, 31, [35], 0, 0),
  (31, .iconst 1, 32, [], 1, 0),
  (32, .goto 4, 35, [36], 0, 0),
  (35, .iconst 0, 36, [], 0, 0),
  (36, .istore 6, 38, [6], 0, 0),
  (38, .aload_n 0, 39, [0], 0, 0),
  (39, .iconst 5, 40, [], 5, 0),
  (40, .invokestatic 108, 43, [0, 101, 554, 555, 9, 556], 0, 0),
  (43, .lstore 7, 45, [7], 0, 0),
  (45, .aload_n 0, 46, [0], 0, 0),
  (46, .iconst 1, 47, [], 1, 0),
  (47, .invokestatic 173, 50, [0, 122, 484, 485, 9, 486], 0, 0),
  (50, .lload 7, 52, [7], 0, 0),
  (52, .lcmp, 53, [], 0, 0),
  (53, .ifCond .ne 27, 56, [80], 0, 0),
  (56, .aload_n 0, 57, [0], 0, 0),
  (57, .iload_n 1, 58, [1], 0, 0),
  (58, .i2l, 59, [], 0, 0),
  (59, .bipush 9, 61, [], 9, 0),
  (61, .invokestatic 170, 64, [0, 121, 809, 810, 9, 811], 0, 0),
  (64, .aload_n 0, 65, [0], 0, 0),
  (65, .iload_n 1, 66, [1], 0, 0),
  (66, .i2l, 67, [], 0, 0),
  (67, .bipush 9, 69, [], 9, 0),
  (69, .invokestatic 170, 72, [0, 121, 809, 810, 9, 811], 0, 0),
  (72, .lcmp, 73, [], 0, 0),
  (73, .ifCond .ne 7, 76, [80], 0, 0),
  (76, .iconst 1, 77, [], 1, 0),
  (77, .goto 4, 80, [81], 0, 0),
  (80, .iconst 0, 81, [], 0, 0),
  (81, .istore 9, 83, [9], 0, 0),
  (83, .iload 6, 85, [6], 0, 0),
  (85, .ifCond .ne 101, 88, [186], 0, 0),
  (88, .iload 9, 90, [9], 0, 0),
  (90, .ifCond .eq 96, 93, [186], 0, 0),
  (93, .aload_n 0, 94, [0], 0, 0),
  (94, .invokestatic 162, 97, [0, 110, 778, 779, 9, 780], 0, 0),
  (97, .lstore 10, 99, [10], 0, 0),
  (99, .lload 10, 101, [10], 0, 0),
  (101, .lconst 0, 102, [], 0, 0),
  (102, .lcmp, 103, [], 0, 0),
  (103, .ifCond .lt 80, 106, [183], 0, 0),
  (106, .lload 10, 108, [10], 0, 0),
  (108, .aload_n 0, 109, [0], 0, 0),
  (109, .iconst 4, 110, [], 4, 0),
  (110, .invokestatic 108, 113, [0, 101, 554, 555, 9, 556], 0, 0),
  (113, .lcmp, 114, [], 0, 0),
  (114, .ifCond .ne 69, 117, [183], 0, 0),
  (117, .lload 10, 119, [10], 0, 0),
  (119, .aload_n 0, 120, [0], 0, 0),
  (120, .bipush 6, 122, [], 6, 0),
  (122, .invokestatic 108, 125, [0, 101, 554, 555, 9, 556], 0, 0),
  (125, .lcmp, 126, [], 0, 0),
  (126, .ifCond .ne 57, 129, [183], 0, 0),
  (129, .lload 10, 131, [10], 0, 0),
  (131, .lload 7, 133, [7], 0, 0),
  (133, .lcmp, 134, [], 0, 0),
  (134, .ifCond .gt 49, 137, [183], 0, 0),
  (137, .lload 10, 139, [10], 0, 0),
  (139, .lconst 0, 140, [], 0, 0)]
def cd127_1 : List (Nat × Row) := [(140, .lcmp, 141, [], 0, 0),
  (141, .ifCond .eq 20, 144, [161], 0, 0),
  (144, .aload_n 0, 145, [0], 0, 0),
  (145, .aload_n 0, 146, [0], 0, 0),
  (146, .bipush 7, 148, [], 7, 0),
  (148, .invokestatic 108, 151, [0, 101, 554, 555, 9, 556], 0, 0),
  (151, .l2i, 152, [], 0, 0),
  (152, .invokestatic 135, 155, [0, 103, 635, 636, 9, 637], 0, 0),
  (155, .lload 10, 157, [10], 0, 0),
  (157, .lcmp, 158, [], 0, 0),
  (158, .ifCond .ne 25, 161, [183], 0, 0),
  (161, .aload_n 0, 162, [0], 0, 0),
  (162, .invokestatic 199, 165, [0, 115, 860, 861, 9, 862], 0, 0),
  (165, .lconst 0, 166, [], 0, 0),
  (166, .lcmp, 167, [], 0, 0),
  (167, .ifCond .lt 16, 170, [183], 0, 0),
  (170, .aload_n 0, 171, [0], 0, 0),
  (171, .invokestatic 131, 174, [0, 124, 549, 550, 9, 551], 0, 0),
  (174, .lload_n 2, 175, [2], 0, 0),
  (175, .lcmp, 176, [], 0, 0),
  (176, .ifCond .ne 7, 179, [183], 0, 0),
  (179, .iconst 1, 180, [], 1, 0),
  (180, .goto 4, 183, [184], 0, 0),
  (183, .iconst 0, 184, [], 0, 0),
  (184, .istore 9, 186, [9], 0, 0),
  (186, .iload 6, 188, [6], 0, 0),
  (188, .ifCond .eq 562, 191, [750], 0, 0),
  (191, .iload 9, 193, [9], 0, 0),
  (193, .ifCond .eq 557, 196, [750], 0, 0),
  (196, .aload_n 0, 197, [0], 0, 0),
  (197, .iconst 4, 198, [], 4, 0),
  (198, .invokestatic 108, 201, [0, 101, 554, 555, 9, 556], 0, 0),
  (201, .lstore 10, 203, [10], 0, 0),
  (203, .aload_n 0, 204, [0], 0, 0),
  (204, .bipush 6, 206, [], 6, 0),
  (206, .invokestatic 108, 209, [0, 101, 554, 555, 9, 556], 0, 0),
  (209, .lstore 12, 211, [12], 0, 0),
  (211, .iconst 1, 212, [], 1, 0),
  (212, .iload_n 1, 213, [1], 0, 0),
  (213, .bipush 7, 215, [], 7, 0),
  (215, .idiv, 216, [], 0, 0),
  (216, .sipush 300, 219, [], 300, 0),
  (219, .irem, 220, [], 0, 0),
  (220, .iadd, 221, [], 0, 0),
  (221, .istore 14, 223, [14], 0, 0),
  (223, .aload_n 0, 224, [0], 0, 0),
  (224, .iload 14, 226, [14], 0, 0),
  (226, .invokestatic 142, 229, [0, 108, 666, 667, 9, 668], 0, 0),
  (229, .lstore 15, 231, [15], 0, 0),
  (231, .lload 15, 233, [15], 0, 0),
  (233, .lconst 1, 234, [], 0, 1),
  (234, .iload 14, 236, [14], 0, 0),
  (236, .i2l, 237, [], 0, 0),
  (237, .invokestatic 185, 240, [0, 98, 842, 843, 9, 844], 0, 0),
  (240, .ifCond .eq 86, 243, [326], 0, 0),
  (243, .aload_n 0, 244, [0], 0, 0),
  (244, .iconst 5, 245, [], 5, 0),
  (245, .invokestatic 108, 248, [0, 101, 554, 555, 9, 556], 0, 0),
  (248, .lload 7, 250, [7], 0, 0),
  (250, .lload 15, 252, [15], 0, 0),
  (252, .ladd, 253, [], 0, 0),
  (253, .lcmp, 254, [], 0, 0),
  (254, .ifCond .ne 72, 257, [326], 0, 0),
  (257, .aload_n 0, 258, [0], 0, 0),
  (258, .iconst 3, 259, [], 3, 0),
  (259, .invokestatic 108, 262, [0, 101, 554, 555, 9, 556], 0, 0),
  (262, .lconst 0, 263, [], 0, 0),
  (263, .lcmp, 264, [], 0, 0),
  (264, .ifCond .ne 17, 267, [281], 0, 0),
  (267, .aload_n 0, 268, [0], 0, 0),
  (268, .bipush 9, 270, [], 9, 0),
  (270, .invokestatic 108, 273, [0, 101, 554, 555, 9, 556], 0, 0),
  (273, .lconst 0, 274, [], 0, 0),
  (274, .lcmp, 275, [], 0, 0),
  (275, .ifCond .le 51, 278, [326], 0, 0),
  (278, .goto 26, 281, [304], 0, 0),
  (281, .lload 15, 283, [15], 0, 0),
  (283, .iload 14, 285, [14], 0, 0),
  (285, .i2l, 286, [], 0, 0),
  (286, .lcmp, 287, [], 0, 0)]
def cd127_2 : List (Nat × Row) := [(287, .ifCond .ne 39, 290, [326], 0, 0),
  (290, .aload_n 0, 291, [0], 0, 0),
  (291, .iconst 4, 292, [], 4, 0),
  (292, .invokestatic 108, 295, [0, 101, 554, 555, 9, 556], 0, 0),
  (295, .lload 10, 297, [10], 0, 0),
  (297, .lload 15, 299, [15], 0, 0),
  (299, .ladd, 300, [], 0, 0),
  (300, .lcmp, 301, [], 0, 0),
  (301, .ifCond .ne 25, 304, [326], 0, 0),
  (304, .aload_n 0, 305, [0], 0, 0),
  (305, .invokestatic 199, 308, [0, 115, 860, 861, 9, 862], 0, 0),
  (308, .lconst 0, 309, [], 0, 0),
  (309, .lcmp, 310, [], 0, 0),
  (310, .ifCond .lt 16, 313, [326], 0, 0),
  (313, .aload_n 0, 314, [0], 0, 0),
  (314, .invokestatic 131, 317, [0, 124, 549, 550, 9, 551], 0, 0),
  (317, .lload_n 2, 318, [2], 0, 0),
  (318, .lcmp, 319, [], 0, 0),
  (319, .ifCond .ne 7, 322, [326], 0, 0),
  (322, .iconst 1, 323, [], 1, 0),
  (323, .goto 4, 326, [327], 0, 0),
  (326, .iconst 0, 327, [], 0, 0),
  (327, .istore 9, 329, [9], 0, 0),
  (329, .aload_n 0, 330, [0], 0, 0),
  (330, .bipush 12, 332, [], 12, 0),
  (332, .invokestatic 108, 335, [0, 101, 554, 555, 9, 556], 0, 0),
  (335, .lconst 0, 336, [], 0, 0),
  (336, .lcmp, 337, [], 0, 0),
  (337, .ifCond .ne 282, 340, [619], 0, 0),
  (340, .iload 9, 342, [9], 0, 0),
  (342, .ifCond .eq 277, 345, [619], 0, 0),
  (345, .aload_n 0, 346, [0], 0, 0),
  (346, .iload 4, 348, [4], 0, 0),
  (348, .iload 5, 350, [5], 0, 0),
  (350, .invokestatic 154, 353, [0, 116, 736, 737, 9, 738], 0, 0),
  (353, .lstore 17, 355, [17], 0, 0),
  (355, .aload_n 0, 356, [0], 0, 0),
  (356, .invokestatic 160, 359, [0, 117, 770, 771, 9, 772], 0, 0),
  (359, .lstore 19, 361, [19], 0, 0),
  (361, .lload 17, 363, [17], 0, 0),
  (363, .lload 12, 365, [12], 0, 0),
  (365, .lcmp, 366, [], 0, 0),
  (366, .ifCond .lt 46, 369, [412], 0, 0),
  (369, .lload 17, 371, [17], 0, 0),
  (371, .lload 10, 373, [10], 0, 0),
  (373, .lcmp, 374, [], 0, 0),
  (374, .ifCond .gt 38, 377, [412], 0, 0),
  (377, .lload 19, 379, [19], 0, 0),
  (379, .lload 10, 381, [10], 0, 0),
  (381, .lload 17, 383, [17], 0, 0),
  (383, .lsub, 384, [], 0, 0),
  (384, .lcmp, 385, [], 0, 0),
  (385, .ifCond .lt 27, 388, [412], 0, 0),
  (388, .lload 19, 390, [19], 0, 0),
  (390, .lload 10, 392, [10], 0, 0),
  (392, .lload 12, 394, [12], 0, 0),
  (394, .lsub, 395, [], 0, 0),
  (395, .lcmp, 396, [], 0, 0),
  (396, .ifCond .gt 16, 399, [412], 0, 0),
  (399, .aload_n 0, 400, [0], 0, 0),
  (400, .invokestatic 131, 403, [0, 124, 549, 550, 9, 551], 0, 0),
  (403, .lload_n 2, 404, [2], 0, 0),
  (404, .lcmp, 405, [], 0, 0),
  (405, .ifCond .ne 7, 408, [412], 0, 0),
  (408, .iconst 1, 409, [], 1, 0),
  (409, .goto 4, 412, [413], 0, 0),
  (412, .iconst 0, 413, [], 0, 0),
  (413, .istore 9, 415, [9], 0, 0),
  (415, .aload_n 0, 416, [0], 0, 0),
  (416, .iconst 1, 417, [], 1, 0),
  (417, .iload_n 1, 418, [1], 0, 0),
  (418, .iconst 5, 419, [], 5, 0),
  (419, .idiv, 420, [], 0, 0),
  (420, .bipush 99, 422, [], 99, 0),
  (422, .irem, 423, [], 0, 0),
  (423, .iadd, 424, [], 0, 0),
  (424, .invokestatic 156, 427, [0, 118, 751, 752, 9, 753], 0, 0),
  (427, .lstore 21, 429, [21], 0, 0),
  (429, .iload 9, 431, [9], 0, 0),
  (431, .ifCond .eq 37, 434, [468], 0, 0)]
def cd127_3 : List (Nat × Row) := [(434, .lload 21, 436, [21], 0, 0),
  (436, .ldc2_w 179, 439, [839], 0, (-99999)),
  (439, .lcmp, 440, [], 0, 0),
  (440, .ifCond .eq 15, 443, [455], 0, 0),
  (443, .lload 21, 445, [21], 0, 0),
  (445, .lconst 1, 446, [], 0, 1),
  (446, .ldc2_w 201, 449, [873], 0, 9999),
  (449, .invokestatic 185, 452, [0, 98, 842, 843, 9, 844], 0, 0),
  (452, .ifCond .eq 16, 455, [468], 0, 0),
  (455, .aload_n 0, 456, [0], 0, 0),
  (456, .invokestatic 131, 459, [0, 124, 549, 550, 9, 551], 0, 0),
  (459, .lload_n 2, 460, [2], 0, 0),
  (460, .lcmp, 461, [], 0, 0),
  (461, .ifCond .ne 7, 464, [468], 0, 0),
  (464, .iconst 1, 465, [], 1, 0),
  (465, .goto 4, 468, [469], 0, 0),
  (468, .iconst 0, 469, [], 0, 0),
  (469, .istore 9, 471, [9], 0, 0),
  (471, .iload 9, 473, [9], 0, 0),
  (473, .ifCond .eq 40, 476, [513], 0, 0),
  (476, .aload_n 0, 477, [0], 0, 0),
  (477, .iload 4, 479, [4], 0, 0),
  (479, .iload 5, 481, [5], 0, 0),
  (481, .invokestatic 144, 484, [0, 109, 683, 684, 9, 685], 0, 0),
  (484, .lconst 0, 485, [], 0, 0),
  (485, .lcmp, 486, [], 0, 0),
  (486, .ifCond .lt 27, 489, [513], 0, 0),
  (489, .aload_n 0, 490, [0], 0, 0),
  (490, .iconst 1, 491, [], 1, 0),
  (491, .invokestatic 150, 494, [0, 113, 715, 716, 9, 717], 0, 0),
  (494, .lconst 1, 495, [], 0, 1),
  (495, .lcmp, 496, [], 0, 0),
  (496, .ifCond .lt 17, 499, [513], 0, 0),
  (499, .aload_n 0, 500, [0], 0, 0),
  (500, .iconst 1, 501, [], 1, 0),
  (501, .invokestatic 142, 504, [0, 108, 666, 667, 9, 668], 0, 0),
  (504, .lconst 1, 505, [], 0, 1),
  (505, .lcmp, 506, [], 0, 0),
  (506, .ifCond .ne 7, 509, [513], 0, 0),
  (509, .iconst 1, 510, [], 1, 0),
  (510, .goto 4, 513, [514], 0, 0),
  (513, .iconst 0, 514, [], 0, 0),
  (514, .istore 9, 516, [9], 0, 0),
  (516, .aload_n 0, 517, [0], 0, 0),
  (517, .iconst 3, 518, [], 3, 0),
  (518, .invokestatic 108, 521, [0, 101, 554, 555, 9, 556], 0, 0),
  (521, .lconst 0, 522, [], 0, 0),
  (522, .lcmp, 523, [], 0, 0),
  (523, .ifCond .ne 48, 526, [571], 0, 0),
  (526, .iload 9, 528, [9], 0, 0),
  (528, .ifCond .eq 43, 531, [571], 0, 0),
  (531, .aload_n 0, 532, [0], 0, 0),
  (532, .invokestatic 162, 535, [0, 110, 778, 779, 9, 780], 0, 0),
  (535, .lstore 23, 537, [23], 0, 0),
  (537, .lload 23, 539, [23], 0, 0),
  (539, .lload 12, 541, [12], 0, 0),
  (541, .lcmp, 542, [], 0, 0),
  (542, .ifCond .lt 26, 545, [568], 0, 0),
  (545, .lload 23, 547, [23], 0, 0),
  (547, .lload 10, 549, [10], 0, 0),
  (549, .lconst 1, 550, [], 0, 1),
  (550, .ladd, 551, [], 0, 0),
  (551, .lcmp, 552, [], 0, 0),
  (552, .ifCond .gt 16, 555, [568], 0, 0),
  (555, .aload_n 0, 556, [0], 0, 0),
  (556, .invokestatic 199, 559, [0, 115, 860, 861, 9, 862], 0, 0),
  (559, .lconst 0, 560, [], 0, 0),
  (560, .lcmp, 561, [], 0, 0),
  (561, .ifCond .lt 7, 564, [568], 0, 0),
  (564, .iconst 1, 565, [], 1, 0),
  (565, .goto 4, 568, [569], 0, 0),
  (568, .iconst 0, 569, [], 0, 0),
  (569, .istore 9, 571, [9], 0, 0),
  (571, .iload 9, 573, [9], 0, 0),
  (573, .ifCond .eq 43, 576, [616], 0, 0),
  (576, .aload_n 0, 577, [0], 0, 0),
  (577, .invokestatic 199, 580, [0, 115, 860, 861, 9, 862], 0, 0),
  (580, .lconst 0, 581, [], 0, 0),
  (581, .lcmp, 582, [], 0, 0),
  (582, .ifCond .lt 34, 585, [616], 0, 0)]
def cd127_4 : List (Nat × Row) := [(585, .aload_n 0, 586, [0], 0, 0),
  (586, .invokestatic 199, 589, [0, 115, 860, 861, 9, 862], 0, 0),
  (589, .lconst 0, 590, [], 0, 0),
  (590, .lcmp, 591, [], 0, 0),
  (591, .ifCond .lt 25, 594, [616], 0, 0),
  (594, .aload_n 0, 595, [0], 0, 0),
  (595, .invokestatic 199, 598, [0, 115, 860, 861, 9, 862], 0, 0),
  (598, .lconst 0, 599, [], 0, 0),
  (599, .lcmp, 600, [], 0, 0),
  (600, .ifCond .lt 16, 603, [616], 0, 0),
  (603, .aload_n 0, 604, [0], 0, 0),
  (604, .invokestatic 131, 607, [0, 124, 549, 550, 9, 551], 0, 0),
  (607, .lload_n 2, 608, [2], 0, 0),
  (608, .lcmp, 609, [], 0, 0),
  (609, .ifCond .ne 7, 612, [616], 0, 0),
  (612, .iconst 1, 613, [], 1, 0),
  (613, .goto 4, 616, [617], 0, 0),
  (616, .iconst 0, 617, [], 0, 0),
  (617, .istore 9, 619, [9], 0, 0),
  (619, .iload_n 1, 620, [1], 0, 0),
  (620, .bipush 11, 622, [], 11, 0),
  (622, .idiv, 623, [], 0, 0),
  (623, .aload_n 0, 624, [0], 0, 0),
  (624, .iconst 0, 625, [], 0, 0),
  (625, .invokestatic 108, 628, [0, 101, 554, 555, 9, 556], 0, 0),
  (628, .l2i, 629, [], 0, 0),
  (629, .irem, 630, [], 0, 0),
  (630, .istore 17, 632, [17], 0, 0),
  (632, .aload_n 0, 633, [0], 0, 0),
  (633, .iload 17, 635, [17], 0, 0),
  (635, .iconst 0, 636, [], 0, 0),
  (636, .iconst 1, 637, [], 1, 0),
  (637, .invokestatic 115, 640, [0, 102, 597, 598, 9, 599], 0, 0),
  (640, .aload_n 0, 641, [0], 0, 0),
  (641, .iload 17, 643, [17], 0, 0),
  (643, .iconst 1, 644, [], 1, 0),
  (644, .iconst 1, 645, [], 1, 0),
  (645, .invokestatic 115, 648, [0, 102, 597, 598, 9, 599], 0, 0),
  (648, .ladd, 649, [], 0, 0),
  (649, .aload_n 0, 650, [0], 0, 0),
  (650, .iload 17, 652, [17], 0, 0),
  (652, .iconst 2, 653, [], 2, 0),
  (653, .iconst 1, 654, [], 1, 0),
  (654, .invokestatic 115, 657, [0, 102, 597, 598, 9, 599], 0, 0),
  (657, .ladd, 658, [], 0, 0),
  (658, .lstore 18, 660, [18], 0, 0),
  (660, .iload 17, 662, [17], 0, 0),
  (662, .i2l, 663, [], 0, 0),
  (663, .aload_n 0, 664, [0], 0, 0),
  (664, .bipush 7, 666, [], 7, 0),
  (666, .invokestatic 108, 669, [0, 101, 554, 555, 9, 556], 0, 0),
  (669, .lcmp, 670, [], 0, 0),
  (670, .ifCond .eq 80, 673, [750], 0, 0),
  (673, .iload 9, 675, [9], 0, 0),
  (675, .ifCond .eq 75, 678, [750], 0, 0),
  (678, .aload_n 0, 679, [0], 0, 0),
  (679, .iload 17, 681, [17], 0, 0),
  (681, .invokestatic 152, 684, [0, 114, 726, 727, 9, 728], 0, 0),
  (684, .lload 18, 686, [18], 0, 0),
  (686, .lcmp, 687, [], 0, 0),
  (687, .ifCond .ne 60, 690, [747], 0, 0),
  (690, .aload_n 0, 691, [0], 0, 0),
  (691, .iload 17, 693, [17], 0, 0),
  (693, .invokestatic 135, 696, [0, 103, 635, 636, 9, 637], 0, 0),
  (696, .lconst 0, 697, [], 0, 0),
  (697, .lcmp, 698, [], 0, 0),
  (698, .ifCond .ne 49, 701, [747], 0, 0),
  (701, .aload_n 0, 702, [0], 0, 0),
  (702, .iload 17, 704, [17], 0, 0),
  (704, .iconst 2, 705, [], 2, 0),
  (705, .iconst 1, 706, [], 1, 0),
  (706, .invokestatic 115, 709, [0, 102, 597, 598, 9, 599], 0, 0),
  (709, .lconst 0, 710, [], 0, 0),
  (710, .lcmp, 711, [], 0, 0),
  (711, .ifCond .ne 36, 714, [747], 0, 0),
  (714, .aload_n 0, 715, [0], 0, 0),
  (715, .iconst 4, 716, [], 4, 0),
  (716, .invokestatic 108, 719, [0, 101, 554, 555, 9, 556], 0, 0),
  (719, .lload 10, 721, [10], 0, 0),
  (721, .lcmp, 722, [], 0, 0)]
def cd127_5 : List (Nat × Row) := [(722, .ifCond .ne 25, 725, [747], 0, 0),
  (725, .aload_n 0, 726, [0], 0, 0),
  (726, .invokestatic 199, 729, [0, 115, 860, 861, 9, 862], 0, 0),
  (729, .lconst 0, 730, [], 0, 0),
  (730, .lcmp, 731, [], 0, 0),
  (731, .ifCond .lt 16, 734, [747], 0, 0),
  (734, .aload_n 0, 735, [0], 0, 0),
  (735, .invokestatic 131, 738, [0, 124, 549, 550, 9, 551], 0, 0),
  (738, .lload_n 2, 739, [2], 0, 0),
  (739, .lcmp, 740, [], 0, 0),
  (740, .ifCond .ne 7, 743, [747], 0, 0),
  (743, .iconst 1, 744, [], 1, 0),
  (744, .goto 4, 747, [748], 0, 0),
  (747, .iconst 0, 748, [], 0, 0),
  (748, .istore 9, 750, [9], 0, 0),
  (750, .iload 9, 752, [9], 0, 0),
  (752, .ifCond .eq 38, 755, [790], 0, 0),
  (755, .aload_n 0, 756, [0], 0, 0),
  (756, .iconst 1, 757, [], 1, 0),
  (757, .invokestatic 175, 760, [0, 123, 530, 531, 9, 532], 0, 0),
  (760, .lload 7, 762, [7], 0, 0),
  (762, .lcmp, 763, [], 0, 0),
  (763, .ifCond .ne 27, 766, [790], 0, 0),
  (766, .aload_n 0, 767, [0], 0, 0),
  (767, .invokestatic 131, 770, [0, 124, 549, 550, 9, 551], 0, 0),
  (770, .lload_n 2, 771, [2], 0, 0),
  (771, .lcmp, 772, [], 0, 0),
  (772, .ifCond .ne 18, 775, [790], 0, 0),
  (775, .aload_n 0, 776, [0], 0, 0),
  (776, .invokestatic 199, 779, [0, 115, 860, 861, 9, 862], 0, 0),
  (779, .ldc2_w 21, 782, [483], 0, (-9000000000000000003)),
  (782, .lcmp, 783, [], 0, 0),
  (783, .ifCond .ne 7, 786, [790], 0, 0),
  (786, .iconst 1, 787, [], 1, 0),
  (787, .goto 4, 790, [791], 0, 0),
  (790, .iconst 0, 791, [], 0, 0),
  (791, .ireturn, 792, [], 0, 0)]
def cd127 : List (Nat × Row) := cd127_0 ++ (cd127_1 ++ (cd127_2 ++ (cd127_3 ++ (cd127_4 ++ (cd127_5)))))
/-- OdometerRingLaw.alike(LOdometerRing;LOdometerRing;I)Z -/
def cd128 : List (Nat × Row) := [(0, .aload_n 0, 1, [0], 0, 0),
  (1, .invokestatic 131, 4, [0, 124, 549, 550, 9, 551], 0, 0),
  (4, .aload_n 1, 5, [1], 0, 0),
  (5, .invokestatic 131, 8, [0, 124, 549, 550, 9, 551], 0, 0),
  (8, .lcmp, 9, [], 0, 0),
  (9, .ifCond .ne 131, 12, [140], 0, 0),
  (12, .aload_n 0, 13, [0], 0, 0),
  (13, .invokevirtual 203, 16, [65, 877, 878, 879, 10, 880], 0, 0),
  (16, .aload_n 1, 17, [1], 0, 0),
  (17, .invokevirtual 203, 20, [65, 877, 878, 879, 10, 880], 0, 0),
  (20, .if_icmp .ne 120, 23, [140], 0, 0),
  (23, .aload_n 0, 24, [0], 0, 0),
  (24, .invokevirtual 191, 27, [86, 846, 847, 848, 10, 849], 0, 0),
  (27, .aload_n 1, 28, [1], 0, 0),
  (28, .invokevirtual 191, 31, [86, 846, 847, 848, 10, 849], 0, 0),
  (31, .if_icmp .ne 109, 34, [140], 0, 0),
  (34, .aload_n 0, 35, [0], 0, 0),
  (35, .invokestatic 160, 38, [0, 117, 770, 771, 9, 772], 0, 0),
  (38, .aload_n 1, 39, [1], 0, 0),
  (39, .invokestatic 160, 42, [0, 117, 770, 771, 9, 772], 0, 0),
  (42, .lcmp, 43, [], 0, 0),
  (43, .ifCond .ne 97, 46, [140], 0, 0),
  (46, .aload_n 0, 47, [0], 0, 0),
  (47, .iconst 1, 48, [], 1, 0),
  (48, .iload_n 2, 49, [2], 0, 0),
  (49, .bipush 36, 51, [], 36, 0),
  (51, .irem, 52, [], 0, 0),
  (52, .iadd, 53, [], 0, 0),
  (53, .iload_n 2, 54, [2], 0, 0),
  (54, .bipush 36, 56, [], 36, 0),
  (56, .idiv, 57, [], 0, 0),
  (57, .iconst 3, 58, [], 3, 0),
  (58, .irem, 59, [], 0, 0),
  (59, .invokestatic 154, 62, [0, 116, 736, 737, 9, 738], 0, 0),
  (62, .aload_n 1, 63, [1], 0, 0),
  (63, .iconst 1, 64, [], 1, 0),
  (64, .iload_n 2, 65, [2], 0, 0),
  (65, .bipush 36, 67, [], 36, 0),
  (67, .irem, 68, [], 0, 0),
  (68, .iadd, 69, [], 0, 0),
  (69, .iload_n 2, 70, [2], 0, 0),
  (70, .bipush 36, 72, [], 36, 0),
  (72, .idiv, 73, [], 0, 0),
  (73, .iconst 3, 74, [], 3, 0),
  (74, .irem, 75, [], 0, 0),
  (75, .invokestatic 154, 78, [0, 116, 736, 737, 9, 738], 0, 0),
  (78, .lcmp, 79, [], 0, 0),
  (79, .ifCond .ne 61, 82, [140], 0, 0),
  (82, .aload_n 0, 83, [0], 0, 0),
  (83, .iload_n 2, 84, [2], 0, 0),
  (84, .i2l, 85, [], 0, 0),
  (85, .bipush 20, 87, [], 20, 0),
  (87, .invokestatic 170, 90, [0, 121, 809, 810, 9, 811], 0, 0),
  (90, .aload_n 1, 91, [1], 0, 0),
  (91, .iload_n 2, 92, [2], 0, 0),
  (92, .i2l, 93, [], 0, 0),
  (93, .bipush 20, 95, [], 20, 0),
  (95, .invokestatic 170, 98, [0, 121, 809, 810, 9, 811], 0, 0),
  (98, .lcmp, 99, [], 0, 0),
  (99, .ifCond .ne 41, 102, [140], 0, 0),
  (102, .aload_n 0, 103, [0], 0, 0),
  (103, .iconst 3, 104, [], 3, 0),
  (104, .ldc2_w 206, 107, [881], 0, 202110003000),
  (107, .iload_n 2, 108, [2], 0, 0),
  (108, .sipush 900, 111, [], 900, 0),
  (111, .irem, 112, [], 0, 0),
  (112, .i2l, 113, [], 0, 0),
  (113, .ladd, 114, [], 0, 0),
  (114, .invokestatic 164, 117, [0, 120, 786, 787, 9, 788], 0, 0),
  (117, .aload_n 1, 118, [1], 0, 0),
  (118, .iconst 3, 119, [], 3, 0),
  (119, .ldc2_w 206, 122, [881], 0, 202110003000),
  (122, .iload_n 2, 123, [2], 0, 0),
  (123, .sipush 900, 126, [], 900, 0),
  (126, .irem, 127, [], 0, 0),
  (127, .i2l, 128, [], 0, 0),
  (128, .ladd, 129, [], 0, 0),
  (129, .invokestatic 164, 132, [0, 120, 786, 787, 9, 788], 0, 0),
  (132, .lcmp, 133, [], 0, 0),
  (133, .ifCond .ne 7, 136, [140], 0, 0),
  (136, .iconst 1, 137, [], 1, 0),
  (137, .goto 4, 140, [141], 0, 0),
  (140, .iconst 0, 141, [], 0, 0),
  (141, .ireturn, 142, [], 0, 0)]
/-- OdometerRingLaw.types(LOdometerRing;II)Z -/
def cd129 : List (Nat × Row) := [(0, .iconst 1, 1, [], 1, 0),
  (1, .istore_n 3, 2, [3], 0, 0),
  (2, .iload_n 2, 3, [2], 0, 0),
  (3, .iconst 3, 4, [], 3, 0),
  (4, .if_icmp .ne 8, 7, [12], 0, 0),
  (7, .bipush 100, 9, [], 100, 0),
  (9, .goto 14, 12, [23], 0, 0),
  (12, .iload_n 2, 13, [2], 0, 0),
  (13, .iconst 2, 14, [], 2, 0),
  (14, .if_icmp .ne 8, 17, [22], 0, 0),
  (17, .bipush 10, 19, [], 10, 0),
  (19, .goto 4, 22, [23], 0, 0),
  (22, .iconst 1, 23, [], 1, 0),
  (23, .istore 4, 25, [4], 0, 0),
  (25, .iload 4, 27, [4], 0, 0),
  (27, .ifCond .le 42, 30, [69], 0, 0),
  (30, .iload_n 3, 31, [3], 0, 0),
  (31, .ifCond .eq 38, 34, [69], 0, 0),
  (34, .aload_n 0, 35, [0], 0, 0),
  (35, .bipush 48, 37, [], 48, 0),
  (37, .iload_n 1, 38, [1], 0, 0),
  (38, .iload 4, 40, [4], 0, 0),
  (40, .idiv, 41, [], 0, 0),
  (41, .bipush 10, 43, [], 10, 0),
  (43, .irem, 44, [], 0, 0),
  (44, .iadd, 45, [], 0, 0),
  (45, .invokestatic 177, 48, [0, 99, 823, 824, 9, 825], 0, 0),
  (48, .lconst 0, 49, [], 0, 0),
  (49, .lcmp, 50, [], 0, 0),
  (50, .ifCond .le 7, 53, [57], 0, 0),
  (53, .iconst 1, 54, [], 1, 0),
  (54, .goto 4, 57, [58], 0, 0),
  (57, .iconst 0, 58, [], 0, 0),
  (58, .istore_n 3, 59, [3], 0, 0),
  (59, .iload 4, 61, [4], 0, 0),
  (61, .bipush 10, 63, [], 10, 0),
  (63, .idiv, 64, [], 0, 0),
  (64, .istore 4, 66, [4], 0, 0),
  (66, .goto (-41), 69, [25], 0, 0),
  (69, .iload_n 3, 70, [3], 0, 0),
  (70, .ireturn, 71, [], 0, 0)]
/-- OdometerRingLaw.tells(LOdometerRing;II)Z -/
def cd130_0 : List (Nat × Row) := [(0, .aload_n 0, 1, [0], 0, 0),
  (1, .invokevirtual 208, 4, [64, 885, 886, 887, 10, 888], 0, 0),
  (4, .ifCond .lt 78, 7, [82], 0, 0),
  (7, .aload_n 0, 8, [0], 0, 0),
  (8, .bipush 79, 10, [], 79, 0),
  (10, .invokestatic 177, 13, [0, 99, 823, 824, 9, 825], 0, 0),
  (13, .lconst 1, 14, [], 0, 1),
  (14, .lcmp, 15, [], 0, 0),
  (15, .ifCond .ne 67, 18, [82], 0, 0),
  (18, .aload_n 0, 19, [0], 0, 0),
  (19, .iconst 3, 20, [], 3, 0),
  (20, .iload_n 1, 21, [1], 0, 0),
  (21, .bipush 10, 23, [], 10, 0),
  (23, .irem, 24, [], 0, 0),
  (24, .iadd, 25, [], 0, 0),
  (25, .iconst 2, 26, [], 2, 0),
  (26, .invokestatic 211, 29, [0, 129, 893, 894, 9, 895], 0, 0),
  (29, .ifCond .eq 53, 32, [82], 0, 0),
  (32, .aload_n 0, 33, [0], 0, 0),
  (33, .iconst 1, 34, [], 1, 0),
  (34, .iload_n 1, 35, [1], 0, 0),
  (35, .bipush 10, 37, [], 10, 0),
  (37, .idiv, 38, [], 0, 0),
  (38, .bipush 99, 40, [], 99, 0),
  (40, .irem, 41, [], 0, 0),
  (41, .iadd, 42, [], 0, 0),
  (42, .iconst 2, 43, [], 2, 0),
  (43, .invokestatic 211, 46, [0, 129, 893, 894, 9, 895], 0, 0),
  (46, .ifCond .eq 36, 49, [82], 0, 0),
  (49, .aload_n 0, 50, [0], 0, 0),
  (50, .iload_n 1, 51, [1], 0, 0),
  (51, .iconst 3, 52, [], 3, 0),
  (52, .irem, 53, [], 0, 0),
  (53, .ifCond .ne 8, 56, [61], 0, 0),
  (56, .bipush 10, 58, [], 10, 0),
  (58, .goto 13, 61, [71], 0, 0),
  (61, .bipush 10, 63, [], 10, 0),
  (63, .iload_n 1, 64, [1], 0, 0),
  (64, .bipush 6, 66, [], 6, 0),
  (66, .idiv, 67, [], 0, 0),
  (67, .bipush 90, 69, [], 90, 0),
  (69, .irem, 70, [], 0, 0),
  (70, .iadd, 71, [], 0, 0),
  (71, .iconst 3, 72, [], 3, 0),
  (72, .invokestatic 211, 75, [0, 129, 893, 894, 9, 895], 0, 0),
  (75, .ifCond .eq 7, 78, [82], 0, 0),
  (78, .iconst 1, 79, [], 1, 0),
  (79, .goto 4, 82, [83], 0, 0),
  (82, .iconst 0, 83, [], 0, 0),
  (83, .istore_n 3, 84, [3], 0, 0),
  (84, .iconst 0, 85, [], 0, 0),
  (85, .istore 4, 87, [4], 0, 0),
  (87, .iload 4, 89, [4], 0, 0),
  (89, .iload_n 2, 90, [2], 0, 0),
  (90, .bipush 14, 92, [], 14, 0),
  (92, .irem, 93, [], 0, 0),
  (93, .if_icmp .ge 249, 96, [342], 0, 0),
  (96, .iload_n 3, 97, [3], 0, 0),
  (97, .ifCond .eq 245, 100, [342], 0, 0),
  (100, .iload_n 1, 101, [1], 0, 0),
  (101, .iload 4, 103, [4], 0, 0),
  (103, .ishr, 104, [], 0, 0),
  (104, .ldc 215, 106, [896], 65535, 0),
  (106, .iand, 107, [], 0, 0),
  (107, .istore 5, 109, [5], 0, 0),
  (109, .iload 5, 111, [5], 0, 0),
  (111, .bipush 6, 113, [], 6, 0),
  (113, .irem, 114, [], 0, 0),
  (114, .iconst 2, 115, [], 2, 0),
  (115, .if_icmp .ge 41, 118, [156], 0, 0),
  (118, .aload_n 0, 119, [0], 0, 0),
  (119, .bipush 100, 121, [], 100, 0),
  (121, .invokestatic 177, 124, [0, 99, 823, 824, 9, 825], 0, 0),
  (124, .lconst 0, 125, [], 0, 0),
  (125, .lcmp, 126, [], 0, 0),
  (126, .ifCond .le 26, 129, [152], 0, 0),
  (129, .aload_n 0, 130, [0], 0, 0),
  (130, .iconst 1, 131, [], 1, 0),
  (131, .iload 5, 133, [5], 0, 0),
  (133, .bipush 6, 135, [], 6, 0)]
def cd130_1 : List (Nat × Row) := [(135, .idiv, 136, [], 0, 0),
  (136, .sipush 999, 139, [], 999, 0),
  (139, .irem, 140, [], 0, 0),
  (140, .iadd, 141, [], 0, 0),
  (141, .iconst 3, 142, [], 3, 0),
  (142, .invokestatic 211, 145, [0, 129, 893, 894, 9, 895], 0, 0),
  (145, .ifCond .eq 7, 148, [152], 0, 0),
  (148, .iconst 1, 149, [], 1, 0),
  (149, .goto 186, 152, [335], 0, 0),
  (152, .iconst 0, 153, [], 0, 0),
  (153, .goto 182, 156, [335], 0, 0),
  (156, .iload 5, 158, [5], 0, 0),
  (158, .bipush 6, 160, [], 6, 0),
  (160, .irem, 161, [], 0, 0),
  (161, .iconst 2, 162, [], 2, 0),
  (162, .if_icmp .ne 56, 165, [218], 0, 0),
  (165, .aload_n 0, 166, [0], 0, 0),
  (166, .bipush 99, 168, [], 99, 0),
  (168, .invokestatic 177, 171, [0, 99, 823, 824, 9, 825], 0, 0),
  (171, .lconst 0, 172, [], 0, 0),
  (172, .lcmp, 173, [], 0, 0),
  (173, .ifCond .le 41, 176, [214], 0, 0),
  (176, .aload_n 0, 177, [0], 0, 0),
  (177, .iconst 1, 178, [], 1, 0),
  (178, .iload 5, 180, [5], 0, 0),
  (180, .bipush 6, 182, [], 6, 0),
  (182, .idiv, 183, [], 0, 0),
  (183, .bipush 36, 185, [], 36, 0),
  (185, .irem, 186, [], 0, 0),
  (186, .iadd, 187, [], 0, 0),
  (187, .iconst 2, 188, [], 2, 0),
  (188, .invokestatic 211, 191, [0, 129, 893, 894, 9, 895], 0, 0),
  (191, .ifCond .eq 23, 194, [214], 0, 0),
  (194, .aload_n 0, 195, [0], 0, 0),
  (195, .iload 5, 197, [5], 0, 0),
  (197, .sipush 216, 200, [], 216, 0),
  (200, .idiv, 201, [], 0, 0),
  (201, .iconst 3, 202, [], 3, 0),
  (202, .irem, 203, [], 0, 0),
  (203, .iconst 1, 204, [], 1, 0),
  (204, .invokestatic 211, 207, [0, 129, 893, 894, 9, 895], 0, 0),
  (207, .ifCond .eq 7, 210, [214], 0, 0),
  (210, .iconst 1, 211, [], 1, 0),
  (211, .goto 124, 214, [335], 0, 0),
  (214, .iconst 0, 215, [], 0, 0),
  (215, .goto 120, 218, [335], 0, 0),
  (218, .iload 5, 220, [5], 0, 0),
  (220, .bipush 6, 222, [], 6, 0),
  (222, .irem, 223, [], 0, 0),
  (223, .iconst 3, 224, [], 3, 0),
  (224, .if_icmp .ne 22, 227, [246], 0, 0),
  (227, .aload_n 0, 228, [0], 0, 0),
  (228, .bipush 115, 230, [], 115, 0),
  (230, .invokestatic 177, 233, [0, 99, 823, 824, 9, 825], 0, 0),
  (233, .lconst 0, 234, [], 0, 0),
  (234, .lcmp, 235, [], 0, 0),
  (235, .ifCond .le 7, 238, [242], 0, 0),
  (238, .iconst 1, 239, [], 1, 0),
  (239, .goto 96, 242, [335], 0, 0),
  (242, .iconst 0, 243, [], 0, 0),
  (243, .goto 92, 246, [335], 0, 0),
  (246, .iload 5, 248, [5], 0, 0),
  (248, .bipush 6, 250, [], 6, 0),
  (250, .irem, 251, [], 0, 0),
  (251, .iconst 4, 252, [], 4, 0),
  (252, .if_icmp .ne 52, 255, [304], 0, 0),
  (255, .aload_n 0, 256, [0], 0, 0),
  (256, .bipush 109, 258, [], 109, 0),
  (258, .invokestatic 177, 261, [0, 99, 823, 824, 9, 825], 0, 0),
  (261, .lconst 0, 262, [], 0, 0),
  (262, .lcmp, 263, [], 0, 0),
  (263, .ifCond .le 37, 266, [300], 0, 0),
  (266, .aload_n 0, 267, [0], 0, 0),
  (267, .iload 5, 269, [5], 0, 0),
  (269, .bipush 6, 271, [], 6, 0),
  (271, .idiv, 272, [], 0, 0),
  (272, .iconst 3, 273, [], 3, 0),
  (273, .irem, 274, [], 0, 0),
  (274, .iconst 1, 275, [], 1, 0),
  (275, .invokestatic 211, 278, [0, 129, 893, 894, 9, 895], 0, 0)]
def cd130_2 : List (Nat × Row) := [(278, .ifCond .eq 22, 281, [300], 0, 0),
  (281, .aload_n 0, 282, [0], 0, 0),
  (282, .iload 5, 284, [5], 0, 0),
  (284, .bipush 18, 286, [], 18, 0),
  (286, .idiv, 287, [], 0, 0),
  (287, .iconst 3, 288, [], 3, 0),
  (288, .irem, 289, [], 0, 0),
  (289, .iconst 1, 290, [], 1, 0),
  (290, .invokestatic 211, 293, [0, 129, 893, 894, 9, 895], 0, 0),
  (293, .ifCond .eq 7, 296, [300], 0, 0),
  (296, .iconst 1, 297, [], 1, 0),
  (297, .goto 38, 300, [335], 0, 0),
  (300, .iconst 0, 301, [], 0, 0),
  (301, .goto 34, 304, [335], 0, 0),
  (304, .aload_n 0, 305, [0], 0, 0),
  (305, .bipush 114, 307, [], 114, 0),
  (307, .invokestatic 177, 310, [0, 99, 823, 824, 9, 825], 0, 0),
  (310, .lconst 0, 311, [], 0, 0),
  (311, .lcmp, 312, [], 0, 0),
  (312, .ifCond .le 22, 315, [334], 0, 0),
  (315, .aload_n 0, 316, [0], 0, 0),
  (316, .iload 5, 318, [5], 0, 0),
  (318, .bipush 6, 320, [], 6, 0),
  (320, .idiv, 321, [], 0, 0),
  (321, .iconst 3, 322, [], 3, 0),
  (322, .irem, 323, [], 0, 0),
  (323, .iconst 2, 324, [], 2, 0),
  (324, .invokestatic 211, 327, [0, 129, 893, 894, 9, 895], 0, 0),
  (327, .ifCond .eq 7, 330, [334], 0, 0),
  (330, .iconst 1, 331, [], 1, 0),
  (331, .goto 4, 334, [335], 0, 0),
  (334, .iconst 0, 335, [], 0, 0),
  (335, .istore_n 3, 336, [3], 0, 0),
  (336, .iinc 4 1, 339, [4], 1, 0),
  (339, .goto (-252), 342, [87], 0, 0),
  (342, .iload_n 3, 343, [3], 0, 0),
  (343, .ifCond .eq 16, 346, [359], 0, 0),
  (346, .aload_n 0, 347, [0], 0, 0),
  (347, .invokevirtual 203, 350, [65, 877, 878, 879, 10, 880], 0, 0),
  (350, .ldc 194, 352, [854], (-99999), 0),
  (352, .if_icmp .ne 7, 355, [359], 0, 0),
  (355, .iconst 1, 356, [], 1, 0),
  (356, .goto 4, 359, [360], 0, 0),
  (359, .iconst 0, 360, [], 0, 0),
  (360, .ireturn, 361, [], 0, 0)]
def cd130 : List (Nat × Row) := cd130_0 ++ (cd130_1 ++ (cd130_2))
/-- OdometerRingLaw.act(LOdometerRing;II)J -/
def cd131 : List (Nat × Row) := [(0, .iload_n 1, 1, [1], 0, 0),
  (1, .bipush 18, 3, [], 18, 0),
  (3, .irem, 4, [], 0, 0),
  (4, .tableswitch 169 0 12 #[68, 68, 68, 85, 85, 85, 90, 90, 103, 116, 127, 136, 141], 72, [173, 0, 72, 1, 72, 2, 72, 3, 89, 4, 89, 5, 89, 6, 94, 7, 94, 8, 107, 9, 120, 10, 131, 11, 140, 12, 145], 0, 0),
  (72, .aload_n 0, 73, [0], 0, 0),
  (73, .iconst 1, 74, [], 1, 0),
  (74, .iload_n 2, 75, [2], 0, 0),
  (75, .bipush 36, 77, [], 36, 0),
  (77, .irem, 78, [], 0, 0),
  (78, .iadd, 79, [], 0, 0),
  (79, .iload_n 2, 80, [2], 0, 0),
  (80, .bipush 36, 82, [], 36, 0),
  (82, .idiv, 83, [], 0, 0),
  (83, .iconst 3, 84, [], 3, 0),
  (84, .irem, 85, [], 0, 0),
  (85, .invokestatic 144, 88, [0, 109, 683, 684, 9, 685], 0, 0),
  (88, .lreturn, 89, [], 0, 0),
  (89, .aload_n 0, 90, [0], 0, 0),
  (90, .invokestatic 162, 93, [0, 110, 778, 779, 9, 780], 0, 0),
  (93, .lreturn, 94, [], 0, 0),
  (94, .aload_n 0, 95, [0], 0, 0),
  (95, .iload_n 2, 96, [2], 0, 0),
  (96, .iconst 4, 97, [], 4, 0),
  (97, .irem, 98, [], 0, 0),
  (98, .iload_n 2, 99, [2], 0, 0),
  (99, .iconst 4, 100, [], 4, 0),
  (100, .idiv, 101, [], 0, 0),
  (101, .iconst 5, 102, [], 5, 0),
  (102, .irem, 103, [], 0, 0),
  (103, .invokestatic 146, 106, [0, 111, 693, 694, 9, 695], 0, 0),
  (106, .lreturn, 107, [], 0, 0),
  (107, .aload_n 0, 108, [0], 0, 0),
  (108, .iload_n 2, 109, [2], 0, 0),
  (109, .iconst 4, 110, [], 4, 0),
  (110, .irem, 111, [], 0, 0),
  (111, .iload_n 2, 112, [2], 0, 0),
  (112, .iconst 4, 113, [], 4, 0),
  (113, .idiv, 114, [], 0, 0),
  (114, .iconst 5, 115, [], 5, 0),
  (115, .irem, 116, [], 0, 0),
  (116, .invokestatic 148, 119, [0, 112, 705, 706, 9, 707], 0, 0),
  (119, .lreturn, 120, [], 0, 0),
  (120, .aload_n 0, 121, [0], 0, 0),
  (121, .iconst 1, 122, [], 1, 0),
  (122, .iload_n 2, 123, [2], 0, 0),
  (123, .bipush 99, 125, [], 99, 0),
  (125, .irem, 126, [], 0, 0),
  (126, .iadd, 127, [], 0, 0),
  (127, .invokestatic 150, 130, [0, 113, 715, 716, 9, 717], 0, 0),
  (130, .lreturn, 131, [], 0, 0),
  (131, .aload_n 0, 132, [0], 0, 0),
  (132, .iload_n 2, 133, [2], 0, 0),
  (133, .bipush 12, 135, [], 12, 0),
  (135, .irem, 136, [], 0, 0),
  (136, .invokestatic 152, 139, [0, 114, 726, 727, 9, 728], 0, 0),
  (139, .lreturn, 140, [], 0, 0),
  (140, .aload_n 0, 141, [0], 0, 0),
  (141, .invokestatic 199, 144, [0, 115, 860, 861, 9, 862], 0, 0),
  (144, .lreturn, 145, [], 0, 0),
  (145, .iload_n 2, 146, [2], 0, 0),
  (146, .iconst 2, 147, [], 2, 0),
  (147, .irem, 148, [], 0, 0),
  (148, .ifCond .ne 15, 151, [163], 0, 0),
  (151, .aload_n 0, 152, [0], 0, 0),
  (152, .iload_n 2, 153, [2], 0, 0),
  (153, .iconst 2, 154, [], 2, 0),
  (154, .idiv, 155, [], 0, 0),
  (155, .iconst 1, 156, [], 1, 0),
  (156, .iand, 157, [], 0, 0),
  (157, .invokestatic 173, 160, [0, 122, 484, 485, 9, 486], 0, 0),
  (160, .goto 12, 163, [172], 0, 0),
  (163, .aload_n 0, 164, [0], 0, 0),
  (164, .iload_n 2, 165, [2], 0, 0),
  (165, .iconst 2, 166, [], 2, 0),
  (166, .idiv, 167, [], 0, 0),
  (167, .iconst 1, 168, [], 1, 0),
  (168, .iand, 169, [], 0, 0),
  (169, .invokestatic 175, 172, [0, 123, 530, 531, 9, 532], 0, 0),
  (172, .lreturn, 173, [], 0, 0),
  (173, .aload_n 0, 174, [0], 0, 0),
  (174, .iload_n 2, 175, [2], 0, 0),
  (175, .iconst 3, 176, [], 3, 0),
  (176, .irem, 177, [], 0, 0),
  (177, .ifCond .ne 15, 180, [192], 0, 0),
  (180, .iconst 1, 181, [], 1, 0),
  (181, .iload_n 2, 182, [2], 0, 0),
  (182, .iconst 3, 183, [], 3, 0),
  (183, .idiv, 184, [], 0, 0),
  (184, .sipush 999, 187, [], 999, 0),
  (187, .irem, 188, [], 0, 0),
  (188, .iadd, 189, [], 0, 0),
  (189, .goto 11, 192, [200], 0, 0),
  (192, .iconst 1, 193, [], 1, 0),
  (193, .iload_n 2, 194, [2], 0, 0),
  (194, .iconst 3, 195, [], 3, 0),
  (195, .idiv, 196, [], 0, 0),
  (196, .bipush 80, 198, [], 80, 0),
  (198, .irem, 199, [], 0, 0),
  (199, .iadd, 200, [], 0, 0),
  (200, .invokestatic 142, 203, [0, 108, 666, 667, 9, 668], 0, 0),
  (203, .lreturn, 204, [], 0, 0)]
/-- OdometerRingLaw.law([I)Z -/
def cd132 : List (Nat × Row) := [(0, .new 10, 3, [0, 6, 25, 26, 10], 0, 0),
  (3, .dup, 4, [], 0, 0),
  (4, .invokespecial 216, 7, [1, 62, 28, 10, 29, 27], 0, 0),
  (7, .astore_n 1, 8, [1], 0, 0),
  (8, .new 10, 11, [0, 6, 25, 26, 10], 0, 0),
  (11, .dup, 12, [], 0, 0),
  (12, .invokespecial 216, 15, [1, 62, 28, 10, 29, 27], 0, 0),
  (15, .astore_n 2, 16, [2], 0, 0),
  (16, .aload_n 1, 17, [1], 0, 0),
  (17, .aload_n 2, 18, [2], 0, 0),
  (18, .aload_n 0, 19, [0], 0, 0),
  (19, .iconst 0, 20, [], 0, 0),
  (20, .invokestatic 217, 23, [5, 97, 256, 257, 9, 258], 0, 0),
  (23, .invokestatic 221, 26, [0, 128, 874, 875, 9, 876], 0, 0),
  (26, .ifCond .eq 21, 29, [47], 0, 0),
  (29, .aload_n 1, 30, [1], 0, 0),
  (30, .invokestatic 225, 33, [0, 125, 546, 547, 9, 548], 0, 0),
  (33, .ifCond .eq 14, 36, [47], 0, 0),
  (36, .aload_n 1, 37, [1], 0, 0),
  (37, .invokestatic 229, 40, [0, 126, 836, 837, 9, 838], 0, 0),
  (40, .ifCond .eq 7, 43, [47], 0, 0),
  (43, .iconst 1, 44, [], 1, 0),
  (44, .goto 4, 47, [48], 0, 0),
  (47, .iconst 0, 48, [], 0, 0),
  (48, .istore_n 3, 49, [3], 0, 0),
  (49, .iconst 0, 50, [], 0, 0),
  (50, .istore 4, 52, [4], 0, 0),
  (52, .iload 4, 54, [4], 0, 0),
  (54, .bipush 54, 56, [], 54, 0),
  (56, .if_icmp .ge 220, 59, [276], 0, 0),
  (59, .iload_n 3, 60, [3], 0, 0),
  (60, .ifCond .eq 216, 63, [276], 0, 0),
  (63, .aload_n 0, 64, [0], 0, 0),
  (64, .iconst 2, 65, [], 2, 0),
  (65, .iload 4, 67, [4], 0, 0),
  (67, .imul, 68, [], 0, 0),
  (68, .invokestatic 217, 71, [5, 97, 256, 257, 9, 258], 0, 0),
  (71, .istore 5, 73, [5], 0, 0),
  (73, .aload_n 0, 74, [0], 0, 0),
  (74, .iconst 2, 75, [], 2, 0),
  (75, .iload 4, 77, [4], 0, 0),
  (77, .imul, 78, [], 0, 0),
  (78, .iconst 1, 79, [], 1, 0),
  (79, .iadd, 80, [], 0, 0),
  (80, .invokestatic 217, 83, [5, 97, 256, 257, 9, 258], 0, 0),
  (83, .istore 6, 85, [6], 0, 0),
  (85, .iload 4, 87, [4], 0, 0),
  (87, .bipush 27, 89, [], 27, 0),
  (89, .irem, 90, [], 0, 0),
  (90, .ifCond .ne 46, 93, [136], 0, 0),
  (93, .aload_n 1, 94, [1], 0, 0),
  (94, .iload 5, 96, [5], 0, 0),
  (96, .iload 6, 98, [6], 0, 0),
  (98, .invokestatic 232, 101, [0, 130, 882, 883, 9, 884], 0, 0),
  (101, .ifCond .eq 30, 104, [131], 0, 0),
  (104, .aload_n 2, 105, [2], 0, 0),
  (105, .iload 5, 107, [5], 0, 0),
  (107, .iload 6, 109, [6], 0, 0),
  (109, .invokestatic 232, 112, [0, 130, 882, 883, 9, 884], 0, 0),
  (112, .ifCond .eq 19, 115, [131], 0, 0),
  (115, .aload_n 1, 116, [1], 0, 0),
  (116, .invokestatic 235, 119, [0, 100, 261, 262, 9, 263], 0, 0),
  (119, .aload_n 2, 120, [2], 0, 0),
  (120, .invokestatic 235, 123, [0, 100, 261, 262, 9, 263], 0, 0),
  (123, .lcmp, 124, [], 0, 0),
  (124, .ifCond .ne 7, 127, [131], 0, 0),
  (127, .iconst 1, 128, [], 1, 0),
  (128, .goto 4, 131, [132], 0, 0),
  (131, .iconst 0, 132, [], 0, 0),
  (132, .istore_n 3, 133, [3], 0, 0),
  (133, .goto 137, 136, [270], 0, 0),
  (136, .aload_n 1, 137, [1], 0, 0),
  (137, .iload 5, 139, [5], 0, 0),
  (139, .iload 6, 141, [6], 0, 0),
  (141, .invokestatic 237, 144, [0, 131, 897, 898, 9, 899], 0, 0),
  (144, .aload_n 2, 145, [2], 0, 0),
  (145, .iload 5, 147, [5], 0, 0),
  (147, .iload 6, 149, [6], 0, 0),
  (149, .invokestatic 237, 152, [0, 131, 897, 898, 9, 899], 0, 0),
  (152, .lcmp, 153, [], 0, 0),
  (153, .ifCond .ne 7, 156, [160], 0, 0),
  (156, .iconst 1, 157, [], 1, 0),
  (157, .goto 4, 160, [161], 0, 0),
  (160, .iconst 0, 161, [], 0, 0),
  (161, .istore_n 3, 162, [3], 0, 0),
  (162, .iload 4, 164, [4], 0, 0),
  (164, .iconst 5, 165, [], 5, 0),
  (165, .irem, 166, [], 0, 0),
  (166, .ifCond .ne 27, 169, [193], 0, 0),
  (169, .iload_n 3, 170, [3], 0, 0),
  (170, .ifCond .eq 21, 173, [191], 0, 0),
  (173, .aload_n 2, 174, [2], 0, 0),
  (174, .invokestatic 225, 177, [0, 125, 546, 547, 9, 548], 0, 0),
  (177, .ifCond .eq 14, 180, [191], 0, 0),
  (180, .aload_n 2, 181, [2], 0, 0),
  (181, .invokestatic 229, 184, [0, 126, 836, 837, 9, 838], 0, 0),
  (184, .ifCond .eq 7, 187, [191], 0, 0),
  (187, .iconst 1, 188, [], 1, 0),
  (188, .goto 4, 191, [192], 0, 0),
  (191, .iconst 0, 192, [], 0, 0),
  (192, .istore_n 3, 193, [3], 0, 0),
  (193, .iload 4, 195, [4], 0, 0),
  (195, .bipush 9, 197, [], 9, 0),
  (197, .irem, 198, [], 0, 0),
  (198, .bipush 8, 200, [], 8, 0),
  (200, .if_icmp .ne 42, 203, [242], 0, 0),
  (203, .iload_n 3, 204, [3], 0, 0),
  (204, .ifCond .eq 36, 207, [240], 0, 0),
  (207, .aload_n 2, 208, [2], 0, 0),
  (208, .iload 6, 210, [6], 0, 0),
  (210, .invokestatic 240, 213, [0, 127, 857, 858, 9, 859], 0, 0),
  (213, .ifCond .eq 27, 216, [240], 0, 0),
  (216, .aload_n 1, 217, [1], 0, 0),
  (217, .iconst 1, 218, [], 1, 0),
  (218, .invokestatic 173, 221, [0, 122, 484, 485, 9, 486], 0, 0),
  (221, .lconst 0, 222, [], 0, 0),
  (222, .lcmp, 223, [], 0, 0),
  (223, .ifCond .lt 17, 226, [240], 0, 0),
  (226, .aload_n 1, 227, [1], 0, 0),
  (227, .iconst 1, 228, [], 1, 0),
  (228, .invokestatic 175, 231, [0, 123, 530, 531, 9, 532], 0, 0),
  (231, .lconst 0, 232, [], 0, 0),
  (232, .lcmp, 233, [], 0, 0),
  (233, .ifCond .lt 7, 236, [240], 0, 0),
  (236, .iconst 1, 237, [], 1, 0),
  (237, .goto 4, 240, [241], 0, 0),
  (240, .iconst 0, 241, [], 0, 0),
  (241, .istore_n 3, 242, [3], 0, 0),
  (242, .iload_n 3, 243, [3], 0, 0),
  (243, .ifCond .eq 25, 246, [268], 0, 0),
  (246, .iload 4, 248, [4], 0, 0),
  (248, .bipush 6, 250, [], 6, 0),
  (250, .irem, 251, [], 0, 0),
  (251, .ifCond .gt 13, 254, [264], 0, 0),
  (254, .aload_n 1, 255, [1], 0, 0),
  (255, .aload_n 2, 256, [2], 0, 0),
  (256, .iload 6, 258, [6], 0, 0),
  (258, .invokestatic 221, 261, [0, 128, 874, 875, 9, 876], 0, 0),
  (261, .ifCond .eq 7, 264, [268], 0, 0),
  (264, .iconst 1, 265, [], 1, 0),
  (265, .goto 4, 268, [269], 0, 0),
  (268, .iconst 0, 269, [], 0, 0),
  (269, .istore_n 3, 270, [3], 0, 0),
  (270, .iinc 4 1, 273, [4], 1, 0),
  (273, .goto (-221), 276, [52], 0, 0),
  (276, .iload_n 3, 277, [3], 0, 0),
  (277, .ifCond .eq 17, 280, [294], 0, 0),
  (280, .aload_n 1, 281, [1], 0, 0),
  (281, .aload_n 2, 282, [2], 0, 0),
  (282, .ldc 244, 284, [900], 83003, 0),
  (284, .invokestatic 221, 287, [0, 128, 874, 875, 9, 876], 0, 0),
  (287, .ifCond .eq 7, 290, [294], 0, 0),
  (290, .iconst 1, 291, [], 1, 0),
  (291, .goto 4, 294, [295], 0, 0),
  (294, .iconst 0, 295, [], 0, 0),
  (295, .ireturn, 296, [], 0, 0)]
def cdT : Nat → List (Nat × Row)
  | 0 => cd0
  | 1 => cd1
  | 2 => cd2
  | 3 => cd3
  | 4 => cd4
  | 5 => cd5
  | 6 => cd6
  | 7 => cd7
  | 8 => cd8
  | 9 => cd9
  | 10 => cd10
  | 11 => cd11
  | 12 => cd12
  | 13 => cd13
  | 14 => cd14
  | 15 => cd15
  | 16 => cd16
  | 17 => cd17
  | 18 => cd18
  | 19 => cd19
  | 20 => cd20
  | 21 => cd21
  | 22 => cd22
  | 23 => cd23
  | 24 => cd24
  | 25 => cd25
  | 26 => cd26
  | 27 => cd27
  | 28 => cd28
  | 29 => cd29
  | 30 => cd30
  | 31 => cd31
  | 32 => cd32
  | 33 => cd33
  | 34 => cd34
  | 35 => cd35
  | 36 => cd36
  | 37 => cd37
  | 38 => cd38
  | 39 => cd39
  | 40 => cd40
  | 41 => cd41
  | 42 => cd42
  | 43 => cd43
  | 44 => cd44
  | 45 => cd45
  | 46 => cd46
  | 47 => cd47
  | 48 => cd48
  | 49 => cd49
  | 50 => cd50
  | 51 => cd51
  | 52 => cd52
  | 53 => cd53
  | 54 => cd54
  | 55 => cd55
  | 56 => cd56
  | 57 => cd57
  | 58 => cd58
  | 59 => cd59
  | 60 => cd60
  | 61 => cd61
  | 62 => cd62
  | 63 => cd63
  | 64 => cd64
  | 65 => cd65
  | 66 => cd66
  | 67 => cd67
  | 68 => cd68
  | 69 => cd69
  | 70 => cd70
  | 71 => cd71
  | 72 => cd72
  | 73 => cd73
  | 74 => cd74
  | 75 => cd75
  | 76 => cd76
  | 77 => cd77
  | 78 => cd78
  | 79 => cd79
  | 80 => cd80
  | 81 => cd81
  | 82 => cd82
  | 83 => cd83
  | 84 => cd84
  | 85 => cd85
  | 86 => cd86
  | 87 => cd87
  | 88 => cd88
  | 89 => cd89
  | 90 => cd90
  | 91 => cd91
  | 92 => cd92
  | 93 => cd93
  | 94 => cd94
  | 95 => cd95
  | 96 => cd96
  | 97 => cd97
  | 98 => cd98
  | 99 => cd99
  | 100 => cd100
  | 101 => cd101
  | 102 => cd102
  | 103 => cd103
  | 104 => cd104
  | 105 => cd105
  | 106 => cd106
  | 107 => cd107
  | 108 => cd108
  | 109 => cd109
  | 110 => cd110
  | 111 => cd111
  | 112 => cd112
  | 113 => cd113
  | 114 => cd114
  | 115 => cd115
  | 116 => cd116
  | 117 => cd117
  | 118 => cd118
  | 119 => cd119
  | 120 => cd120
  | 121 => cd121
  | 122 => cd122
  | 123 => cd123
  | 124 => cd124
  | 125 => cd125
  | 126 => cd126
  | 127 => cd127
  | 128 => cd128
  | 129 => cd129
  | 130 => cd130
  | 131 => cd131
  | _ => []
def yN : Nat → MethodName
  | 0 => yX0_init
  | 1 => yX0_makeNew
  | 2 => yX0_becomeLike
  | 3 => yX0_hasSlot
  | 4 => yX0_slotBehind
  | 5 => yX0_numberIn
  | 6 => yX0_wearOf
  | 7 => yX0_isStuck
  | 8 => yX0_wearOfSlot
  | 9 => yX0_spokenBy
  | 10 => yX0_readableIn
  | 11 => yX0_write
  | 12 => yX0_renew
  | 13 => yX0_wearGap
  | 14 => yX0_slotOfGreatest
  | 15 => yX1_init
  | 16 => yX1_remember
  | 17 => yX1_takeBack
  | 18 => yX1_forgetAll
  | 19 => yX2_init
  | 20 => yX2_makeNew
  | 21 => yX2_becomeLike
  | 22 => yX2_tellOfDriving
  | 23 => yX2_tellOfMemory
  | 24 => yX2_driveOn
  | 25 => yX2_driveTillDead
  | 26 => yX2_storeDistance
  | 27 => yX2_writeSlot
  | 28 => yX2_leftByCut
  | 29 => yX2_losePower
  | 30 => yX2_switchOn
  | 31 => yX2_setCut
  | 32 => yX2_noteService
  | 33 => yX2_canReplace
  | 34 => yX2_obey
  | 35 => yX2_obeyGroup
  | 36 => yX2_takeStep
  | 37 => yX2_playRound
  | 38 => yX3_init
  | 39 => yX3_becomeLike
  | 40 => yX3_codeAt
  | 41 => yX3_notedAt
  | 42 => yX3_placeOf
  | 43 => yX3_hasRoomFor
  | 44 => yX3_addLast
  | 45 => yX3_takeOut
  | 46 => yX3_placeOfSmallest
  | 47 => yX3_put
  | 48 => yX4_init
  | 49 => yX4_isFull
  | 50 => yX4_emptyAll
  | 51 => yX4_put
  | 52 => yX4_take
  | 53 => yX5_init
  | 54 => yX5_add
  | 55 => yX5_empty
  | 56 => yX5_errorAt
  | 57 => yX5_isAtEnd
  | 58 => yX5_readHead
  | 59 => yX5_readCommand
  | 60 => yX5_readNumber
  | 61 => yX5_signHere
  | 62 => yX6_init
  | 63 => yX6_append
  | 64 => yX6_clearText
  | 65 => yX6_errorPosition
  | 66 => yX6_load
  | 67 => yX6_about
  | 68 => yX6_cell
  | 69 => yX6_says
  | 70 => yX6_whySilent
  | 71 => yX6_share
  | 72 => yX6_serviceAt
  | 73 => yX6_lastCut
  | 74 => yX6_drive
  | 75 => yX6_cut
  | 76 => yX6_start
  | 77 => yX6_service
  | 78 => yX6_forget
  | 79 => yX6_setStep
  | 80 => yX6_replace
  | 81 => yX6_undo
  | 82 => yX6_afterCut
  | 83 => yX6_worstLoss
  | 84 => yX6_lasts
  | 85 => yX6_dueIn
  | 86 => yX6_dueFirst
  | 87 => yX6_runScript
  | 88 => yX6_simulate
  | 89 => yX6_save
  | 90 => yX6_restore
  | 91 => yX6_toldAfterCut
  | 92 => yX6_isTenths
  | 93 => yX6_isCut
  | 94 => yX6_isService
  | 95 => yX6_isStep
  | 96 => yX6_lessGroups
  | 97 => yL_draw
  | 98 => yL_in
  | 99 => yL_append
  | 100 => yL_load
  | 101 => yL_about
  | 102 => yL_cell
  | 103 => yL_says
  | 104 => yL_whySilent
  | 105 => yL_portion
  | 106 => yL_serviceAt
  | 107 => yL_lastCut
  | 108 => yL_drive
  | 109 => yL_cut
  | 110 => yL_start
  | 111 => yL_service
  | 112 => yL_forget
  | 113 => yL_setStep
  | 114 => yL_replace
  | 115 => yL_undo
  | 116 => yL_afterCut
  | 117 => yL_worstLoss
  | 118 => yL_lasts
  | 119 => yL_dueIn
  | 120 => yL_script
  | 121 => yL_simulate
  | 122 => yL_save
  | 123 => yL_restore
  | 124 => yL_now
  | 125 => yL_errors
  | 126 => yL_kept
  | 127 => yL_follows
  | 128 => yL_alike
  | 129 => yL_types
  | 130 => yL_tells
  | 131 => yL_act
  | 132 => yL_law
  | _ => ⟨"", "", ""⟩
def bC : Nat → ByteArray
  | 0 => cX0_init
  | 1 => cX0_makeNew
  | 2 => cX0_becomeLike
  | 3 => cX0_hasSlot
  | 4 => cX0_slotBehind
  | 5 => cX0_numberIn
  | 6 => cX0_wearOf
  | 7 => cX0_isStuck
  | 8 => cX0_wearOfSlot
  | 9 => cX0_spokenBy
  | 10 => cX0_readableIn
  | 11 => cX0_write
  | 12 => cX0_renew
  | 13 => cX0_wearGap
  | 14 => cX0_slotOfGreatest
  | 15 => cX1_init
  | 16 => cX1_remember
  | 17 => cX1_takeBack
  | 18 => cX1_forgetAll
  | 19 => cX2_init
  | 20 => cX2_makeNew
  | 21 => cX2_becomeLike
  | 22 => cX2_tellOfDriving
  | 23 => cX2_tellOfMemory
  | 24 => cX2_driveOn
  | 25 => cX2_driveTillDead
  | 26 => cX2_storeDistance
  | 27 => cX2_writeSlot
  | 28 => cX2_leftByCut
  | 29 => cX2_losePower
  | 30 => cX2_switchOn
  | 31 => cX2_setCut
  | 32 => cX2_noteService
  | 33 => cX2_canReplace
  | 34 => cX2_obey
  | 35 => cX2_obeyGroup
  | 36 => cX2_takeStep
  | 37 => cX2_playRound
  | 38 => cX3_init
  | 39 => cX3_becomeLike
  | 40 => cX3_codeAt
  | 41 => cX3_notedAt
  | 42 => cX3_placeOf
  | 43 => cX3_hasRoomFor
  | 44 => cX3_addLast
  | 45 => cX3_takeOut
  | 46 => cX3_placeOfSmallest
  | 47 => cX3_put
  | 48 => cX4_init
  | 49 => cX4_isFull
  | 50 => cX4_emptyAll
  | 51 => cX4_put
  | 52 => cX4_take
  | 53 => cX5_init
  | 54 => cX5_add
  | 55 => cX5_empty
  | 56 => cX5_errorAt
  | 57 => cX5_isAtEnd
  | 58 => cX5_readHead
  | 59 => cX5_readCommand
  | 60 => cX5_readNumber
  | 61 => cX5_signHere
  | 62 => cX6_init
  | 63 => cX6_append
  | 64 => cX6_clearText
  | 65 => cX6_errorPosition
  | 66 => cX6_load
  | 67 => cX6_about
  | 68 => cX6_cell
  | 69 => cX6_says
  | 70 => cX6_whySilent
  | 71 => cX6_share
  | 72 => cX6_serviceAt
  | 73 => cX6_lastCut
  | 74 => cX6_drive
  | 75 => cX6_cut
  | 76 => cX6_start
  | 77 => cX6_service
  | 78 => cX6_forget
  | 79 => cX6_setStep
  | 80 => cX6_replace
  | 81 => cX6_undo
  | 82 => cX6_afterCut
  | 83 => cX6_worstLoss
  | 84 => cX6_lasts
  | 85 => cX6_dueIn
  | 86 => cX6_dueFirst
  | 87 => cX6_runScript
  | 88 => cX6_simulate
  | 89 => cX6_save
  | 90 => cX6_restore
  | 91 => cX6_toldAfterCut
  | 92 => cX6_isTenths
  | 93 => cX6_isCut
  | 94 => cX6_isService
  | 95 => cX6_isStep
  | 96 => cX6_lessGroups
  | 97 => cL_draw
  | 98 => cL_in
  | 99 => cL_append
  | 100 => cL_load
  | 101 => cL_about
  | 102 => cL_cell
  | 103 => cL_says
  | 104 => cL_whySilent
  | 105 => cL_portion
  | 106 => cL_serviceAt
  | 107 => cL_lastCut
  | 108 => cL_drive
  | 109 => cL_cut
  | 110 => cL_start
  | 111 => cL_service
  | 112 => cL_forget
  | 113 => cL_setStep
  | 114 => cL_replace
  | 115 => cL_undo
  | 116 => cL_afterCut
  | 117 => cL_worstLoss
  | 118 => cL_lasts
  | 119 => cL_dueIn
  | 120 => cL_script
  | 121 => cL_simulate
  | 122 => cL_save
  | 123 => cL_restore
  | 124 => cL_now
  | 125 => cL_errors
  | 126 => cL_kept
  | 127 => cL_follows
  | 128 => cL_alike
  | 129 => cL_types
  | 130 => cL_tells
  | 131 => cL_act
  | 132 => cL_law
  | _ => ⟨#[]⟩
def mL : Nat → Nat
  | 0 => 1
  | 1 => 4
  | 2 => 2
  | 3 => 2
  | 4 => 2
  | 5 => 4
  | 6 => 4
  | 7 => 3
  | 8 => 2
  | 9 => 5
  | 10 => 4
  | 11 => 5
  | 12 => 5
  | 13 => 5
  | 14 => 4
  | 15 => 1
  | 16 => 2
  | 17 => 2
  | 18 => 1
  | 19 => 1
  | 20 => 4
  | 21 => 2
  | 22 => 2
  | 23 => 2
  | 24 => 3
  | 25 => 3
  | 26 => 3
  | 27 => 4
  | 28 => 2
  | 29 => 4
  | 30 => 2
  | 31 => 4
  | 32 => 5
  | 33 => 2
  | 34 => 4
  | 35 => 5
  | 36 => 2
  | 37 => 2
  | 38 => 1
  | 39 => 2
  | 40 => 2
  | 41 => 2
  | 42 => 4
  | 43 => 3
  | 44 => 4
  | 45 => 4
  | 46 => 3
  | 47 => 4
  | 48 => 4
  | 49 => 2
  | 50 => 2
  | 51 => 4
  | 52 => 4
  | 53 => 1
  | 54 => 2
  | 55 => 2
  | 56 => 2
  | 57 => 1
  | 58 => 1
  | 59 => 1
  | 60 => 9
  | 61 => 1
  | 62 => 1
  | 63 => 2
  | 64 => 1
  | 65 => 1
  | 66 => 3
  | 67 => 2
  | 68 => 4
  | 69 => 2
  | 70 => 2
  | 71 => 4
  | 72 => 4
  | 73 => 2
  | 74 => 2
  | 75 => 3
  | 76 => 1
  | 77 => 3
  | 78 => 4
  | 79 => 3
  | 80 => 2
  | 81 => 1
  | 82 => 3
  | 83 => 4
  | 84 => 2
  | 85 => 5
  | 86 => 2
  | 87 => 6
  | 88 => 7
  | 89 => 2
  | 90 => 2
  | 91 => 3
  | 92 => 1
  | 93 => 2
  | 94 => 2
  | 95 => 1
  | 96 => 6
  | 97 => 2
  | 98 => 6
  | 99 => 3
  | 100 => 2
  | 101 => 3
  | 102 => 5
  | 103 => 3
  | 104 => 3
  | 105 => 3
  | 106 => 4
  | 107 => 3
  | 108 => 3
  | 109 => 4
  | 110 => 2
  | 111 => 4
  | 112 => 4
  | 113 => 3
  | 114 => 3
  | 115 => 2
  | 116 => 4
  | 117 => 2
  | 118 => 3
  | 119 => 5
  | 120 => 5
  | 121 => 5
  | 122 => 3
  | 123 => 3
  | 124 => 4
  | 125 => 6
  | 126 => 27
  | 127 => 25
  | 128 => 3
  | 129 => 5
  | 130 => 6
  | 131 => 3
  | 132 => 7
  | _ => 0
def rT : Nat → Option FieldType
  | 0 => none
  | 1 => none
  | 2 => none
  | 3 => (some .boolean)
  | 4 => (some .int)
  | 5 => (some .int)
  | 6 => (some .int)
  | 7 => (some .boolean)
  | 8 => (some .int)
  | 9 => (some .int)
  | 10 => (some .int)
  | 11 => none
  | 12 => (some .int)
  | 13 => (some .int)
  | 14 => (some .int)
  | 15 => none
  | 16 => none
  | 17 => (some .int)
  | 18 => none
  | 19 => none
  | 20 => none
  | 21 => none
  | 22 => (some .int)
  | 23 => (some .int)
  | 24 => (some .int)
  | 25 => (some .int)
  | 26 => none
  | 27 => none
  | 28 => (some .int)
  | 29 => none
  | 30 => (some .int)
  | 31 => (some .int)
  | 32 => (some .int)
  | 33 => (some .boolean)
  | 34 => (some .boolean)
  | 35 => (some .boolean)
  | 36 => (some .boolean)
  | 37 => none
  | 38 => none
  | 39 => none
  | 40 => (some .int)
  | 41 => (some .int)
  | 42 => (some .int)
  | 43 => (some .boolean)
  | 44 => none
  | 45 => (some .int)
  | 46 => (some .int)
  | 47 => none
  | 48 => none
  | 49 => (some .boolean)
  | 50 => none
  | 51 => none
  | 52 => none
  | 53 => none
  | 54 => (some .int)
  | 55 => (some .int)
  | 56 => (some .int)
  | 57 => (some .boolean)
  | 58 => (some .boolean)
  | 59 => (some .boolean)
  | 60 => (some .int)
  | 61 => (some .int)
  | 62 => none
  | 63 => (some .int)
  | 64 => (some .int)
  | 65 => (some .int)
  | 66 => (some .int)
  | 67 => (some .int)
  | 68 => (some .int)
  | 69 => (some .int)
  | 70 => (some .int)
  | 71 => (some .int)
  | 72 => (some .int)
  | 73 => (some .int)
  | 74 => (some .int)
  | 75 => (some .int)
  | 76 => (some .int)
  | 77 => (some .int)
  | 78 => (some .int)
  | 79 => (some .int)
  | 80 => (some .int)
  | 81 => (some .int)
  | 82 => (some .int)
  | 83 => (some .int)
  | 84 => (some .int)
  | 85 => (some .int)
  | 86 => (some .int)
  | 87 => (some .int)
  | 88 => (some .int)
  | 89 => (some .int)
  | 90 => (some .int)
  | 91 => (some .int)
  | 92 => (some .boolean)
  | 93 => (some .boolean)
  | 94 => (some .boolean)
  | 95 => (some .boolean)
  | 96 => (some .long)
  | 97 => (some .int)
  | 98 => (some .boolean)
  | 99 => (some .long)
  | 100 => (some .long)
  | 101 => (some .long)
  | 102 => (some .long)
  | 103 => (some .long)
  | 104 => (some .long)
  | 105 => (some .long)
  | 106 => (some .long)
  | 107 => (some .long)
  | 108 => (some .long)
  | 109 => (some .long)
  | 110 => (some .long)
  | 111 => (some .long)
  | 112 => (some .long)
  | 113 => (some .long)
  | 114 => (some .long)
  | 115 => (some .long)
  | 116 => (some .long)
  | 117 => (some .long)
  | 118 => (some .long)
  | 119 => (some .long)
  | 120 => (some .long)
  | 121 => (some .long)
  | 122 => (some .long)
  | 123 => (some .long)
  | 124 => (some .long)
  | 125 => (some .boolean)
  | 126 => (some .boolean)
  | 127 => (some .boolean)
  | 128 => (some .boolean)
  | 129 => (some .boolean)
  | 130 => (some .boolean)
  | 131 => (some .long)
  | 132 => (some .boolean)
  | _ => none
def nA : Nat → Nat
  | 0 => 0
  | 1 => 2
  | 2 => 1
  | 3 => 1
  | 4 => 1
  | 5 => 2
  | 6 => 2
  | 7 => 2
  | 8 => 1
  | 9 => 1
  | 10 => 1
  | 11 => 3
  | 12 => 1
  | 13 => 0
  | 14 => 0
  | 15 => 0
  | 16 => 1
  | 17 => 1
  | 18 => 0
  | 19 => 0
  | 20 => 3
  | 21 => 1
  | 22 => 1
  | 23 => 1
  | 24 => 1
  | 25 => 0
  | 26 => 0
  | 27 => 2
  | 28 => 1
  | 29 => 3
  | 30 => 0
  | 31 => 2
  | 32 => 2
  | 33 => 1
  | 34 => 3
  | 35 => 1
  | 36 => 1
  | 37 => 1
  | 38 => 0
  | 39 => 1
  | 40 => 1
  | 41 => 1
  | 42 => 2
  | 43 => 2
  | 44 => 3
  | 45 => 1
  | 46 => 0
  | 47 => 3
  | 48 => 1
  | 49 => 1
  | 50 => 0
  | 51 => 2
  | 52 => 2
  | 53 => 0
  | 54 => 1
  | 55 => 0
  | 56 => 0
  | 57 => 0
  | 58 => 0
  | 59 => 0
  | 60 => 3
  | 61 => 0
  | 62 => 0
  | 63 => 1
  | 64 => 0
  | 65 => 0
  | 66 => 0
  | 67 => 1
  | 68 => 3
  | 69 => 1
  | 70 => 1
  | 71 => 1
  | 72 => 2
  | 73 => 1
  | 74 => 1
  | 75 => 2
  | 76 => 0
  | 77 => 2
  | 78 => 2
  | 79 => 1
  | 80 => 1
  | 81 => 0
  | 82 => 2
  | 83 => 0
  | 84 => 1
  | 85 => 3
  | 86 => 0
  | 87 => 2
  | 88 => 2
  | 89 => 1
  | 90 => 1
  | 91 => 2
  | 92 => 1
  | 93 => 2
  | 94 => 2
  | 95 => 1
  | 96 => 2
  | 97 => 2
  | 98 => 3
  | 99 => 2
  | 100 => 1
  | 101 => 2
  | 102 => 4
  | 103 => 2
  | 104 => 2
  | 105 => 2
  | 106 => 3
  | 107 => 2
  | 108 => 2
  | 109 => 3
  | 110 => 1
  | 111 => 3
  | 112 => 3
  | 113 => 2
  | 114 => 2
  | 115 => 1
  | 116 => 3
  | 117 => 1
  | 118 => 2
  | 119 => 4
  | 120 => 3
  | 121 => 3
  | 122 => 2
  | 123 => 2
  | 124 => 1
  | 125 => 1
  | 126 => 1
  | 127 => 2
  | 128 => 3
  | 129 => 3
  | 130 => 3
  | 131 => 3
  | 132 => 1
  | _ => 0
def hhT : Nat → List (Nat × Nat × Nat × Nat)
  | 99 => [(0, 6, 7, 15), (0, 6, 12, 19)] 
  | 100 => [(0, 5, 6, 19)] 
  | 101 => [(0, 6, 7, 15)] 
  | 102 => [(0, 8, 9, 34), (0, 8, 15, 15)] 
  | 103 => [(0, 6, 7, 34)] 
  | 104 => [(0, 6, 7, 34)] 
  | 105 => [(0, 6, 7, 34)] 
  | 106 => [(0, 7, 8, 15)] 
  | 107 => [(0, 6, 7, 15)] 
  | 108 => [(0, 6, 7, 15), (0, 6, 12, 19)] 
  | 109 => [(0, 7, 8, 15), (0, 7, 13, 19)] 
  | 110 => [(0, 5, 6, 19)] 
  | 111 => [(0, 7, 8, 15), (0, 7, 13, 19)] 
  | 112 => [(0, 7, 8, 15), (0, 7, 13, 19)] 
  | 113 => [(0, 6, 7, 15)] 
  | 114 => [(0, 6, 7, 34), (0, 6, 12, 19)] 
  | 115 => [(0, 5, 6, 19)] 
  | 116 => [(0, 7, 8, 15), (0, 7, 13, 19)] 
  | 117 => [(0, 5, 6, 19)] 
  | 118 => [(0, 6, 7, 15), (0, 6, 12, 19)] 
  | 119 => [(0, 8, 9, 15), (0, 8, 15, 19)] 
  | 120 => [(0, 7, 8, 15)] 
  | 121 => [(0, 7, 8, 15)] 
  | 122 => [(0, 6, 7, 34)] 
  | 123 => [(0, 6, 7, 34), (0, 6, 12, 19)] 
  | _ => []
def kO : Nat → Nat
  | 0 => 0
  | 1 => 0
  | 2 => 0
  | 3 => 0
  | 4 => 0
  | 5 => 0
  | 6 => 0
  | 7 => 0
  | 8 => 0
  | 9 => 0
  | 10 => 0
  | 11 => 0
  | 12 => 0
  | 13 => 0
  | 14 => 0
  | 15 => 1
  | 16 => 1
  | 17 => 1
  | 18 => 1
  | 19 => 2
  | 20 => 2
  | 21 => 2
  | 22 => 2
  | 23 => 2
  | 24 => 2
  | 25 => 2
  | 26 => 2
  | 27 => 2
  | 28 => 2
  | 29 => 2
  | 30 => 2
  | 31 => 2
  | 32 => 2
  | 33 => 2
  | 34 => 2
  | 35 => 2
  | 36 => 2
  | 37 => 2
  | 38 => 3
  | 39 => 3
  | 40 => 3
  | 41 => 3
  | 42 => 3
  | 43 => 3
  | 44 => 3
  | 45 => 3
  | 46 => 3
  | 47 => 3
  | 48 => 4
  | 49 => 4
  | 50 => 4
  | 51 => 4
  | 52 => 4
  | 53 => 5
  | 54 => 5
  | 55 => 5
  | 56 => 5
  | 57 => 5
  | 58 => 5
  | 59 => 5
  | 60 => 5
  | 61 => 5
  | 62 => 6
  | 63 => 6
  | 64 => 6
  | 65 => 6
  | 66 => 6
  | 67 => 6
  | 68 => 6
  | 69 => 6
  | 70 => 6
  | 71 => 6
  | 72 => 6
  | 73 => 6
  | 74 => 6
  | 75 => 6
  | 76 => 6
  | 77 => 6
  | 78 => 6
  | 79 => 6
  | 80 => 6
  | 81 => 6
  | 82 => 6
  | 83 => 6
  | 84 => 6
  | 85 => 6
  | 86 => 6
  | 87 => 6
  | 88 => 6
  | 89 => 6
  | 90 => 6
  | 91 => 6
  | 92 => 6
  | 93 => 6
  | 94 => 6
  | 95 => 6
  | 96 => 6
  | _ => 99
/-- cells and slots a call may make -/
def mkT : List (Nat × Nat × Nat) := [(0, 2, 72), (15, 101, 1710), (19, 6, 103), (38, 2, 24), (48, 100, 1708), (53, 1, 90), (62, 220, 3800), (63, 1, 6), (66, 1, 6), (67, 1, 6), (68, 1, 6), (69, 1, 6), (70, 1, 6), (71, 1, 6), (72, 1, 6), (73, 1, 6), (74, 1, 6), (75, 1, 6), (76, 1, 6), (77, 1, 6), (78, 1, 6), (79, 1, 6), (80, 1, 6), (81, 1, 6), (82, 1, 6), (83, 1, 6), (84, 1, 6), (85, 1, 6), (87, 1, 6), (88, 1, 6), (89, 1, 6), (90, 1, 6), (97, 0, 0), (98, 0, 0), (99, 1, 6), (100, 1, 6), (101, 1, 6), (102, 1, 6), (103, 1, 6), (104, 1, 6), (105, 1, 6), (106, 1, 6), (107, 1, 6), (108, 1, 6), (109, 1, 6), (110, 1, 6), (111, 1, 6), (112, 1, 6), (113, 1, 6), (114, 1, 6), (115, 1, 6), (116, 1, 6), (117, 1, 6), (118, 1, 6), (119, 1, 6), (120, 1, 6), (121, 1, 6), (122, 1, 6), (123, 1, 6), (124, 200, 1200), (125, 500, 3000), (126, 700, 4200), (127, 2400, 14400), (128, 500, 3000), (129, 3, 18), (130, 130, 780), (131, 1, 6)]
def hxT : List (Nat × Nat × Nat × List (String × Nat)) := [(99, 0, 6, [("java/lang/IllegalArgumentException", 7), ("java/lang/IllegalStateException", 12)]),
  (100, 0, 5, [("java/lang/IllegalStateException", 6)]),
  (101, 0, 6, [("java/lang/IllegalArgumentException", 7)]),
  (102, 0, 8, [("java/lang/IndexOutOfBoundsException", 9), ("java/lang/IllegalArgumentException", 15)]),
  (103, 0, 6, [("java/lang/IndexOutOfBoundsException", 7)]),
  (104, 0, 6, [("java/lang/IndexOutOfBoundsException", 7)]),
  (105, 0, 6, [("java/lang/IndexOutOfBoundsException", 7)]),
  (106, 0, 7, [("java/lang/IllegalArgumentException", 8)]),
  (107, 0, 6, [("java/lang/IllegalArgumentException", 7)]),
  (108, 0, 6, [("java/lang/IllegalArgumentException", 7), ("java/lang/IllegalStateException", 12)]),
  (109, 0, 7, [("java/lang/IllegalArgumentException", 8), ("java/lang/IllegalStateException", 13)]),
  (110, 0, 5, [("java/lang/IllegalStateException", 6)]),
  (111, 0, 7, [("java/lang/IllegalArgumentException", 8), ("java/lang/IllegalStateException", 13)]),
  (112, 0, 7, [("java/lang/IllegalArgumentException", 8), ("java/lang/IllegalStateException", 13)]),
  (113, 0, 6, [("java/lang/IllegalArgumentException", 7)]),
  (114, 0, 6, [("java/lang/IndexOutOfBoundsException", 7), ("java/lang/IllegalStateException", 12)]),
  (115, 0, 5, [("java/lang/IllegalStateException", 6)]),
  (116, 0, 7, [("java/lang/IllegalArgumentException", 8), ("java/lang/IllegalStateException", 13)]),
  (117, 0, 5, [("java/lang/IllegalStateException", 6)]),
  (118, 0, 6, [("java/lang/IllegalArgumentException", 7), ("java/lang/IllegalStateException", 12)]),
  (119, 0, 8, [("java/lang/IllegalArgumentException", 9), ("java/lang/IllegalStateException", 15)]),
  (120, 0, 7, [("java/lang/IllegalArgumentException", 8)]),
  (121, 0, 7, [("java/lang/IllegalArgumentException", 8)]),
  (122, 0, 6, [("java/lang/IndexOutOfBoundsException", 7)]),
  (123, 0, 6, [("java/lang/IndexOutOfBoundsException", 7), ("java/lang/IllegalStateException", 12)])]
/-- loop heads, and the locals that live there -/
def nzT : Nat → List (Nat × List Nat)
  | 1 => [(17, [0, 3])]
  | 10 => [(4, [0, 1, 2, 3])]
  | 12 => [(4, [0, 1, 2, 3])]
  | 13 => [(8, [0, 1, 2, 3]), (19, [0, 1, 2, 3, 4])]
  | 14 => [(8, [0, 1, 2, 3])]
  | 24 => [(2, [0, 1, 2])]
  | 25 => [(2, [0, 1])]
  | 26 => [(7, [0, 1, 2])]
  | 27 => [(2, [0, 1, 2, 3])]
  | 42 => [(2, [0, 1, 2, 3])]
  | 45 => [(10, [0, 2, 3])]
  | 46 => [(5, [0, 1, 2])]
  | 48 => [(27, [0, 3])]
  | 50 => [(2, [0, 1])]
  | 56 => [(14, [0, 1])]
  | 60 => [(6, [0, 1, 2, 3, 4, 5]), (31, [0, 1, 2, 3, 4, 5, 6])]
  | 66 => [(78, [0, 1, 2])]
  | 71 => [(28, [0, 1, 2, 3])]
  | 83 => [(41, [0, 1, 2]), (49, [0, 1, 2, 3])]
  | 87 => [(51, [0, 1, 2, 4])]
  | 88 => [(39, [0, 3, 4, 6])]
  | 96 => [(5, [2, 3, 5])]
  | 124 => [(6, [0, 1, 3]), (32, [0, 1, 3]), (89, [0, 1, 3])]
  | 126 => [(49, [0, 1, 2, 3, 4, 6, 8, 10, 12]), (347, [0, 1, 2, 3, 4, 6, 8, 10, 12, 24]), (480, [0, 1, 2, 3, 4, 6, 8, 10, 12, 14]), (945, [0, 3, 14, 18, 19]), (1070, [0, 3, 14, 18, 19, 20, 21, 22])]
  | 129 => [(25, [0, 1, 3, 4])]
  | 130 => [(87, [0, 1, 2, 3, 4])]
  | 132 => [(52, [0, 1, 2, 3, 4])]
  | _ => []
def nestW : List Cond := [.methodLinkNest "OdometerRing" 9 ⟨"OdometerRing$Story", "<init>", "()V"⟩ "OdometerRing", .methodLinkNest "OdometerRing$Odometer" 11 ⟨"OdometerRing$Cells", "<init>", "()V"⟩ "OdometerRing", .methodLinkNest "OdometerRing$Odometer" 20 ⟨"OdometerRing$Services", "<init>", "()V"⟩ "OdometerRing", .methodLinkNest "OdometerRing" 28 ⟨"OdometerRing$History", "<init>", "()V"⟩ "OdometerRing", .methodLinkNest "OdometerRing$Odometer" 147 ⟨"OdometerRing", "isTenths", "(I)Z"⟩ "OdometerRing", .methodLinkNest "OdometerRing$Odometer" 153 ⟨"OdometerRing", "isCut", "(II)Z"⟩ "OdometerRing", .methodLinkNest "OdometerRing$Odometer" 163 ⟨"OdometerRing", "isService", "(II)Z"⟩ "OdometerRing", .methodLinkNest "OdometerRing$Odometer" 185 ⟨"OdometerRing", "isStep", "(I)Z"⟩ "OdometerRing"]
def nestH : List String := ["OdometerRing", "OdometerRing", "OdometerRing", "OdometerRing", "OdometerRing", "OdometerRing", "OdometerRing", "OdometerRing"]
def strT : List (String × Nat × String) := [("OdometerRing", 74, "the text is not a story"), ("OdometerRing", 319, "there is no such save slot"), ("OdometerRing", 328, "nothing has been saved in it"), ("OdometerRing", 114, "what is not 0 to 14"), ("OdometerRing", 134, "there is no such slot or cell"), ("OdometerRing", 137, "what is not 0 to 2"), ("OdometerRing", 162, "i is negative, or what is not 0 to 2"), ("OdometerRing", 191, "what is not 0 to 3"), ("OdometerRing", 150, "there is no such slot"), ("OdometerRing", 196, "tenths is not 1 to 999"), ("OdometerRing", 202, "the power is off"), ("OdometerRing", 214, "n is not 1 to 36, or kind is not 0 to 2"), ("OdometerRing", 227, "kind or part is not 0 to 9"), ("OdometerRing", 232, "the power is off, or there are 12 other services"), ("OdometerRing", 240, "the service is not noted"), ("OdometerRing", 248, "step is not 1 to 99"), ("OdometerRing", 254, "the power is off, or it is the current slot"), ("OdometerRing", 269, "the power is off, or the memory is dead"), ("OdometerRing", 291, "kind or part is not 0 to 9, or interval is not 1 to 9999"), ("OdometerRing", 219, "the power is on"), ("OdometerRing", 300, "n is not 1 to 4, or script has not 0 to 4 * n digits"), ("OdometerRing", 307, "m is not 1 to 99"), ("OdometerRing", 44, "c is not 0 to 255"), ("OdometerRing", 55, "the text is full"), ("OdometerRing", 260, "no state is remembered")]
end
section
/-! WHAT A METHOD DOES, over the abstract machine: the least predicate that is closed under its steps. -/
/-- the locals ks of a frame, in this order -/
def nz (ks : List Nat) (ls : List (Nat × Value)) : List (Nat × Value) := ks.filterMap (fun k => match lkp ls k with
  | some v => some (k, v)
  | none => none)
def nzA (nt : List (Nat × List Nat)) (pc : Nat) (ls : List (Nat × Value)) : List (Nat × Value) := match lkp nt pc with
  | some ks => nz ks ls
  | none => ls
def stepF (nt : List (Nat × List Nat)) (cd : List (Nat × Row)) (C : Cal) (mj : Nat → Nat × Nat) (kj : Nat → Nat) (nj : Nat → Nat) (SX : Option (Nat × (Nat → Int32))) (mxc mxs : Nat) (hn : Nat → String → Option Nat) (Rt : Option Value → Wd → Nat → Nat → Prop) (Th : String → Wd → Nat → Nat → Prop) (f : Fr) (X : Fr → Prop) : Prop :=
  match f with
  | (pc, ls, st, w, nc, ns) => match lkp cd pc with
    | some (ins, nx, aux, kc, kl) => stepI C mj kj nj SX mxc mxs hn Rt Th ins nx aux kc kl pc (nzA nt pc ls) st w nc ns X
    | none => False
/-- the steps of method j -/
abbrev SF : Type := Fr → (Fr → Prop) → Prop
def EE (S : SF) (f : Fr) : Prop := ∀ X : Fr → Prop, (∀ (g : Fr) (Y : Fr → Prop), S g Y → (∀ h, Y h → X h) → X g) → X f
theorem EE.step {S : SF} {f : Fr} (h : S f (EE S)) : EE S f := fun X hX => hX f (EE S) h (fun _ hg => hg X hX)
theorem EE.stepY {S : SF} {f : Fr} {Y : Fr → Prop} (h : S f Y) (hY : ∀ g, Y g → EE S g) : EE S f := fun X hX => hX f Y h (fun g hg => hY g hg X hX)
/-- n steps at once, up to the stops -/
def runN (S : SF) (stop : Nat → Bool) : Nat → Fr → (Fr → Prop) → Prop
  | 0, f, X => X f
  | n + 1, f, X => S f (fun g => match stop g.1 with
    | true => X g
    | false => runN S stop n g X)
theorem EE.runN {S : SF} {stop : Nat → Bool} : ∀ (n : Nat) (f : Fr), runN S stop n f (EE S) → EE S f
  | 0, _, h => h
  | n + 1, f, h => by
    refine EE.stepY h (fun g hg => ?_)
    revert hg
    cases stop g.1 with
    | true => exact fun hg => hg
    | false => exact fun hg => EE.runN n g hg
def noStop : Nat → Bool := fun _ => false
def atPc : List Nat → Nat → Bool
  | [], _ => false
  | a :: l, k => match Nat.beq a k with
    | true => true
    | false => atPc l k
/-- cells and slots that a call of a method may make -/
def mjT : Nat → Nat × Nat := fun j => match lkp mkT j with
  | some x => x
  | none => (0, 0)
def hnT (j : Nat) (pc : Nat) (E : String) : Option Nat := match lkp hxT j with
  | some (lo, hi, l) => match Nat.ble lo pc && Nat.blt pc hi with
    | true => (l.find? (fun q => q.1 == E)).map Prod.snd
    | false => none
  | none => none
/-- a return of method j -/
def RtJ (j : Nat) (Q : Res → Wd → Prop) (v : Option Value) (w : Wd) (nc ns : Nat) : Prop :=
  (nc ≤ (mjT j).1 ∧ ns ≤ (mjT j).2) ∧ match rT j, v with
    | some .int, some (.int x) => Q (.inl (some (.int x))) w
    | some .boolean, some (.int x) => (x = 0 ∨ x = 1) ∧ Q (.inl (some (.int x))) w
    | some .long, some (.long x) => Q (.inl (some (.long x))) w
    | none, none => Q (.inl none) w
    | _, _ => False
def ThJ (d j : Nat) (Q : Res → Wd → Prop) (E : String) (w : Wd) (nc ns : Nat) : Prop := (6 ≤ d ∧ nc + 1 ≤ (mjT j).1 ∧ ns + 6 ≤ (mjT j).2 ∧ hhT j = []) ∧ Q (.inr E) w
def SJ (d j : Nat) (C : Cal) (Q : Res → Wd → Prop) : SF := stepF (nzT j) (cdT j) C mjT kO nA none (mjT j).1 (mjT j).2 (hnT j) (RtJ j Q) (ThJ d j Q)
/-- method j, at depth d, from these arguments in this world, comes to an end with Q -/
def Wp : Nat → Cal
  | 0 => fun _ _ _ _ => False
  | d + 1 => fun j as w Q => Nat.ble (catS as) (mL j) = true ∧ EE (SJ (d + 1) j (Wp d) Q) (0, lv_args 0 as, [], w, 0, 0)
end
section
/-! THE ABSTRACT WORLD AND THE HEAP -/
def RXc : Nat → String
  | 0 => RX0
  | 1 => RX1
  | 2 => RX2
  | 3 => RX3
  | 4 => RX4
  | 5 => RX5
  | 6 => RX6
  | _ => RX7
def TXc : Nat → u_T
  | 0 => TX0
  | 1 => TX1
  | 2 => TX2
  | 3 => TX3
  | 4 => TX4
  | 5 => TX5
  | 6 => TX6
  | _ => TX7
def tyXc : Nat → Nat → FieldType
  | 0 => tyX0
  | 1 => tyX1
  | 2 => tyX2
  | 3 => tyX3
  | 4 => tyX4
  | 5 => tyX5
  | 6 => tyX6
  | _ => tyX7
/-- a value: an abstract reference is the address that ad gives it, 0 is null -/
def cv (ad : Nat → Nat) : Value → Value
  | .ref 0 => .null
  | .ref (i + 1) => .ref (ad (i + 1))
  | v => v
theorem cv_cat (ad : Nat → Nat) (v : Value) : (cv ad v).category = v.category := by
  cases v with
  | ref a => cases a <;> rfl
  | _ => rfl
theorem cv_int (ad : Nat → Nat) (x : Int32) : cv ad (.int x) = .int x := rfl
theorem cv_long (ad : Nat → Nat) (x : Int64) : cv ad (.long x) = .long x := rfl
theorem cv_pos (ad : Nat → Nat) {a : Nat} (h : 1 ≤ a) : cv ad (.ref a) = .ref (ad a) := by
  cases a with
  | zero => omega
  | succ i => rfl
def rfo (ad : Nat → Nat) : Nat → Option Nat
  | 0 => none
  | i + 1 => some (ad (i + 1))
theorem va_rfo (ad : Nat → Nat) (a : Nat) : va_rf (rfo ad a) = cv ad (.ref a) := by
  cases a <;> rfl
def fldV (ad : Nat → Nat) (w : Wd) (ci a k : Nat) : Value := if fK ci k = 1 then cv ad (.ref (w.1.2.2.2 a k)) else .int (w.2.1 a k)
def cellW (K : Nat → ClassId) (ad : Nat → Nat) (w : Wd) (a : Nat) : va_E :=
  if w.1.2.1 a = 8 then .inl (K 8, w.1.2.2.1 a, .inl (w.2.1 a))
  else if w.1.2.1 a = 9 then .inl (K 9, w.1.2.2.1 a, .inl (w.2.1 a))
  else if w.1.2.1 a = 10 then .inl (K 10, w.1.2.2.1 a, .inl (w.2.1 a))
  else if w.1.2.1 a = 11 then .inl (K 11, w.1.2.2.1 a, .inr (.inr (.inr (.inr (fun k => rfo ad (w.1.2.2.2 a k))))))
  else .inr (w.1.2.1 a, (List.range (nF (w.1.2.1 a))).map (fldV ad w (w.1.2.1 a) a))
def wsW (K : Nat → ClassId) (ad : Nat → Nat) (w : Wd) : va_W := (List.range w.1.1).map (fun i => (ad (i + 1), cellW K ad w (i + 1)))
def WFw (w : Wd) : Prop := (∀ i : Nat, w.1.2.1 i < 20 → 1 ≤ i ∧ i ≤ w.1.1) ∧ (∀ i k : Nat, w.1.2.2.2 i k ≤ w.1.1) ∧ w.1.1 < 1000000
theorem wsW_at (K : Nat → ClassId) (ad : Nat → Nat) (w : Wd) {a : Nat} (h1 : 1 ≤ a) (h2 : a ≤ w.1.1) : (wsW K ad w)[a - 1]? = some (ad a, cellW K ad w a) := by
  obtain ⟨i, rfl⟩ : ∃ i, a = i + 1 := ⟨a - 1, by omega⟩
  simp [wsW, List.getElem?_map, List.getElem?_range (show i < w.1.1 by omega)]
theorem wsW_len (K : Nat → ClassId) (ad : Nat → Nat) (w : Wd) : (wsW K ad w).length = w.1.1 := by simp [wsW]
theorem wsW_set (K : Nat → ClassId) (ad : Nat → Nat) (w w' : Wd) {a : Nat} {e : va_E} (h1 : 1 ≤ a) (h2 : a ≤ w.1.1) (hn : w'.1.1 = w.1.1) (ho : ∀ i, i ≠ a → cellW K ad w' i = cellW K ad w i) (he : cellW K ad w' a = e) : (wsW K ad w).set (a - 1) (ad a, e) = wsW K ad w' := by
  apply List.ext_getElem?
  intro i
  by_cases hi : i < w.1.1
  · rw [List.getElem?_set]
    by_cases hia : a - 1 = i
    · have e1 : a = i + 1 := by omega
      subst e1
      have := wsW_at K ad w' (a := i + 1) (by omega) (by rw [hn]; omega)
      simp only [Nat.add_sub_cancel] at this
      rw [this, he]
      simp [wsW_len, hi]
    · rw [if_neg hia]
      have h3 := wsW_at K ad w (a := i + 1) (by omega) (by omega)
      have h4 := wsW_at K ad w' (a := i + 1) (by omega) (by rw [hn]; omega)
      simp only [Nat.add_sub_cancel] at h3 h4
      rw [h3, h4, ho (i + 1) (by omega)]
  · rw [List.getElem?_eq_none (by rw [List.length_set, wsW_len]; omega), List.getElem?_eq_none (by rw [wsW_len, hn]; omega)]
theorem cellW_obj (K : Nat → ClassId) (ad : Nat → Nat) (w : Wd) {a ci : Nat} (h : w.1.2.1 a = ci) (hc : ci < 7) : cellW K ad w a = .inr (ci, (List.range (nF ci)).map (fldV ad w ci a)) := by
  unfold cellW
  rw [h, if_neg (by omega), if_neg (by omega), if_neg (by omega), if_neg (by omega)]
theorem cellW_8 (K : Nat → ClassId) (ad : Nat → Nat) (w : Wd) {a : Nat} (h : w.1.2.1 a = 8) : cellW K ad w a = .inl (K 8, w.1.2.2.1 a, .inl (w.2.1 a)) := by
  unfold cellW
  rw [if_pos h]
theorem cellW_9 (K : Nat → ClassId) (ad : Nat → Nat) (w : Wd) {a : Nat} (h : w.1.2.1 a = 9) : cellW K ad w a = .inl (K 9, w.1.2.2.1 a, .inl (w.2.1 a)) := by
  unfold cellW
  rw [if_neg (by omega), if_pos h]
theorem cellW_10 (K : Nat → ClassId) (ad : Nat → Nat) (w : Wd) {a : Nat} (h : w.1.2.1 a = 10) : cellW K ad w a = .inl (K 10, w.1.2.2.1 a, .inl (w.2.1 a)) := by
  unfold cellW
  rw [if_neg (by omega), if_neg (by omega), if_pos h]
theorem cellW_11 (K : Nat → ClassId) (ad : Nat → Nat) (w : Wd) {a : Nat} (h : w.1.2.1 a = 11) : cellW K ad w a = .inl (K 11, w.1.2.2.1 a, .inr (.inr (.inr (.inr (fun k => rfo ad (w.1.2.2.2 a k)))))) := by
  unfold cellW
  rw [if_neg (by omega), if_neg (by omega), if_neg (by omega), if_pos h]
theorem cellW_wI_n (K : Nat → ClassId) (ad : Nat → Nat) (w : Wd) {a i : Nat} (g : Nat → Int32) (h : i ≠ a) : cellW K ad (wI w a g) i = cellW K ad w i := by
  have e : (wI w a g).2.1 i = w.2.1 i := upA_n _ _ h
  have e2 : ∀ ci, fldV ad (wI w a g) ci i = fldV ad w ci i := fun ci => by
    funext k
    unfold fldV
    rw [e]
    rfl
  unfold cellW
  rw [e, e2]
  rfl
theorem cellW_wR_n (K : Nat → ClassId) (ad : Nat → Nat) (w : Wd) {a i : Nat} (g : Nat → Nat) (h : i ≠ a) : cellW K ad (wR w a g) i = cellW K ad w i := by
  have e : (wR w a g).1.2.2.2 i = w.1.2.2.2 i := upA_n _ _ h
  have e2 : ∀ ci, fldV ad (wR w a g) ci i = fldV ad w ci i := fun ci => by
    funext k
    unfold fldV
    rw [e]
    rfl
  unfold cellW
  rw [e, e2]
  rfl
theorem fld_set (ad : Nat → Nat) (w w' : Wd) {ci a k : Nat} {v : Value} (ho : ∀ j, j ≠ k → fldV ad w' ci a j = fldV ad w ci a j) (hv : fldV ad w' ci a k = v) : ((List.range (nF ci)).map (fldV ad w ci a)).set k v = (List.range (nF ci)).map (fldV ad w' ci a) := by
  apply List.ext_getElem?
  intro i
  rw [List.getElem?_set]
  by_cases hi : i < nF ci
  · by_cases hk : k = i
    · subst hk
      simp [List.getElem?_map, List.getElem?_range hi, hv, hi]
    · rw [if_neg hk]
      simp [List.getElem?_map, List.getElem?_range hi, ho i (Ne.symm hk)]
  · by_cases hk : k = i
    · subst hk
      simp [hi]
    · rw [if_neg hk]
      simp [List.getElem?_map, List.getElem?_eq_none, hi]
theorem cellW_congr (K : Nat → ClassId) (ad ad' : Nat → Nat) (w : Wd) (hw : WFw w) (h1 : ∀ i, i ≤ w.1.1 → ad' i = ad i) (i : Nat) : cellW K ad' w i = cellW K ad w i := by
  have cvr : ∀ x, x ≤ w.1.1 → cv ad' (.ref x) = cv ad (.ref x) := by
    intro x hx
    cases x with
    | zero => rfl
    | succ x => show Value.ref _ = Value.ref _; rw [h1 _ hx]
  have e1 : ∀ ci, fldV ad' w ci i = fldV ad w ci i := by
    intro ci
    funext k'
    unfold fldV
    rw [cvr _ (hw.2.1 i k')]
  have e2 : (fun k' => rfo ad' (w.1.2.2.2 i k')) = fun k' => rfo ad (w.1.2.2.2 i k') := by
    funext k'
    have h9 := hw.2.1 i k'
    revert h9
    cases w.1.2.2.2 i k' with
    | zero => intro _; rfl
    | succ x => intro h9; show some _ = some _; rw [h1 _ h9]
  unfold cellW
  rw [e1, e2]
theorem wsW_congr (K : Nat → ClassId) (ad ad' : Nat → Nat) (w : Wd) (hw : WFw w) (h1 : ∀ i, i ≤ w.1.1 → ad' i = ad i) : wsW K ad' w = wsW K ad w := by
  unfold wsW
  apply List.map_congr_left
  intro i hi
  have hi := List.mem_range.mp hi
  rw [h1 (i + 1) (by omega), cellW_congr K ad ad' w hw h1]
theorem cellW_wAl_n (K : Nat → ClassId) (ad : Nat → Nat) (w : Wd) (k N : Nat) {i : Nat} (hne : i ≠ w.1.1 + 1) : cellW K ad (wAl w k N) i = cellW K ad w i := by
  have a1 : (wAl w k N).1.2.1 i = w.1.2.1 i := upA_n _ _ hne
  have a2 : (wAl w k N).1.2.2.1 i = w.1.2.2.1 i := upA_n _ _ hne
  have a3 : (wAl w k N).1.2.2.2 i = w.1.2.2.2 i := upA_n _ _ hne
  have a4 : (wAl w k N).2.1 i = w.2.1 i := upA_n _ _ hne
  have a5 : (wAl w k N).2.2 i = w.2.2 i := upA_n _ _ hne
  have e1 : ∀ ci, fldV ad (wAl w k N) ci i = fldV ad w ci i := by
    intro ci
    funext k'
    unfold fldV
    rw [a3, a4]
  unfold cellW
  rw [a1, a2, a3, a4, e1]
theorem wAl_wf (w : Wd) (k N : Nat) (hw : WFw w) (hn : w.1.1 + 1 < 1000000) : WFw (wAl w k N) := by
  obtain ⟨h1, h2, h3⟩ := hw
  refine ⟨fun i hi => ?_, fun i k' => ?_, hn⟩
  · show 1 ≤ i ∧ i ≤ w.1.1 + 1
    by_cases he : i = w.1.1 + 1
    · omega
    · have a1 : (wAl w k N).1.2.1 i = w.1.2.1 i := upA_n _ _ he
      rw [a1] at hi
      have := h1 i hi
      omega
  · show _ ≤ w.1.1 + 1
    by_cases he : i = w.1.1 + 1
    · have a3 : (wAl w k N).1.2.2.2 i = fun _ => 0 := by rw [he]; exact upA_s _ _ _
      rw [a3]
      exact Nat.zero_le _
    · have a3 : (wAl w k N).1.2.2.2 i = w.1.2.2.2 i := upA_n _ _ he
      rw [a3]
      have := h2 i k'
      omega
/-- a new cell behind the others -/
theorem wsW_push (K : Nat → ClassId) (ad ad' : Nat → Nat) (w : Wd) (k N q : Nat) (hw : WFw w) (h1 : ∀ i, i ≤ w.1.1 → ad' i = ad i) (h2 : ad' (w.1.1 + 1) = q) : wsW K ad' (wAl w k N) = wsW K ad w ++ [(q, cellW K ad' (wAl w k N) (w.1.1 + 1))] := by
  rw [← wsW_congr K ad ad' w hw h1]
  unfold wsW
  rw [show (wAl w k N).1.1 = w.1.1 + 1 from rfl, List.range_succ, List.map_append]
  congr 1
  · apply List.map_congr_left
    intro i hi
    have hi := List.mem_range.mp hi
    rw [cellW_wAl_n K ad' w k N (by omega)]
  · simp [h2]
end
section
/-! WHAT A ROW OF THE TABLES MUST BE, decided by program -/
def GG : List Cond := lw_tbl.filter goodWord
def wAt (i : Nat) (w : Cond) : Bool := decide (lw_tbl[i]? = some w) && goodWord w
theorem wAt_in {i : Nat} {w : Cond} (h : wAt i w = true) : w ∈ GG := by
  simp only [wAt, Bool.and_eq_true, decide_eq_true_eq] at h
  exact List.mem_filter.mpr ⟨List.mem_of_getElem? h.1, h.2⟩
def ownO (j : Nat) : String := (yN j).cls
def hdW (j : Nat) : Cond := match hhT j with
  | [] => .code (yN j) (bC j) (mL j) (rT j)
  | hh => .codeWith (yN j) (bC j) (mL j) (rT j) hh
def dOk (j pc : Nat) (ins : Instr) (nx L : Nat) : Bool := decide (decode (bC j) pc = .ok (ins, L)) && decide (nx = pc + L)
def tOk (pc : Nat) (off : Int) (aux : List Nat) : Bool := match aux with
  | [t] => decide ((pc : Int) + off = (t : Int))
  | _ => false
def swOK (pc : Nat) : Int → List Nat → List Int → Bool
  | lo, k :: t :: r, o :: os => decide ((k : Int) = lo) && (decide ((pc : Int) + o = (t : Int)) && swOK pc (lo + 1) r os)
  | _, [], [] => true
  | _, _, _ => false
def swOL (pc : Nat) : List Nat → List (Int × Int) → Bool
  | k :: t :: r, (a, o) :: os => decide ((k : Int) = a) && (decide (k < 2147483648) && (decide ((pc : Int) + o = (t : Int)) && swOL pc r os))
  | [], [] => true
  | _, _ => false
/-- the greatest frame that a method may call -/
def mxO (j : Nat) : Nat := if j = 132 then 44 else 12
/-- a callee: its head's word, its class, how many arguments -/
def cOk (o j ph pi : Nat) : Bool := wAt ph (hdW j) && (wAt pi (.initialized (yN j).cls) && (decide ((yN j).cls ≠ "java/lang/invoke/MethodHandle") && (decide ((yN j).cls ≠ "java/lang/invoke/VarHandle") && (decide ((parseMethodDescriptor (yN j).desc).map (fun d => d.parameters.length) = some (nA j)) && (plainName (yN j).cls && decide (mL j ≤ mxO o))))))
def nestOk (i own : Nat) (idx : Nat) (y : MethodName) (o : String) : Bool := decide (nestW[i]? = some (.methodLinkNest o idx y ((nestH[i]?).getD "")))
def okRow (j pc : Nat) (r : Row) : Bool := match r with
  | (ins, nx, aux, kc, kl) => match ins with
    | .iconst n => dOk j pc ins nx 1 && decide (Int32.ofInt n = kc)
    | .bipush n => dOk j pc ins nx 2 && decide ((Int8.ofInt n).toInt32 = kc)
    | .sipush n => dOk j pc ins nx 3 && decide ((Int16.ofInt n).toInt32 = kc)
    | .ldc i => dOk j pc ins nx 2 && (match aux with
      | [p] => wAt p (.constant (ownO j) i kc)
      | _ => false)
    | .ldc_w i => dOk j pc ins nx 3 && (match aux with
      | [p] => wAt p (.constant (ownO j) i kc)
      | _ => false)
    | .lconst n => dOk j pc ins nx 1 && decide (Int64.ofNat (n : Nat) = kl)
    | .ldc2_w i => dOk j pc ins nx 3 && (match aux with
      | [p] => wAt p (.constantLong (ownO j) i kl)
      | _ => false)
    | .iload_n k => dOk j pc ins nx 1 && decide (aux = [(k : Nat)])
    | .lload_n k => dOk j pc ins nx 1 && decide (aux = [(k : Nat)])
    | .aload_n k => dOk j pc ins nx 1 && decide (aux = [(k : Nat)])
    | .iload i => dOk j pc ins nx 2 && decide (aux = [i])
    | .lload i => dOk j pc ins nx 2 && decide (aux = [i])
    | .aload i => dOk j pc ins nx 2 && decide (aux = [i])
    | .istore_n k => dOk j pc ins nx 1 && (decide (aux = [(k : Nat)]) && decide ((k : Nat) < mL j))
    | .astore_n k => dOk j pc ins nx 1 && (decide (aux = [(k : Nat)]) && decide ((k : Nat) < mL j))
    | .lstore_n k => dOk j pc ins nx 1 && (decide (aux = [(k : Nat)]) && decide ((k : Nat) + 1 < mL j))
    | .istore i => dOk j pc ins nx 2 && (decide (aux = [i]) && decide (i < mL j))
    | .astore i => dOk j pc ins nx 2 && (decide (aux = [i]) && decide (i < mL j))
    | .lstore i => dOk j pc ins nx 2 && (decide (aux = [i]) && decide (i + 1 < mL j))
    | .iinc i n => dOk j pc ins nx 3 && (decide (aux = [i]) && (decide (Int32.ofInt n = kc) && decide (i < mL j)))
    | .ifCond _ off => dOk j pc ins nx 3 && tOk pc off aux
    | .if_icmp _ off => dOk j pc ins nx 3 && tOk pc off aux
    | .goto off => dOk j pc ins nx 3 && tOk pc off aux
    | .ifnull off => dOk j pc ins nx 3 && tOk pc off aux
    | .tableswitch d lo hi offs => decide (decode (bC j) pc = .ok (ins, nx - pc)) && (match aux with
      | dt :: ks => decide ((pc : Int) + d = (dt : Int)) && (swOK pc lo ks offs.toList && (decide (hi = lo + offs.toList.length - 1) && (decide (0 ≤ lo) && decide (lo + offs.toList.length < 2147483648))))
      | _ => false)
    | .lookupswitch d ps => decide (decode (bC j) pc = .ok (ins, nx - pc)) && (match aux with
      | dt :: ks => decide ((pc : Int) + d = (dt : Int)) && (swOL pc ks ps.toList && (ps.toList.zip (ps.toList.drop 1)).all (fun (a, next) => a.1 < next.1))
      | _ => false)
    | .getfield i => dOk j pc ins nx 3 && (match aux with
      | [ci, k, t, p] => decide (ci < 7) && (decide (k < nF ci) && (wAt p (.fieldLink (ownO j) i (RXc ci) (TXc ci k).2.1 (TXc ci k).2.2.1) && (decide ((TXc ci k).1 = RXc ci) && decide (t = 1 ↔ fK ci k = 1))))
      | _ => false)
    | .putfield i => dOk j pc ins nx 3 && (match aux with
      | [ci, k, t, fin, p] => decide (ci < 7) && (decide (k < nF ci) && (wAt p (.fieldLink (ownO j) i (RXc ci) (TXc ci k).2.1 (TXc ci k).2.2.1) && (decide ((TXc ci k).1 = RXc ci) && (decide (t = 1 ↔ fK ci k = 1) &&
          ((match t with
            | 0 => decide (tyXc ci k = .int)
            | 1 => refKind (tyXc ci k)
            | 2 => decide (tyXc ci k = .boolean)
            | _ => false) &&
          (match fin with
            | 0 => decide ((TXc ci k).2.2.2 = false)
            | _ => decide ((TXc ci k).2.2.2 = true) && (decide ((yN j).name = "<init>") && decide ((TXc ci k).1 = ownO j))))))))
      | _ => false)
    | .newarray a => dOk j pc ins nx 2 && (match aux with
      | [k, p] => wAt p (.arrayClass (newarray.typeOf a)) && ((decide (k = 8) && decide (a = .int)) || (decide (k = 9) && decide (a = .boolean)))
      | _ => false)
    | .anewarray i => dOk j pc ins nx 3 && (match aux with
      | [p] => wAt p (.classLink (ownO j) i "OdometerRing$Odometer")
      | _ => false)
    | .new i => match aux with
      | [0, ci, p1, p2, p3] => dOk j pc ins nx 3 && (decide (ci < 7) && (wAt p1 (.classLink (ownO j) i (RXc ci)) && (wAt p2 (.instantiable (RXc ci) (nF ci)) && wAt p3 (.initialized (RXc ci)))))
      | [1, e, wd, is, ic, sx, p1, p2] => decide (decode (bC j) pc = .ok (ins, 3)) && (decide (decode (bC j) (pc + 3) = .ok (.dup, 1)) && (wAt p1 (.classLink (ownO j) i (excN e)) && (wAt p2 (.initialized (excN e)) && (decide (ownO j = "OdometerRing") && (decide ((strT[sx]?).map (fun q => (q.1, q.2.1)) = some (ownO j, is)) && (decide ((e = 0 ∧ ic = 46) ∨ (e = 1 ∧ ic = 57) ∨ (e = 2 ∧ ic = 136)) &&
          (match wd with
            | 0 => decide (decode (bC j) (pc + 4) = .ok (.ldc is, 2)) && (decide (decode (bC j) (pc + 6) = .ok (.invokespecial ic, 3)) && decide (decode (bC j) (pc + 9) = .ok (.athrow, 1)))
            | _ => decide (decode (bC j) (pc + 4) = .ok (.ldc_w is, 3)) && (decide (decode (bC j) (pc + 7) = .ok (.invokespecial ic, 3)) && decide (decode (bC j) (pc + 10) = .ok (.athrow, 1))))))))))
      | _ => false
    | .invokespecial i => dOk j pc ins nx 3 && (match aux with
      | [0, p1, p2, p3] => wAt p1 (.methodLink (ownO j) i objectInit) && (wAt p2 (.instanceMethod objectInit) && wAt p3 (.code objectInit ⟨#[0xb1]⟩ 1 none))
      | [1, jc, p1, p2, p3, p4] => cOk j jc p3 p2 && (wAt p1 (.instanceMethod (yN jc)) && (wAt p4 (.methodLink (ownO j) i (yN jc)) && (decide ((yN jc).name = "<init>") && (decide (rT jc = none) && decide (hhT jc = [])))))
      | [2, jc, p1, p2, p3, q] => cOk j jc p3 p2 && (wAt p1 (.instanceMethod (yN jc)) && (nestOk q j i (yN jc) (ownO j) && (decide ((yN jc).name = "<init>") && (decide (rT jc = none) && decide (hhT jc = [])))))
      | _ => false)
    | .invokevirtual i => dOk j pc ins nx 3 && (match aux with
      | [jc, p1, p2, p3, p4, p5] => cOk j jc p5 p4 && (wAt p1 (.methodLink (ownO j) i (yN jc)) && (wAt p2 (.instanceMethod (yN jc)) && (wAt p3 (.selects (yN jc).cls (yN jc) (yN jc)) && (decide (hhT jc = []) && (decide (kO jc < 7) && decide (RXc (kO jc) = (yN jc).cls))))))
      | _ => false)
    | .invokestatic i => dOk j pc ins nx 3 && (match aux with
      | [0, jc, p1, p2, p3, p4] => cOk j jc p4 p3 && (wAt p1 (.methodLink (ownO j) i (yN jc)) && wAt p2 (.static (yN jc)))
      | [4, jc, q, p2, p3, p4] => cOk j jc p4 p3 && (nestOk q j i (yN jc) (ownO j) && (wAt p2 (.static (yN jc)) && decide (hhT jc = [])))
      | [5, jc, p1, p2, p3, p4] => cOk j jc p4 p3 && (wAt p1 (.methodLink (ownO j) i (yN jc)) && (wAt p2 (.static (yN jc)) && decide (jc = 97)))
      | [1, p1, p2, p3, p4] => wAt p1 (.methodLink (ownO j) i Lib.Math.min.name) && (wAt p2 (.static Lib.Math.min.name) && (wAt p3 (.initialized "java/lang/Math") && wAt p4 (.code Lib.Math.min.name Lib.Math.min.code 2 (some .int))))
      | [2, p1, p2, p3, p4] => wAt p1 (.methodLink (ownO j) i Lib.Math.max.name) && (wAt p2 (.static Lib.Math.max.name) && (wAt p3 (.initialized "java/lang/Math") && wAt p4 (.code Lib.Math.max.name Lib.Math.max.code 2 (some .int))))
      | [3, p1, p2, p3, p4] => wAt p1 (.methodLink (ownO j) i arraycopyName) && (wAt p2 (.native arraycopyName) && (wAt p3 (.static arraycopyName) && wAt p4 (.initialized "java/lang/System")))
      | _ => false)
    | _ => dOk j pc ins nx 1
def okM (j : Nat) : Bool := (cdT j).all (fun q => okRow j q.1 q.2)
theorem okM_at {j pc : Nat} {r : Row} (h : okM j = true) (hr : lkp (cdT j) pc = some r) : okRow j pc r = true := by
  obtain ⟨i, hi⟩ := lkp_mem _ _ _ hr
  exact List.all_eq_true.mp h (pc, r) (List.mem_of_getElem? hi)
end
section
/-! SOUNDNESS OF ONE STEP: written by wip/whole/snd.py -/
def tysK (K : Nat → ClassId) : List (ClassId × FieldType) := [(K 8, .int), (K 9, .boolean), (K 10, .int), (K 11, .object "OdometerRing$Odometer")]
def WPd (D : va_G) (K : Nat → ClassId) (A : Nat → Prop) (ad : Nat → Nat) (w : Wd) (H : Heap) : Prop := va_P D vwCl (wsW K ad w) H ∧ va_D A (wsW K ad w) ∧ WFw w
def cvl (ad : Nat → Nat) (al : List (Nat × Value)) : List (Nat × Value) := al.map (fun q => (q.1, cv ad q.2))
theorem lv_lkp {ad : Nat → Nat} {ls : Array Slot} {nL : Nat} {al : List (Nat × Value)} {i : Nat} {v : Value} (h : lv_has ls nL (cvl ad al)) (hl : lkp al i = some v) : ls[i]? = some (.val (cv ad v)) := by
  obtain ⟨k, hk⟩ := lkp_mem _ _ _ hl
  exact lv_at h k (by simp [cvl, List.getElem?_map, hk])
theorem lkp_cvl {ad : Nat → Nat} {al : List (Nat × Value)} {i : Nat} {v : Value} (hl : lkp al i = some v) : ∃ k : Nat, (cvl ad al)[k]? = some (i, cv ad v) := by
  obtain ⟨k, hk⟩ := lkp_mem _ _ _ hl
  exact ⟨k, by simp [cvl, List.getElem?_map, hk]⟩
theorem cvl_stI (ad : Nat → Nat) (i : Nat) (v : Value) (al : List (Nat × Value)) : (i, cv ad v) :: (cvl ad al).filter (fun q => !(q.1 == i) && !(q.1 + 1 == i && q.2.category == 2)) = cvl ad (stI i v al) := by
  simp [stI, cvl, List.filter_map, Function.comp_def, cv_cat]
theorem cvl_stL (ad : Nat → Nat) (i : Nat) (v : Value) (al : List (Nat × Value)) : (i, cv ad v) :: (cvl ad al).filter (fun q => !(q.1 == i) && (!(q.1 == i + 1) && !(q.1 + 1 == i && q.2.category == 2))) = cvl ad (stL i v al) := by
  simp [stL, cvl, List.filter_map, Function.comp_def, cv_cat]
theorem catS_map (ad : Nat → Nat) : ∀ l : List Value, ((l.map (cv ad)).map fun v => v.category).sum = catS l
  | [] => rfl
  | v :: t => by
    have := catS_map ad t
    simp only [List.map_cons, List.sum_cons, catS, cv_cat]
    rw [this]
theorem wI_wf {w : Wd} {a : Nat} {g : Nat → Int32} (h : WFw w) : WFw (wI w a g) := h
theorem wJ_wf {w : Wd} {a : Nat} {g : Nat → Int64} (h : WFw w) : WFw (wJ w a g) := h
theorem wR_wf {w : Wd} {a k x : Nat} (h : WFw w) (hx : x ≤ w.1.1) : WFw (wR w a (upA (w.1.2.2.2 a) k x)) := by
  refine ⟨h.1, fun i k' => ?_, h.2.2⟩
  show upA w.1.2.2.2 a (upA (w.1.2.2.2 a) k x) i k' ≤ w.1.1
  by_cases hi : i = a
  · subst hi
    rw [upA_s]
    by_cases hk : k' = k
    · subst hk; rw [upA_s]; exact hx
    · rw [upA_n _ _ hk]; exact h.2.1 _ _
  · rw [upA_n _ _ hi]; exact h.2.1 _ _
/-- what is wanted at a frame -/
def MW (p : Program) (l : Launch) (e : Env) (R : Room) (s : State) (m : MethodId) (args : Array Value) (below : List Frame) (meth : Method) (c : Code) (D : va_G) (K : Nat → ClassId) (A : Nat → Prop) (ad0 : Nat → Nat) (n0 nL : Nat) (Sx : (Nat → Nat) → Prop) (Qm : State → Prop) (f : Fr) : Prop :=
  ∀ (ad : Nat → Nat) (H : Heap) (locs : List Loc) (ls : Array Slot), WPd D K A ad f.2.2.2.1 H → va_S A s.heap H locs → (∀ i, i ≤ n0 → ad i = ad0 i) → n0 ≤ f.2.2.2.1.1.1 → Sx ad → lv_has ls nL (cvl ad f.2.1) → W p l e R s m args below meth c H locs f.2.2.2.2.1 f.2.2.2.2.2 Qm (F0 m f.1 ls (f.2.2.1.map (cv ad)))
theorem swT {pc : Nat} {x : Int32} {d : Nat} {f : Nat → Prop} : ∀ (ks : List Nat) (lo : Int) (os : List Int), swOK pc lo ks os = true → 0 ≤ lo → lo + os.length < 2147483648 → swC x ks d f →
    ((x.toInt < lo ∨ lo + os.length ≤ x.toInt) → f d) ∧ (∀ (i : Nat) (o : Int), os[i]? = some o → x.toInt = lo + i → ∃ t : Nat, (pc : Int) + o = (t : Int) ∧ f t)
  | [], lo, [], _, _, _, h => ⟨fun _ => h, fun i o ho => by simp at ho⟩
  | k :: t :: r, lo, o :: os, hk, h0, hl, h => by
    simp only [swOK, Bool.and_eq_true, decide_eq_true_eq] at hk
    obtain ⟨h1, h2, h3⟩ := hk
    simp only [List.length_cons] at hl ⊢
    have hb : k < 2147483648 := by omega
    have hkx : x = Int32.ofNat k ↔ x.toInt = lo := by
      have e : (Int32.ofNat k).toInt = (k : Int) := Int32.toInt_ofNat_of_lt hb
      constructor
      · intro q; rw [q, e]; exact h1
      · intro q; exact Int32.toInt_inj.mp (by rw [e, q]; exact h1.symm)
    by_cases hx : x = Int32.ofNat k
    · refine ⟨fun q => ?_, fun i o' ho hi => ?_⟩
      · have := hkx.mp hx; omega
      · have := hkx.mp hx
        have hi0 : i = 0 := by omega
        subst hi0
        cases ho
        exact ⟨t, h2, h.1 hx⟩
    · have ih := swT r (lo + 1) os h3 (by omega) (by omega) (h.2 hx)
      have hne : ¬ x.toInt = lo := fun q => hx (hkx.mpr q)
      refine ⟨fun q => ih.1 (by omega), fun i o' ho hi => ?_⟩
      cases i with
      | zero => exact absurd (by omega) hne
      | succ i => exact ih.2 i o' ho (by omega)
  | [], _, _ :: _, hk, _, _, _ => by simp [swOK] at hk
  | [_], _, _, hk, _, _, _ => by simp [swOK] at hk
  | _ :: _ :: _, _, [], hk, _, _, _ => by simp [swOK] at hk
theorem swL {pc : Nat} {x : Int32} {d : Nat} {dd : Int} {f : Nat → Prop} (hd : (pc : Int) + dd = (d : Int)) : ∀ (ks : List Nat) (os : List (Int × Int)), swOL pc ks os = true → swC x ks d f → ∃ t : Nat, (pc : Int) + Op.lookupswitch.offset os dd x.toInt = (t : Int) ∧ f t
  | [], [], _, h => ⟨d, hd, h⟩
  | k :: t :: r, (a, o) :: os, hk, h => by
    simp only [swOL, Bool.and_eq_true, decide_eq_true_eq] at hk
    obtain ⟨h1, hb, h2, h3⟩ := hk
    have e : (Int32.ofNat k).toInt = (k : Int) := Int32.toInt_ofNat_of_lt hb
    rw [Op.lookupswitch.offset_cons]
    by_cases hx : x = Int32.ofNat k
    · rw [if_pos (by rw [hx, e]; exact h1.symm)]
      exact ⟨t, h2, h.1 hx⟩
    · rw [if_neg (fun q => hx (Int32.toInt_inj.mp (by rw [e, ← q]; exact h1.symm)))]
      exact swL hd r os h3 (h.2 hx)
  | [], _ :: _, hk, _ => by simp [swOL] at hk
  | [_], _, hk, _ => by simp [swOL] at hk
  | _ :: _ :: _, [], hk, _ => by simp [swOL] at hk
end
section
/-! SOUNDNESS OF ONE STEP: written by wip/whole/snd.py -/
def decW : List Cond := [.declares (Bundle.initS "java/lang/RuntimeException"), .declares (Bundle.initS "java/lang/Exception"), .declares (Bundle.initS Bundle.tN)]
/-- what the method's own state says beside its world: calls between nest mates, the texts, arrays of Odometers, which exceptions are which -/
def EnvT (U : State) : Prop := (∀ w ∈ nestW, va_Nw w U) ∧ (∀ q ∈ strT, ∃ a : Nat, vk_R q.1 q.2.1 q.2.2 a U) ∧ va_AO "OdometerRing$Odometer" U ∧ (∀ k, k < 3 → va_Nw (.castable (excN k) (excN k)) U) ∧ (∀ k k', k < 3 → k' < 3 → k ≠ k' → va_Nc (excN k) (excN k') U) ∧ (∀ w ∈ decW, va_Nw w U)
def EnvZ (A : Nat → Prop) (U : State) (H : Heap) : Prop := vx_Zq Bundle.tN "UNASSIGNED_STACK" Bundle.steD A U H ∧ vx_Zq Bundle.tN "SUPPRESSED_SENTINEL" Bundle.listD A U H
/-- cells and slots at depth d -/
def rmO (d j : Nat) : Room := { frames := d, cells := (mjT j).1, slots := (mjT j).2, locals := 34 * d }
/-- behind a method: the world that it leaves, where its cells lie -/
def BW (D : va_G) (K : Nat → ClassId) (A : Nat → Prop) (ad : Nat → Nat) (w : Wd) (u : Wd × (Nat → Nat)) (t : State) : Prop := WPd D K A u.2 u.1 t.heap ∧ (∀ i, i ≤ w.1.1 ∨ u.1.1.1 < i → u.2 i = ad i) ∧ w.1.1 ≤ u.1.1.1
def QcO (rt : Option FieldType) (D : va_G) (K : Nat → ClassId) (A : Nat → Prop) (ad : Nat → Nat) (w : Wd) (P : Res → Wd → Prop) : Array Value → State → Outcome → State → Prop := match rt with
  | none => va_Qv (fun u : Wd × (Nat → Nat) => P (.inl none) u.1) (BW D K A ad w) A
  | some .long => va_Ql (fun (r : Int64) (u : Wd × (Nat → Nat)) => P (.inl (some (.long r))) u.1) (BW D K A ad w) A
  | some _ => va_Qi (fun (r : Int32) (u : Wd × (Nat → Nat)) => P (.inl (some (.int r))) u.1) (BW D K A ad w) A
def XcO (D : va_G) (K : Nat → ClassId) (A : Nat → Prop) (ad : Nat → Nat) (w : Wd) (P : Res → Wd → Prop) : String → State → State → Prop := vx_X (fun _ : Wd × (Nat → Nat) => True) (fun E u t => P (.inr E) u.1 ∧ BW D K A ad w u t) A
def PcO (D : va_G) (K : Nat → ClassId) (ad : Nat → Nat) (sz : Nat) (as : List Value) (w : Wd) : Array Value → State → Prop := va_Pc (as.map (cv ad)) (fun U => U.heap.size = sz ∧ va_P D vwCl (wsW K ad w) U.heap ∧ va_D (fun _ => True) (wsW K ad w) ∧ WFw w ∧ va_K D vwCl (tysK K) U ∧ EnvT U ∧ EnvZ (va_A (wsW K ad w) sz) U U.heap)
/-- method j's contract for these arguments in this world -/
def Ctr (l : Launch) (d j : Nat) (as : List Value) (w : Wd) (P : Res → Wd → Prop) : Prop :=
  ∀ (D : va_G) (K : Nat → ClassId) (ad : Nat → Nat) (sz : Nat), vx_Met l (yN j) (hdW j :: GG) (rmO d j) (PcO D K ad sz as w) (QcO (rT j) D K (va_A (wsW K ad w) sz) ad w P) (XcO D K (va_A (wsW K ad w) sz) ad w P) (mjT j).1 (mjT j).2 (va_A (wsW K ad w) sz)
theorem brE_s {o : ClassFile.Cond} {x y : Int32} {T F : Prop} {G : Prop} (h : brE o x y T F) (k : ∀ (P : Prop), (P → T) → (¬ P → F) → True → G) : G := by
  cases o <;> exact k _ h.1 (fun q => h.2 (by first | exact q | exact Classical.not_not.mp q)) trivial
theorem clsF : ∀ ci, ci < 7 → vwCl[ci]? = some (RXc ci, TXc ci, nF ci) ∧ (∀ w ∈ u_ws (RXc ci) (TXc ci) (nF ci), w ∈ GG) ∧ (∀ k, k < nF ci → parseFieldDescriptor (TXc ci k).2.2.1 = some (tyXc ci k)) ∧ (∀ a, a < nF ci → ∀ b, b < nF ci → a ≠ b → (TXc ci a).2.1 ≠ (TXc ci b).2.1) := by
  have key : ∀ {C : String} {T : u_T} {N : Nat}, ((u_ws C T N).all (fun w => decide (w ∈ lw_tbl) && goodWord w)) = true → ∀ w ∈ u_ws C T N, w ∈ GG := fun h w hw => by
    have := List.all_eq_true.mp h w hw
    simp only [Bool.and_eq_true, decide_eq_true_eq] at this
    exact List.mem_filter.mpr this
  intro ci h
  match ci, h with
  | 0, _ => exact ⟨rfl, key (by decide +kernel), tyX0_ok, nmX0⟩
  | 1, _ => exact ⟨rfl, key (by decide +kernel), tyX1_ok, nmX1⟩
  | 2, _ => exact ⟨rfl, key (by decide +kernel), tyX2_ok, nmX2⟩
  | 3, _ => exact ⟨rfl, key (by decide +kernel), tyX3_ok, nmX3⟩
  | 4, _ => exact ⟨rfl, key (by decide +kernel), tyX4_ok, nmX4⟩
  | 5, _ => exact ⟨rfl, key (by decide +kernel), tyX5_ok, nmX5⟩
  | 6, _ => exact ⟨rfl, key (by decide +kernel), tyX6_ok, nmX6⟩
end
section
def isS : Instr → Bool
  | .iconst .. => true
  | .bipush .. => true
  | .sipush .. => true
  | .lconst .. => true
  | .ldc .. => true
  | .ldc_w .. => true
  | .ldc2_w .. => true
  | .iload_n .. => true
  | .iload .. => true
  | .lload_n .. => true
  | .lload .. => true
  | .aload_n .. => true
  | .aload .. => true
  | .istore_n .. => true
  | .istore .. => true
  | .lstore_n .. => true
  | .lstore .. => true
  | .astore_n .. => true
  | .astore .. => true
  | .iinc .. => true
  | .iadd .. => true
  | .isub .. => true
  | .imul .. => true
  | .ishr .. => true
  | .iand .. => true
  | .idiv .. => true
  | .irem .. => true
  | .ladd .. => true
  | .lsub .. => true
  | .lmul .. => true
  | .land .. => true
  | .lor .. => true
  | .ldiv .. => true
  | .lrem .. => true
  | .lushr .. => true
  | .lshl .. => true
  | .i2l .. => true
  | .l2i .. => true
  | .lcmp .. => true
  | .dup .. => true
  | .dup2 .. => true
  | .pop .. => true
  | .ifCond .. => true
  | .if_icmp .. => true
  | .goto .. => true
  | .ifnull .. => true
  | .tableswitch .. => true
  | .lookupswitch .. => true
  | _ => false
set_option maxHeartbeats 4000000 in
theorem so_simple {p : Program} {l : Launch} {e : Env} {R : Room} {s : State} {m : MethodId} {args : Array Value} {below : List Frame} {meth : Method} {c : Code} {D : va_G} {K : Nat → ClassId} {A : Nat → Prop} {ad0 : Nat → Nat} {n0 nL : Nat} {Sx : (Nat → Nat) → Prop} {Qm : State → Prop} {j : Nat}
  (hx : p.tables.exec = Jvm.exec) (hb : c.code = bC j) (hml : c.maxLocals = nL) (hnL : nL = mL j) (hown : s.vm.findClass (ownO j) = some m.cls) (hts : ∀ w ∈ GG, w.before args s = true)
  {C : Cal} {SX : Option (Nat × (Nat → Int32))} {mxc mxs : Nat} {hn : Nat → String → Option Nat} {Rt : Option Value → Wd → Nat → Nat → Prop} {Th : String → Wd → Nat → Nat → Prop} {ins : Instr} {nx : Nat} {aux : List Nat} {kc : Int32} {kl : Int64} {pc : Nat} {ls : List (Nat × Value)} {st : List Value} {w : Wd} {nc ns : Nat}
  (hs : isS ins = true) (hrow : okRow j pc (ins, nx, aux, kc, kl) = true) (h : stepI C mjT kO nA SX mxc mxs hn Rt Th ins nx aux kc kl pc ls st w nc ns (MW p l e R s m args below meth c D K A ad0 n0 nL Sx Qm)) : MW p l e R s m args below meth c D K A ad0 n0 nL Sx Qm (pc, ls, st, w, nc, ns) := by
  cases ins with
  | iconst n => 
    have h : MW p l e R s m args below meth c D K A ad0 n0 nL Sx Qm (nx, ls, .int kc :: st, w, nc, ns) := h
    simp only [okRow, dOk, Bool.and_eq_true, decide_eq_true_eq] at hrow
    obtain ⟨⟨hd, rfl⟩, hk⟩ := hrow
    intro ad H locs lsx hW hS hag hn0 hsx hl
    obtain ⟨hP, hD, hwf⟩ := hW
    exact lv_iconst hx hb hd hk (h ad H locs lsx ⟨hP, hD, hwf⟩ hS hag hn0 hsx hl)
  | bipush n => 
    have h : MW p l e R s m args below meth c D K A ad0 n0 nL Sx Qm (nx, ls, .int kc :: st, w, nc, ns) := h
    simp only [okRow, dOk, Bool.and_eq_true, decide_eq_true_eq] at hrow
    obtain ⟨⟨hd, rfl⟩, hk⟩ := hrow
    intro ad H locs lsx hW hS hag hn0 hsx hl
    obtain ⟨hP, hD, hwf⟩ := hW
    exact lv_bipush hx hb hd hk (h ad H locs lsx ⟨hP, hD, hwf⟩ hS hag hn0 hsx hl)
  | sipush n => 
    have h : MW p l e R s m args below meth c D K A ad0 n0 nL Sx Qm (nx, ls, .int kc :: st, w, nc, ns) := h
    simp only [okRow, dOk, Bool.and_eq_true, decide_eq_true_eq] at hrow
    obtain ⟨⟨hd, rfl⟩, hk⟩ := hrow
    intro ad H locs lsx hW hS hag hn0 hsx hl
    obtain ⟨hP, hD, hwf⟩ := hW
    exact lv_sipush hx hb hd hk (h ad H locs lsx ⟨hP, hD, hwf⟩ hS hag hn0 hsx hl)
  | lconst n => 
    have h : MW p l e R s m args below meth c D K A ad0 n0 nL Sx Qm (nx, ls, .long kl :: st, w, nc, ns) := h
    simp only [okRow, dOk, Bool.and_eq_true, decide_eq_true_eq] at hrow
    obtain ⟨⟨hd, rfl⟩, hk⟩ := hrow
    intro ad H locs lsx hW hS hag hn0 hsx hl
    obtain ⟨hP, hD, hwf⟩ := hW
    exact lv_lconst hx hb hd hk (h ad H locs lsx ⟨hP, hD, hwf⟩ hS hag hn0 hsx hl)
  | ldc n => 
    have h : MW p l e R s m args below meth c D K A ad0 n0 nL Sx Qm (nx, ls, .int kc :: st, w, nc, ns) := h
    simp only [okRow, dOk, Bool.and_eq_true, decide_eq_true_eq] at hrow
    obtain ⟨⟨hd, rfl⟩, hk⟩ := hrow
    split at hk
    · intro ad H locs lsx hW hS hag hn0 hsx hl
      obtain ⟨hP, hD, hwf⟩ := hW
      exact lv_ldc hx hb hown (hts _ (wAt_in hk)) hd (h ad H locs lsx ⟨hP, hD, hwf⟩ hS hag hn0 hsx hl)
    · exact absurd hk (by simp)
  | ldc_w n => 
    have h : MW p l e R s m args below meth c D K A ad0 n0 nL Sx Qm (nx, ls, .int kc :: st, w, nc, ns) := h
    simp only [okRow, dOk, Bool.and_eq_true, decide_eq_true_eq] at hrow
    obtain ⟨⟨hd, rfl⟩, hk⟩ := hrow
    split at hk
    · intro ad H locs lsx hW hS hag hn0 hsx hl
      obtain ⟨hP, hD, hwf⟩ := hW
      exact lv_ldcw hx hb hown (hts _ (wAt_in hk)) hd (h ad H locs lsx ⟨hP, hD, hwf⟩ hS hag hn0 hsx hl)
    · exact absurd hk (by simp)
  | ldc2_w n => 
    have h : MW p l e R s m args below meth c D K A ad0 n0 nL Sx Qm (nx, ls, .long kl :: st, w, nc, ns) := h
    simp only [okRow, dOk, Bool.and_eq_true, decide_eq_true_eq] at hrow
    obtain ⟨⟨hd, rfl⟩, hk⟩ := hrow
    split at hk
    · intro ad H locs lsx hW hS hag hn0 hsx hl
      obtain ⟨hP, hD, hwf⟩ := hW
      exact lv_ldc2 hx hb hown (hts _ (wAt_in hk)) hd (h ad H locs lsx ⟨hP, hD, hwf⟩ hS hag hn0 hsx hl)
    · exact absurd hk (by simp)
  | iload_n k => 
    obtain ⟨i, x, rfl, hlk, h9⟩ := gI_s (F := fun _ x => MW p l e R s m args below meth c D K A ad0 n0 nL Sx Qm (nx, ls, .int x :: st, w, nc, ns)) h
    simp only [okRow, dOk, Bool.and_eq_true, decide_eq_true_eq] at hrow
    obtain ⟨⟨hd, rfl⟩, hk⟩ := hrow
    intro ad H locs lsx hW hS hag hn0 hsx hl
    obtain ⟨hP, hD, hwf⟩ := hW
    exact lv_iload_n hx hb hd (List.cons.inj hk).1.symm (lv_lkp hl hlk) (h9 ad H locs lsx ⟨hP, hD, hwf⟩ hS hag hn0 hsx hl)
  | iload k => 
    obtain ⟨i, x, rfl, hlk, h9⟩ := gI_s (F := fun _ x => MW p l e R s m args below meth c D K A ad0 n0 nL Sx Qm (nx, ls, .int x :: st, w, nc, ns)) h
    simp only [okRow, dOk, Bool.and_eq_true, decide_eq_true_eq] at hrow
    obtain ⟨⟨hd, rfl⟩, hk⟩ := hrow
    have hk := (List.cons.inj hk).1
    subst hk
    intro ad H locs lsx hW hS hag hn0 hsx hl
    obtain ⟨hP, hD, hwf⟩ := hW
    exact lv_iload hx hb hd (lv_lkp hl hlk) (h9 ad H locs lsx ⟨hP, hD, hwf⟩ hS hag hn0 hsx hl)
  | lload_n k => 
    obtain ⟨i, x, rfl, hlk, h9⟩ := gL_s (F := fun _ x => MW p l e R s m args below meth c D K A ad0 n0 nL Sx Qm (nx, ls, .long x :: st, w, nc, ns)) h
    simp only [okRow, dOk, Bool.and_eq_true, decide_eq_true_eq] at hrow
    obtain ⟨⟨hd, rfl⟩, hk⟩ := hrow
    intro ad H locs lsx hW hS hag hn0 hsx hl
    obtain ⟨hP, hD, hwf⟩ := hW
    exact lv_lload_n hx hb hd (List.cons.inj hk).1.symm (lv_lkp hl hlk) (h9 ad H locs lsx ⟨hP, hD, hwf⟩ hS hag hn0 hsx hl)
  | lload k => 
    obtain ⟨i, x, rfl, hlk, h9⟩ := gL_s (F := fun _ x => MW p l e R s m args below meth c D K A ad0 n0 nL Sx Qm (nx, ls, .long x :: st, w, nc, ns)) h
    simp only [okRow, dOk, Bool.and_eq_true, decide_eq_true_eq] at hrow
    obtain ⟨⟨hd, rfl⟩, hk⟩ := hrow
    have hk := (List.cons.inj hk).1
    subst hk
    intro ad H locs lsx hW hS hag hn0 hsx hl
    obtain ⟨hP, hD, hwf⟩ := hW
    exact lv_lload hx hb hd (lv_lkp hl hlk) (h9 ad H locs lsx ⟨hP, hD, hwf⟩ hS hag hn0 hsx hl)
  | aload_n k => 
    obtain ⟨i, x, rfl, hlk, h9⟩ := gR_s (F := fun _ x => MW p l e R s m args below meth c D K A ad0 n0 nL Sx Qm (nx, ls, .ref x :: st, w, nc, ns)) h
    simp only [okRow, dOk, Bool.and_eq_true, decide_eq_true_eq] at hrow
    obtain ⟨⟨hd, rfl⟩, hk⟩ := hrow
    intro ad H locs lsx hW hS hag hn0 hsx hl
    obtain ⟨hP, hD, hwf⟩ := hW
    have h1 := h9 ad H locs lsx ⟨hP, hD, hwf⟩ hS hag hn0 hsx hl
    have h2 := lv_lkp hl hlk
    cases x with
    | zero => exact lv_aload_nN hx hb hd (List.cons.inj hk).1.symm h2 h1
    | succ x => exact lv_aload_n hx hb hd (List.cons.inj hk).1.symm h2 h1
  | aload k => 
    obtain ⟨i, x, rfl, hlk, h9⟩ := gR_s (F := fun _ x => MW p l e R s m args below meth c D K A ad0 n0 nL Sx Qm (nx, ls, .ref x :: st, w, nc, ns)) h
    simp only [okRow, dOk, Bool.and_eq_true, decide_eq_true_eq] at hrow
    obtain ⟨⟨hd, rfl⟩, hk⟩ := hrow
    have hk := (List.cons.inj hk).1
    subst hk
    intro ad H locs lsx hW hS hag hn0 hsx hl
    obtain ⟨hP, hD, hwf⟩ := hW
    have h1 := h9 ad H locs lsx ⟨hP, hD, hwf⟩ hS hag hn0 hsx hl
    have h2 := lv_lkp hl hlk
    cases x with
    | zero => exact lv_aloadN hx hb hd h2 h1
    | succ x => exact lv_aload hx hb hd h2 h1
  | istore_n k => 
    obtain ⟨i, rfl, h⟩ := a1_s (F := fun i => pI st (fun x r => MW p l e R s m args below meth c D K A ad0 n0 nL Sx Qm (nx, stI i (.int x) ls, r, w, nc, ns))) h
    obtain ⟨x, r, rfl, h⟩ := pI_s h
    simp only [okRow, dOk, Bool.and_eq_true, decide_eq_true_eq] at hrow
    obtain ⟨⟨hd, rfl⟩, hk, hlt⟩ := hrow
    have hk := (List.cons.inj hk).1
    subst hk
    intro ad H locs lsx hW hS hag hn0 hsx hl
    obtain ⟨hP, hD, hwf⟩ := hW
    exact lv_istore_n hx hb hd rfl hl (by rw [hnL]; exact hlt) (cvl_stI ad _ (.int x) ls) (fun lsy hly => h ad H locs lsy ⟨hP, hD, hwf⟩ hS hag hn0 hsx hly)
  | istore k => 
    obtain ⟨i, rfl, h⟩ := a1_s (F := fun i => pI st (fun x r => MW p l e R s m args below meth c D K A ad0 n0 nL Sx Qm (nx, stI i (.int x) ls, r, w, nc, ns))) h
    obtain ⟨x, r, rfl, h⟩ := pI_s h
    simp only [okRow, dOk, Bool.and_eq_true, decide_eq_true_eq] at hrow
    obtain ⟨⟨hd, rfl⟩, hk, hlt⟩ := hrow
    have hk := (List.cons.inj hk).1
    subst hk
    intro ad H locs lsx hW hS hag hn0 hsx hl
    obtain ⟨hP, hD, hwf⟩ := hW
    exact lv_istore hx hb hd hl (by rw [hnL]; exact hlt) (cvl_stI ad _ (.int x) ls) (fun lsy hly => h ad H locs lsy ⟨hP, hD, hwf⟩ hS hag hn0 hsx hly)
  | lstore_n k => 
    obtain ⟨i, rfl, h⟩ := a1_s (F := fun i => pL st (fun x r => MW p l e R s m args below meth c D K A ad0 n0 nL Sx Qm (nx, stL i (.long x) ls, r, w, nc, ns))) h
    obtain ⟨x, r, rfl, h⟩ := pL_s h
    simp only [okRow, dOk, Bool.and_eq_true, decide_eq_true_eq] at hrow
    obtain ⟨⟨hd, rfl⟩, hk, hlt⟩ := hrow
    have hk := (List.cons.inj hk).1
    subst hk
    intro ad H locs lsx hW hS hag hn0 hsx hl
    obtain ⟨hP, hD, hwf⟩ := hW
    exact lv_lstore_n hx hb hd rfl hl (by rw [hnL]; exact hlt) (cvl_stL ad _ (.long x) ls) (fun lsy hly => h ad H locs lsy ⟨hP, hD, hwf⟩ hS hag hn0 hsx hly)
  | lstore k => 
    obtain ⟨i, rfl, h⟩ := a1_s (F := fun i => pL st (fun x r => MW p l e R s m args below meth c D K A ad0 n0 nL Sx Qm (nx, stL i (.long x) ls, r, w, nc, ns))) h
    obtain ⟨x, r, rfl, h⟩ := pL_s h
    simp only [okRow, dOk, Bool.and_eq_true, decide_eq_true_eq] at hrow
    obtain ⟨⟨hd, rfl⟩, hk, hlt⟩ := hrow
    have hk := (List.cons.inj hk).1
    subst hk
    intro ad H locs lsx hW hS hag hn0 hsx hl
    obtain ⟨hP, hD, hwf⟩ := hW
    exact lv_lstore hx hb hd hl (by rw [hnL]; exact hlt) (cvl_stL ad _ (.long x) ls) (fun lsy hly => h ad H locs lsy ⟨hP, hD, hwf⟩ hS hag hn0 hsx hly)
  | astore_n k => 
    obtain ⟨i, rfl, h⟩ := a1_s (F := fun i => pR st (fun x r => MW p l e R s m args below meth c D K A ad0 n0 nL Sx Qm (nx, stI i (.ref x) ls, r, w, nc, ns))) h
    obtain ⟨x, r, rfl, h⟩ := pR_s h
    simp only [okRow, dOk, Bool.and_eq_true, decide_eq_true_eq] at hrow
    obtain ⟨⟨hd, rfl⟩, hk, hlt⟩ := hrow
    have hk := (List.cons.inj hk).1
    subst hk
    intro ad H locs lsx hW hS hag hn0 hsx hl
    obtain ⟨hP, hD, hwf⟩ := hW
    cases x with
    | zero => exact lv_astore_nN hx hb hd rfl hl (by rw [hnL]; exact hlt) (cvl_stI ad _ (.ref 0) ls) (fun lsy hly => h ad H locs lsy ⟨hP, hD, hwf⟩ hS hag hn0 hsx hly)
    | succ x => exact lv_astore_n hx hb hd rfl hl (by rw [hnL]; exact hlt) (cvl_stI ad _ (.ref (x + 1)) ls) (fun lsy hly => h ad H locs lsy ⟨hP, hD, hwf⟩ hS hag hn0 hsx hly)
  | astore k => 
    obtain ⟨i, rfl, h⟩ := a1_s (F := fun i => pR st (fun x r => MW p l e R s m args below meth c D K A ad0 n0 nL Sx Qm (nx, stI i (.ref x) ls, r, w, nc, ns))) h
    obtain ⟨x, r, rfl, h⟩ := pR_s h
    simp only [okRow, dOk, Bool.and_eq_true, decide_eq_true_eq] at hrow
    obtain ⟨⟨hd, rfl⟩, hk, hlt⟩ := hrow
    have hk := (List.cons.inj hk).1
    subst hk
    intro ad H locs lsx hW hS hag hn0 hsx hl
    obtain ⟨hP, hD, hwf⟩ := hW
    cases x with
    | zero => exact lv_astoreN hx hb hd hl (by rw [hnL]; exact hlt) (cvl_stI ad _ (.ref 0) ls) (fun lsy hly => h ad H locs lsy ⟨hP, hD, hwf⟩ hS hag hn0 hsx hly)
    | succ x => exact lv_astore hx hb hd hl (by rw [hnL]; exact hlt) (cvl_stI ad _ (.ref (x + 1)) ls) (fun lsy hly => h ad H locs lsy ⟨hP, hD, hwf⟩ hS hag hn0 hsx hly)
  | iinc i0 n => 
    obtain ⟨i, x, rfl, hlk, h9⟩ := gI_s (F := fun i x => MW p l e R s m args below meth c D K A ad0 n0 nL Sx Qm (nx, stI i (.int (x + kc)) ls, st, w, nc, ns)) h
    simp only [okRow, dOk, Bool.and_eq_true, decide_eq_true_eq] at hrow
    obtain ⟨⟨hd, rfl⟩, hk, hkc, hlt⟩ := hrow
    have hk := (List.cons.inj hk).1
    subst hk
    intro ad H locs lsx hW hS hag hn0 hsx hl
    obtain ⟨hP, hD, hwf⟩ := hW
    obtain ⟨q, hq⟩ := lkp_cvl (ad := ad) hlk
    exact lv_iinc hx hb hd hl hq (by rw [hkc]) (by rw [hnL]; exact hlt) (cvl_stI ad _ (.int (x + kc)) ls) (fun lsy hly => h9 ad H locs lsy ⟨hP, hD, hwf⟩ hS hag hn0 hsx hly)
  | iadd  => 
    obtain ⟨y, r1, rfl, h⟩ := pI_s (F := fun y r1 => pI r1 (fun x r => MW p l e R s m args below meth c D K A ad0 n0 nL Sx Qm (nx, ls, .int (x + y) :: r, w, nc, ns))) h
    obtain ⟨x, r, rfl, h⟩ := pI_s h
    simp only [okRow, dOk, Bool.and_eq_true, decide_eq_true_eq] at hrow
    obtain ⟨hd, rfl⟩ := hrow
    intro ad H locs lsx hW hS hag hn0 hsx hl
    obtain ⟨hP, hD, hwf⟩ := hW
    exact lv_iadd hx hb hd (h ad H locs lsx ⟨hP, hD, hwf⟩ hS hag hn0 hsx hl)
  | isub  => 
    obtain ⟨y, r1, rfl, h⟩ := pI_s (F := fun y r1 => pI r1 (fun x r => MW p l e R s m args below meth c D K A ad0 n0 nL Sx Qm (nx, ls, .int (x - y) :: r, w, nc, ns))) h
    obtain ⟨x, r, rfl, h⟩ := pI_s h
    simp only [okRow, dOk, Bool.and_eq_true, decide_eq_true_eq] at hrow
    obtain ⟨hd, rfl⟩ := hrow
    intro ad H locs lsx hW hS hag hn0 hsx hl
    obtain ⟨hP, hD, hwf⟩ := hW
    exact lv_isub hx hb hd (h ad H locs lsx ⟨hP, hD, hwf⟩ hS hag hn0 hsx hl)
  | imul  => 
    obtain ⟨y, r1, rfl, h⟩ := pI_s (F := fun y r1 => pI r1 (fun x r => MW p l e R s m args below meth c D K A ad0 n0 nL Sx Qm (nx, ls, .int (x * y) :: r, w, nc, ns))) h
    obtain ⟨x, r, rfl, h⟩ := pI_s h
    simp only [okRow, dOk, Bool.and_eq_true, decide_eq_true_eq] at hrow
    obtain ⟨hd, rfl⟩ := hrow
    intro ad H locs lsx hW hS hag hn0 hsx hl
    obtain ⟨hP, hD, hwf⟩ := hW
    exact lv_imul hx hb hd (h ad H locs lsx ⟨hP, hD, hwf⟩ hS hag hn0 hsx hl)
  | ishr  => 
    obtain ⟨y, r1, rfl, h⟩ := pI_s (F := fun y r1 => pI r1 (fun x r => MW p l e R s m args below meth c D K A ad0 n0 nL Sx Qm (nx, ls, .int (x >>> (y &&& 31)) :: r, w, nc, ns))) h
    obtain ⟨x, r, rfl, h⟩ := pI_s h
    simp only [okRow, dOk, Bool.and_eq_true, decide_eq_true_eq] at hrow
    obtain ⟨hd, rfl⟩ := hrow
    intro ad H locs lsx hW hS hag hn0 hsx hl
    obtain ⟨hP, hD, hwf⟩ := hW
    exact lv_ishr hx hb hd (h ad H locs lsx ⟨hP, hD, hwf⟩ hS hag hn0 hsx hl)
  | iand  => 
    obtain ⟨y, r1, rfl, h⟩ := pI_s (F := fun y r1 => pI r1 (fun x r => MW p l e R s m args below meth c D K A ad0 n0 nL Sx Qm (nx, ls, .int (x &&& y) :: r, w, nc, ns))) h
    obtain ⟨x, r, rfl, h⟩ := pI_s h
    simp only [okRow, dOk, Bool.and_eq_true, decide_eq_true_eq] at hrow
    obtain ⟨hd, rfl⟩ := hrow
    intro ad H locs lsx hW hS hag hn0 hsx hl
    obtain ⟨hP, hD, hwf⟩ := hW
    exact lv_iand hx hb hd (h ad H locs lsx ⟨hP, hD, hwf⟩ hS hag hn0 hsx hl)
  | idiv  => 
    obtain ⟨y, r1, rfl, h⟩ := pI_s (F := fun y r1 => pI r1 (fun x r => (¬ y = 0) ∧ MW p l e R s m args below meth c D K A ad0 n0 nL Sx Qm (nx, ls, .int (x / y) :: r, w, nc, ns))) h
    obtain ⟨x, r, rfl, h⟩ := pI_s h
    obtain ⟨hne, h⟩ := h
    simp only [okRow, dOk, Bool.and_eq_true, decide_eq_true_eq] at hrow
    obtain ⟨hd, rfl⟩ := hrow
    intro ad H locs lsx hW hS hag hn0 hsx hl
    obtain ⟨hP, hD, hwf⟩ := hW
    exact lv_idiv hx hb hd hne (h ad H locs lsx ⟨hP, hD, hwf⟩ hS hag hn0 hsx hl)
  | irem  => 
    obtain ⟨y, r1, rfl, h⟩ := pI_s (F := fun y r1 => pI r1 (fun x r => (¬ y = 0) ∧ MW p l e R s m args below meth c D K A ad0 n0 nL Sx Qm (nx, ls, .int (x - x / y * y) :: r, w, nc, ns))) h
    obtain ⟨x, r, rfl, h⟩ := pI_s h
    obtain ⟨hne, h⟩ := h
    simp only [okRow, dOk, Bool.and_eq_true, decide_eq_true_eq] at hrow
    obtain ⟨hd, rfl⟩ := hrow
    intro ad H locs lsx hW hS hag hn0 hsx hl
    obtain ⟨hP, hD, hwf⟩ := hW
    exact lv_irem hx hb hd hne (h ad H locs lsx ⟨hP, hD, hwf⟩ hS hag hn0 hsx hl)
  | ladd  => 
    obtain ⟨y, r1, rfl, h⟩ := pL_s (F := fun y r1 => pL r1 (fun x r => MW p l e R s m args below meth c D K A ad0 n0 nL Sx Qm (nx, ls, .long (x + y) :: r, w, nc, ns))) h
    obtain ⟨x, r, rfl, h⟩ := pL_s h
    simp only [okRow, dOk, Bool.and_eq_true, decide_eq_true_eq] at hrow
    obtain ⟨hd, rfl⟩ := hrow
    intro ad H locs lsx hW hS hag hn0 hsx hl
    obtain ⟨hP, hD, hwf⟩ := hW
    exact lv_ladd hx hb hd (h ad H locs lsx ⟨hP, hD, hwf⟩ hS hag hn0 hsx hl)
  | lsub  => 
    obtain ⟨y, r1, rfl, h⟩ := pL_s (F := fun y r1 => pL r1 (fun x r => MW p l e R s m args below meth c D K A ad0 n0 nL Sx Qm (nx, ls, .long (x - y) :: r, w, nc, ns))) h
    obtain ⟨x, r, rfl, h⟩ := pL_s h
    simp only [okRow, dOk, Bool.and_eq_true, decide_eq_true_eq] at hrow
    obtain ⟨hd, rfl⟩ := hrow
    intro ad H locs lsx hW hS hag hn0 hsx hl
    obtain ⟨hP, hD, hwf⟩ := hW
    exact lv_lsub hx hb hd (h ad H locs lsx ⟨hP, hD, hwf⟩ hS hag hn0 hsx hl)
  | lmul  => 
    obtain ⟨y, r1, rfl, h⟩ := pL_s (F := fun y r1 => pL r1 (fun x r => MW p l e R s m args below meth c D K A ad0 n0 nL Sx Qm (nx, ls, .long (x * y) :: r, w, nc, ns))) h
    obtain ⟨x, r, rfl, h⟩ := pL_s h
    simp only [okRow, dOk, Bool.and_eq_true, decide_eq_true_eq] at hrow
    obtain ⟨hd, rfl⟩ := hrow
    intro ad H locs lsx hW hS hag hn0 hsx hl
    obtain ⟨hP, hD, hwf⟩ := hW
    exact lv_lmul hx hb hd (h ad H locs lsx ⟨hP, hD, hwf⟩ hS hag hn0 hsx hl)
  | land  => 
    obtain ⟨y, r1, rfl, h⟩ := pL_s (F := fun y r1 => pL r1 (fun x r => MW p l e R s m args below meth c D K A ad0 n0 nL Sx Qm (nx, ls, .long (x &&& y) :: r, w, nc, ns))) h
    obtain ⟨x, r, rfl, h⟩ := pL_s h
    simp only [okRow, dOk, Bool.and_eq_true, decide_eq_true_eq] at hrow
    obtain ⟨hd, rfl⟩ := hrow
    intro ad H locs lsx hW hS hag hn0 hsx hl
    obtain ⟨hP, hD, hwf⟩ := hW
    exact lv_land hx hb hd (h ad H locs lsx ⟨hP, hD, hwf⟩ hS hag hn0 hsx hl)
  | lor  => 
    obtain ⟨y, r1, rfl, h⟩ := pL_s (F := fun y r1 => pL r1 (fun x r => MW p l e R s m args below meth c D K A ad0 n0 nL Sx Qm (nx, ls, .long (x ||| y) :: r, w, nc, ns))) h
    obtain ⟨x, r, rfl, h⟩ := pL_s h
    simp only [okRow, dOk, Bool.and_eq_true, decide_eq_true_eq] at hrow
    obtain ⟨hd, rfl⟩ := hrow
    intro ad H locs lsx hW hS hag hn0 hsx hl
    obtain ⟨hP, hD, hwf⟩ := hW
    exact lv_lor hx hb hd (h ad H locs lsx ⟨hP, hD, hwf⟩ hS hag hn0 hsx hl)
  | ldiv  => 
    obtain ⟨y, r1, rfl, h⟩ := pL_s (F := fun y r1 => pL r1 (fun x r => (¬ y = 0) ∧ MW p l e R s m args below meth c D K A ad0 n0 nL Sx Qm (nx, ls, .long (x / y) :: r, w, nc, ns))) h
    obtain ⟨x, r, rfl, h⟩ := pL_s h
    obtain ⟨hne, h⟩ := h
    simp only [okRow, dOk, Bool.and_eq_true, decide_eq_true_eq] at hrow
    obtain ⟨hd, rfl⟩ := hrow
    intro ad H locs lsx hW hS hag hn0 hsx hl
    obtain ⟨hP, hD, hwf⟩ := hW
    exact lv_ldiv hx hb hd hne (h ad H locs lsx ⟨hP, hD, hwf⟩ hS hag hn0 hsx hl)
  | lrem  => 
    obtain ⟨y, r1, rfl, h⟩ := pL_s (F := fun y r1 => pL r1 (fun x r => (¬ y = 0) ∧ MW p l e R s m args below meth c D K A ad0 n0 nL Sx Qm (nx, ls, .long (x - x / y * y) :: r, w, nc, ns))) h
    obtain ⟨x, r, rfl, h⟩ := pL_s h
    obtain ⟨hne, h⟩ := h
    simp only [okRow, dOk, Bool.and_eq_true, decide_eq_true_eq] at hrow
    obtain ⟨hd, rfl⟩ := hrow
    intro ad H locs lsx hW hS hag hn0 hsx hl
    obtain ⟨hP, hD, hwf⟩ := hW
    exact lv_lrem hx hb hd hne (h ad H locs lsx ⟨hP, hD, hwf⟩ hS hag hn0 hsx hl)
  | lushr  => 
    obtain ⟨y, r1, rfl, h⟩ := pI_s (F := fun y r1 => pL r1 (fun x r => MW p l e R s m args below meth c D K A ad0 n0 nL Sx Qm (nx, ls, .long ((x.toUInt64 >>> (y.toInt64.toUInt64 &&& Int64.toUInt64 63)).toInt64) :: r, w, nc, ns))) h
    obtain ⟨x, r, rfl, h⟩ := pL_s h
    simp only [okRow, dOk, Bool.and_eq_true, decide_eq_true_eq] at hrow
    obtain ⟨hd, rfl⟩ := hrow
    intro ad H locs lsx hW hS hag hn0 hsx hl
    obtain ⟨hP, hD, hwf⟩ := hW
    exact lv_lushr hx hb hd rfl (h ad H locs lsx ⟨hP, hD, hwf⟩ hS hag hn0 hsx hl)
  | lshl  => 
    obtain ⟨y, r1, rfl, h⟩ := pI_s (F := fun y r1 => pL r1 (fun x r => MW p l e R s m args below meth c D K A ad0 n0 nL Sx Qm (nx, ls, .long (x <<< (y.toInt64 &&& 63)) :: r, w, nc, ns))) h
    obtain ⟨x, r, rfl, h⟩ := pL_s h
    simp only [okRow, dOk, Bool.and_eq_true, decide_eq_true_eq] at hrow
    obtain ⟨hd, rfl⟩ := hrow
    intro ad H locs lsx hW hS hag hn0 hsx hl
    obtain ⟨hP, hD, hwf⟩ := hW
    exact lv_lshl hx hb hd rfl (h ad H locs lsx ⟨hP, hD, hwf⟩ hS hag hn0 hsx hl)
  | i2l  => 
    obtain ⟨x, r, rfl, h⟩ := pI_s (F := fun x r => MW p l e R s m args below meth c D K A ad0 n0 nL Sx Qm (nx, ls, .long x.toInt64 :: r, w, nc, ns)) h
    simp only [okRow, dOk, Bool.and_eq_true, decide_eq_true_eq] at hrow
    obtain ⟨hd, rfl⟩ := hrow
    intro ad H locs lsx hW hS hag hn0 hsx hl
    obtain ⟨hP, hD, hwf⟩ := hW
    exact lv_i2l hx hb hd rfl (h ad H locs lsx ⟨hP, hD, hwf⟩ hS hag hn0 hsx hl)
  | l2i  => 
    obtain ⟨x, r, rfl, h⟩ := pL_s (F := fun x r => MW p l e R s m args below meth c D K A ad0 n0 nL Sx Qm (nx, ls, .int x.toInt32 :: r, w, nc, ns)) h
    simp only [okRow, dOk, Bool.and_eq_true, decide_eq_true_eq] at hrow
    obtain ⟨hd, rfl⟩ := hrow
    intro ad H locs lsx hW hS hag hn0 hsx hl
    obtain ⟨hP, hD, hwf⟩ := hW
    exact lv_l2i hx hb hd rfl (h ad H locs lsx ⟨hP, hD, hwf⟩ hS hag hn0 hsx hl)
  | lcmp  => 
    obtain ⟨y, r1, rfl, h⟩ := pL_s (F := fun y r1 => pL r1 (fun x r => MW p l e R s m args below meth c D K A ad0 n0 nL Sx Qm (nx, ls, .int (lg_cmp x y) :: r, w, nc, ns))) h
    obtain ⟨x, r, rfl, h⟩ := pL_s h
    simp only [okRow, dOk, Bool.and_eq_true, decide_eq_true_eq] at hrow
    obtain ⟨hd, rfl⟩ := hrow
    intro ad H locs lsx hW hS hag hn0 hsx hl
    obtain ⟨hP, hD, hwf⟩ := hW
    exact W.lcmp hx hb hd (h ad H locs lsx ⟨hP, hD, hwf⟩ hS hag hn0 hsx hl)
  | dup  => 
    obtain ⟨v, r, rfl, hv, h⟩ := p1_s (F := fun v r => MW p l e R s m args below meth c D K A ad0 n0 nL Sx Qm (nx, ls, v :: v :: r, w, nc, ns)) h
    simp only [okRow, dOk, Bool.and_eq_true, decide_eq_true_eq] at hrow
    obtain ⟨hd, rfl⟩ := hrow
    intro ad H locs lsx hW hS hag hn0 hsx hl
    obtain ⟨hP, hD, hwf⟩ := hW
    exact lv_dup hx hb hd ((cv_cat ad v).trans hv) (h ad H locs lsx ⟨hP, hD, hwf⟩ hS hag hn0 hsx hl)
  | dup2  => 
    obtain ⟨v, r1, rfl, hv, h⟩ := p1_s (F := fun v r1 => p1 r1 (fun u r => MW p l e R s m args below meth c D K A ad0 n0 nL Sx Qm (nx, ls, v :: u :: v :: u :: r, w, nc, ns))) h
    obtain ⟨u, r, rfl, hu, h⟩ := p1_s h
    simp only [okRow, dOk, Bool.and_eq_true, decide_eq_true_eq] at hrow
    obtain ⟨hd, rfl⟩ := hrow
    intro ad H locs lsx hW hS hag hn0 hsx hl
    obtain ⟨hP, hD, hwf⟩ := hW
    exact lv_dup2_11 hx hb hd ((cv_cat ad v).trans hv) ((cv_cat ad u).trans hu) (h ad H locs lsx ⟨hP, hD, hwf⟩ hS hag hn0 hsx hl)
  | pop  => 
    obtain ⟨v, r, rfl, hv, h⟩ := p1_s (F := fun _ r => MW p l e R s m args below meth c D K A ad0 n0 nL Sx Qm (nx, ls, r, w, nc, ns)) h
    simp only [okRow, dOk, Bool.and_eq_true, decide_eq_true_eq] at hrow
    obtain ⟨hd, rfl⟩ := hrow
    intro ad H locs lsx hW hS hag hn0 hsx hl
    obtain ⟨hP, hD, hwf⟩ := hW
    exact lv_pop hx hb hd ((cv_cat ad v).trans hv) (h ad H locs lsx ⟨hP, hD, hwf⟩ hS hag hn0 hsx hl)
  | ifCond o off => 
    obtain ⟨t, rfl, h⟩ := a1_s (F := fun t => pI st (fun x r => brE o x 0 (MW p l e R s m args below meth c D K A ad0 n0 nL Sx Qm (t, ls, r, w, nc, ns)) (MW p l e R s m args below meth c D K A ad0 n0 nL Sx Qm (nx, ls, r, w, nc, ns)))) h
    obtain ⟨x, r, rfl, h⟩ := pI_s h
    simp only [okRow, dOk, Bool.and_eq_true, decide_eq_true_eq] at hrow
    obtain ⟨⟨hd, rfl⟩, ht⟩ := hrow
    simp only [tOk, decide_eq_true_eq] at ht
    intro ad H locs lsx hW hS hag hn0 hsx hl
    obtain ⟨hP, hD, hwf⟩ := hW
    cases o with
    | eq => exact lv_if_eq hx hb hd ht (fun q => h.1 q ad H locs lsx ⟨hP, hD, hwf⟩ hS hag hn0 hsx hl) (fun q => h.2 q ad H locs lsx ⟨hP, hD, hwf⟩ hS hag hn0 hsx hl)
    | ne => exact lv_if_ne hx hb hd ht (fun q => h.1 q ad H locs lsx ⟨hP, hD, hwf⟩ hS hag hn0 hsx hl) (fun q => h.2 q ad H locs lsx ⟨hP, hD, hwf⟩ hS hag hn0 hsx hl)
    | lt => exact lv_if_lt hx hb hd ht (fun q => h.1 q ad H locs lsx ⟨hP, hD, hwf⟩ hS hag hn0 hsx hl) (fun q => h.2 q ad H locs lsx ⟨hP, hD, hwf⟩ hS hag hn0 hsx hl)
    | ge => exact lv_if_ge hx hb hd ht (fun q => h.1 q ad H locs lsx ⟨hP, hD, hwf⟩ hS hag hn0 hsx hl) (fun q => h.2 q ad H locs lsx ⟨hP, hD, hwf⟩ hS hag hn0 hsx hl)
    | gt => exact lv_if_gt hx hb hd ht (fun q => h.1 q ad H locs lsx ⟨hP, hD, hwf⟩ hS hag hn0 hsx hl) (fun q => h.2 q ad H locs lsx ⟨hP, hD, hwf⟩ hS hag hn0 hsx hl)
    | le => exact lv_if_le hx hb hd ht (fun q => h.1 q ad H locs lsx ⟨hP, hD, hwf⟩ hS hag hn0 hsx hl) (fun q => h.2 q ad H locs lsx ⟨hP, hD, hwf⟩ hS hag hn0 hsx hl)
  | if_icmp o off => 
    obtain ⟨t, rfl, h⟩ := a1_s (F := fun t => pI st (fun y r1 => pI r1 (fun x r => brE o x y (MW p l e R s m args below meth c D K A ad0 n0 nL Sx Qm (t, ls, r, w, nc, ns)) (MW p l e R s m args below meth c D K A ad0 n0 nL Sx Qm (nx, ls, r, w, nc, ns))))) h
    obtain ⟨y, r1, rfl, h⟩ := pI_s h
    obtain ⟨x, r, rfl, h⟩ := pI_s h
    simp only [okRow, dOk, Bool.and_eq_true, decide_eq_true_eq] at hrow
    obtain ⟨⟨hd, rfl⟩, ht⟩ := hrow
    simp only [tOk, decide_eq_true_eq] at ht
    intro ad H locs lsx hW hS hag hn0 hsx hl
    obtain ⟨hP, hD, hwf⟩ := hW
    cases o with
    | eq => exact lv_icmp_eq hx hb hd ht (fun q => h.1 q ad H locs lsx ⟨hP, hD, hwf⟩ hS hag hn0 hsx hl) (fun q => h.2 q ad H locs lsx ⟨hP, hD, hwf⟩ hS hag hn0 hsx hl)
    | ne => exact lv_icmp_ne hx hb hd ht (fun q => h.1 q ad H locs lsx ⟨hP, hD, hwf⟩ hS hag hn0 hsx hl) (fun q => h.2 q ad H locs lsx ⟨hP, hD, hwf⟩ hS hag hn0 hsx hl)
    | lt => exact lv_icmp_lt hx hb hd ht (fun q => h.1 q ad H locs lsx ⟨hP, hD, hwf⟩ hS hag hn0 hsx hl) (fun q => h.2 q ad H locs lsx ⟨hP, hD, hwf⟩ hS hag hn0 hsx hl)
    | ge => exact lv_icmp_ge hx hb hd ht (fun q => h.1 q ad H locs lsx ⟨hP, hD, hwf⟩ hS hag hn0 hsx hl) (fun q => h.2 q ad H locs lsx ⟨hP, hD, hwf⟩ hS hag hn0 hsx hl)
    | gt => exact lv_icmp_gt hx hb hd ht (fun q => h.1 q ad H locs lsx ⟨hP, hD, hwf⟩ hS hag hn0 hsx hl) (fun q => h.2 q ad H locs lsx ⟨hP, hD, hwf⟩ hS hag hn0 hsx hl)
    | le => exact lv_icmp_le hx hb hd ht (fun q => h.1 q ad H locs lsx ⟨hP, hD, hwf⟩ hS hag hn0 hsx hl) (fun q => h.2 q ad H locs lsx ⟨hP, hD, hwf⟩ hS hag hn0 hsx hl)
  | goto off => 
    obtain ⟨t, rfl, h⟩ := a1_s (F := fun t => MW p l e R s m args below meth c D K A ad0 n0 nL Sx Qm (t, ls, st, w, nc, ns)) h
    simp only [okRow, dOk, Bool.and_eq_true, decide_eq_true_eq] at hrow
    obtain ⟨⟨hd, rfl⟩, ht⟩ := hrow
    simp only [tOk, decide_eq_true_eq] at ht
    intro ad H locs lsx hW hS hag hn0 hsx hl
    obtain ⟨hP, hD, hwf⟩ := hW
    exact lv_goto hx hb hd ht (h ad H locs lsx ⟨hP, hD, hwf⟩ hS hag hn0 hsx hl)
  | ifnull off => 
    obtain ⟨t, rfl, h⟩ := a1_s (F := fun t => pR st (fun x r => (x = 0 → MW p l e R s m args below meth c D K A ad0 n0 nL Sx Qm (t, ls, r, w, nc, ns)) ∧ (¬ x = 0 → MW p l e R s m args below meth c D K A ad0 n0 nL Sx Qm (nx, ls, r, w, nc, ns)))) h
    obtain ⟨x, r, rfl, h⟩ := pR_s h
    simp only [okRow, dOk, Bool.and_eq_true, decide_eq_true_eq] at hrow
    obtain ⟨⟨hd, rfl⟩, ht⟩ := hrow
    simp only [tOk, decide_eq_true_eq] at ht
    intro ad H locs lsx hW hS hag hn0 hsx hl
    obtain ⟨hP, hD, hwf⟩ := hW
    cases x with
    | zero => exact lv_ifnullN hx hb hd ht (h.1 rfl ad H locs lsx ⟨hP, hD, hwf⟩ hS hag hn0 hsx hl)
    | succ x => exact lv_ifnull hx hb hd (h.2 (by omega) ad H locs lsx ⟨hP, hD, hwf⟩ hS hag hn0 hsx hl)
  | tableswitch d lo hi offs => 
    obtain ⟨dt, ks, rfl, h⟩ := aC_s (F := fun d ks => pI st (fun x r => swC x ks d (fun t => MW p l e R s m args below meth c D K A ad0 n0 nL Sx Qm (t, ls, r, w, nc, ns)))) h
    obtain ⟨x, r, rfl, h⟩ := pI_s h
    simp only [okRow, dOk, Bool.and_eq_true, decide_eq_true_eq] at hrow
    obtain ⟨hd, hdt, hsw, hhi, hlo, hln⟩ := hrow
    have hq := swT ks lo offs.toList hsw hlo hln h
    intro ad H locs lsx hW hS hag hn0 hsx hl
    obtain ⟨hP, hD, hwf⟩ := hW
    by_cases hout : x.toInt < lo ∨ hi < x.toInt
    · exact lv_tableOut hx hb hd hout hdt (hq.1 (by omega) ad H locs lsx ⟨hP, hD, hwf⟩ hS hag hn0 hsx hl)
    · have hi1 : (x.toInt - lo).toNat < offs.toList.length := by omega
      obtain ⟨t, ht, hX⟩ := hq.2 (x.toInt - lo).toNat (offs.toList[(x.toInt - lo).toNat]) (List.getElem?_eq_getElem hi1) (by omega)
      exact lv_tableIn hx hb hd (fun q => hout (Or.inl q)) (fun q => hout (Or.inr q)) (by rw [← Array.getElem?_toList]; exact List.getElem?_eq_getElem hi1) ht (hX ad H locs lsx ⟨hP, hD, hwf⟩ hS hag hn0 hsx hl)
  | lookupswitch d ps => 
    obtain ⟨dt, ks, rfl, h⟩ := aC_s (F := fun d ks => pI st (fun x r => swC x ks d (fun t => MW p l e R s m args below meth c D K A ad0 n0 nL Sx Qm (t, ls, r, w, nc, ns)))) h
    obtain ⟨x, r, rfl, h⟩ := pI_s h
    simp only [okRow, dOk, Bool.and_eq_true, decide_eq_true_eq] at hrow
    obtain ⟨hd, hdt, hsw, hso⟩ := hrow
    obtain ⟨t, ht, hX⟩ := swL hdt ks ps.toList hsw h
    intro ad H locs lsx hW hS hag hn0 hsx hl
    obtain ⟨hP, hD, hwf⟩ := hW
    exact lv_lookup hx hb hd hso rfl ht (hX ad H locs lsx ⟨hP, hD, hwf⟩ hS hag hn0 hsx hl)
  | _ => exact absurd hs (by simp [isS])
end
section
/-! SOUNDNESS OF ONE STEP: fields, arrays, new cells -/
theorem wf_in {w : Wd} (h : WFw w) {a ci : Nat} (hk : w.1.2.1 a = ci) (hc : ci < 20) : 1 ≤ a ∧ a ≤ w.1.1 := h.1 a (by rw [hk]; exact hc)
theorem tysK_8 (K : Nat → ClassId) : (tysK K)[0]? = some (K 8, .int) := rfl
theorem tysK_9 (K : Nat → ClassId) : (tysK K)[1]? = some (K 9, .boolean) := rfl
theorem tysK_10 (K : Nat → ClassId) : (tysK K)[2]? = some (K 10, .int) := rfl
theorem tysK_11 (K : Nat → ClassId) : (tysK K)[3]? = some (K 11, .object "OdometerRing$Odometer") := rfl
theorem ws_obj {K : Nat → ClassId} {ad : Nat → Nat} {w : Wd} (hwf : WFw w) {a ci : Nat} (hk : w.1.2.1 a = ci) (hc : ci < 7) : (wsW K ad w)[a - 1]? = some (ad a, .inr (ci, (List.range (nF ci)).map (fldV ad w ci a))) := by
  obtain ⟨h1, h2⟩ := wf_in hwf hk (by omega)
  rw [wsW_at K ad w h1 h2, cellW_obj K ad w hk hc]
theorem ws_8 {K : Nat → ClassId} {ad : Nat → Nat} {w : Wd} (hwf : WFw w) {a : Nat} (hk : w.1.2.1 a = 8) : (wsW K ad w)[a - 1]? = some (ad a, .inl (K 8, w.1.2.2.1 a, .inl (w.2.1 a))) := by
  obtain ⟨h1, h2⟩ := wf_in hwf hk (by omega)
  rw [wsW_at K ad w h1 h2, cellW_8 K ad w hk]
theorem ws_9 {K : Nat → ClassId} {ad : Nat → Nat} {w : Wd} (hwf : WFw w) {a : Nat} (hk : w.1.2.1 a = 9) : (wsW K ad w)[a - 1]? = some (ad a, .inl (K 9, w.1.2.2.1 a, .inl (w.2.1 a))) := by
  obtain ⟨h1, h2⟩ := wf_in hwf hk (by omega)
  rw [wsW_at K ad w h1 h2, cellW_9 K ad w hk]
theorem ws_10 {K : Nat → ClassId} {ad : Nat → Nat} {w : Wd} (hwf : WFw w) {a : Nat} (hk : w.1.2.1 a = 10) : (wsW K ad w)[a - 1]? = some (ad a, .inl (K 10, w.1.2.2.1 a, .inl (w.2.1 a))) := by
  obtain ⟨h1, h2⟩ := wf_in hwf hk (by omega)
  rw [wsW_at K ad w h1 h2, cellW_10 K ad w hk]
theorem ws_11 {K : Nat → ClassId} {ad : Nat → Nat} {w : Wd} (hwf : WFw w) {a : Nat} (hk : w.1.2.1 a = 11) : (wsW K ad w)[a - 1]? = some (ad a, .inl (K 11, w.1.2.2.1 a, .inr (.inr (.inr (.inr (fun k => rfo ad (w.1.2.2.2 a k))))))) := by
  obtain ⟨h1, h2⟩ := wf_in hwf hk (by omega)
  rw [wsW_at K ad w h1 h2, cellW_11 K ad w hk]
theorem fs_at (ad : Nat → Nat) (w : Wd) {ci a k : Nat} (hk : k < nF ci) : ((List.range (nF ci)).map (fldV ad w ci a))[k]? = some (fldV ad w ci a k) := by
  simp [List.getElem?_map, List.getElem?_range hk]
theorem fld_ref {ad : Nat → Nat} {w : Wd} {ci a k : Nat} (h : fK ci k = 1) : fldV ad w ci a k = cv ad (.ref (w.1.2.2.2 a k)) := if_pos h
theorem fld_int {ad : Nat → Nat} {w : Wd} {ci a k : Nat} (h : ¬ fK ci k = 1) : fldV ad w ci a k = .int (w.2.1 a k) := if_neg h
/-- an object's field of ints is written -/
theorem ws_putI {K : Nat → ClassId} {ad : Nat → Nat} {w : Wd} (hwf : WFw w) {a ci k : Nat} (hk : w.1.2.1 a = ci) (hc : ci < 7) (hf : ¬ fK ci k = 1) (x : Int32) : (wsW K ad w).set (a - 1) (ad a, .inr (ci, ((List.range (nF ci)).map (fldV ad w ci a)).set k (.int x))) = wsW K ad (wI w a (upd (w.2.1 a) k x)) := by
  obtain ⟨h1, h2⟩ := wf_in hwf hk (by omega)
  refine wsW_set K ad w _ h1 h2 rfl (fun i hi => cellW_wI_n K ad w _ hi) ?_
  rw [cellW_obj K ad _ (show (wI w a (upd (w.2.1 a) k x)).1.2.1 a = ci from hk) hc]
  congr 2
  refine (fld_set ad w (wI w a (upd (w.2.1 a) k x)) (fun q hq => ?_) ?_).symm
  · unfold fldV
    have e : (wI w a (upd (w.2.1 a) k x)).2.1 a q = w.2.1 a q := by
      show upA w.2.1 a _ a q = _
      rw [upA_s]
      simp [upd, hq]
    rw [e]
    rfl
  · rw [fld_int hf]
    show Value.int (upA w.2.1 a _ a k) = _
    rw [upA_s]
    simp [upd]
theorem ws_putR {K : Nat → ClassId} {ad : Nat → Nat} {w : Wd} (hwf : WFw w) {a ci k : Nat} (hk : w.1.2.1 a = ci) (hc : ci < 7) (hf : fK ci k = 1) (x : Nat) : (wsW K ad w).set (a - 1) (ad a, .inr (ci, ((List.range (nF ci)).map (fldV ad w ci a)).set k (cv ad (.ref x)))) = wsW K ad (wR w a (upA (w.1.2.2.2 a) k x)) := by
  obtain ⟨h1, h2⟩ := wf_in hwf hk (by omega)
  refine wsW_set K ad w _ h1 h2 rfl (fun i hi => cellW_wR_n K ad w _ hi) ?_
  rw [cellW_obj K ad _ (show (wR w a (upA (w.1.2.2.2 a) k x)).1.2.1 a = ci from hk) hc]
  congr 2
  refine (fld_set ad w (wR w a (upA (w.1.2.2.2 a) k x)) (fun q hq => ?_) ?_).symm
  · unfold fldV
    have e : (wR w a (upA (w.1.2.2.2 a) k x)).1.2.2.2 a q = w.1.2.2.2 a q := by
      show upA w.1.2.2.2 a _ a q = _
      rw [upA_s, upA_n _ _ hq]
    rw [e]
    rfl
  · rw [fld_ref hf]
    show cv ad (.ref (upA w.1.2.2.2 a _ a k)) = _
    rw [upA_s, upA_s]
theorem ws_setI {K : Nat → ClassId} {ad : Nat → Nat} {w : Wd} (hwf : WFw w) {a : Nat} (g : Nat → Int32) (hk : w.1.2.1 a = 8) : (wsW K ad w).set (a - 1) (ad a, .inl (K 8, w.1.2.2.1 a, .inl g)) = wsW K ad (wI w a g) := by
  obtain ⟨h1, h2⟩ := wf_in hwf hk (by omega)
  refine wsW_set K ad w _ h1 h2 rfl (fun i hi => cellW_wI_n K ad w _ hi) ?_
  rw [cellW_8 K ad _ (show (wI w a g).1.2.1 a = 8 from hk)]
  have e : (wI w a g).2.1 a = g := upA_s _ _ _
  rw [e]
  rfl
theorem ws_setZ {K : Nat → ClassId} {ad : Nat → Nat} {w : Wd} (hwf : WFw w) {a : Nat} (g : Nat → Int32) (hk : w.1.2.1 a = 9) : (wsW K ad w).set (a - 1) (ad a, .inl (K 9, w.1.2.2.1 a, .inl g)) = wsW K ad (wI w a g) := by
  obtain ⟨h1, h2⟩ := wf_in hwf hk (by omega)
  refine wsW_set K ad w _ h1 h2 rfl (fun i hi => cellW_wI_n K ad w _ hi) ?_
  rw [cellW_9 K ad _ (show (wI w a g).1.2.1 a = 9 from hk)]
  have e : (wI w a g).2.1 a = g := upA_s _ _ _
  rw [e]
  rfl
theorem ws_setQ {K : Nat → ClassId} {ad : Nat → Nat} {w : Wd} (hwf : WFw w) {a i x : Nat} (hx : 1 ≤ x) (hk : w.1.2.1 a = 11) : (wsW K ad w).set (a - 1) (ad a, .inl (K 11, w.1.2.2.1 a, .inr (.inr (.inr (.inr (va_up (fun k => rfo ad (w.1.2.2.2 a k)) i (some (ad x)))))))) = wsW K ad (wR w a (upA (w.1.2.2.2 a) i x)) := by
  obtain ⟨h1, h2⟩ := wf_in hwf hk (by omega)
  refine wsW_set K ad w _ h1 h2 rfl (fun i hi => cellW_wR_n K ad w _ hi) ?_
  rw [cellW_11 K ad _ (show (wR w a (upA (w.1.2.2.2 a) i x)).1.2.1 a = 11 from hk)]
  have e : (wR w a (upA (w.1.2.2.2 a) i x)).1.2.2.2 a = upA (w.1.2.2.2 a) i x := upA_s _ _ _
  rw [e]
  have e2 : (fun k => rfo ad (upA (w.1.2.2.2 a) i x k)) = va_up (fun k => rfo ad (w.1.2.2.2 a k)) i (some (ad x)) := by
    funext k
    by_cases hk : k = i
    · subst hk
      obtain ⟨y, rfl⟩ : ∃ y, x = y + 1 := ⟨x - 1, by omega⟩
      simp [upA_s, va_up, rfo]
    · simp [upA_n _ _ hk, va_up, hk]
  rw [e2]
  rfl
theorem frB_map {n n' : Nat} {st : List Value} {ls : List (Nat × Value)} {ad ad' : Nat → Nat} (h : frB n n' st ls) (ha : ∀ x, (x ≤ n ∨ n' < x) → ad' x = ad x) : st.map (cv ad') = st.map (cv ad) ∧ cvl ad' ls = cvl ad ls := by
  have key : ∀ v : Value, (∀ x, v = .ref x → x ≤ n ∨ n' < x) → cv ad' v = cv ad v := by
    intro v hv
    cases v with
    | ref a => cases a with
      | zero => rfl
      | succ a => show Value.ref _ = Value.ref _; rw [ha _ (hv _ rfl)]
    | _ => rfl
  refine ⟨List.map_congr_left (fun v hv => key v (h.1 v hv)), ?_⟩
  unfold cvl
  refine List.map_congr_left (fun q hq => ?_)
  rw [key q.2 (h.2 q hq)]
theorem dflt : ∀ ci, ci < 7 → ∀ k, k < nF ci → defaultValue (tyXc ci k) = if fK ci k = 1 then .null else .int 0 := by decide +kernel
end
section
/-! SOUNDNESS OF ONE STEP: fields, arrays, new cells, the steps -/
def isW : Instr → List Nat → Bool
  | .getfield .., _ => true
  | .putfield .., _ => true
  | .iaload, _ => true
  | .iastore, _ => true
  | .baload, _ => true
  | .bastore, _ => true
  | .aaload, _ => true
  | .aastore, _ => true
  | .arraylength, _ => true
  | .newarray .., _ => true
  | .anewarray .., _ => true
  | .new .., t :: _ => decide (t = 0)
  | _, _ => false
set_option maxHeartbeats 4000000 in
theorem so_world {p : Program} {l : Launch} {e : Env} {R : Room} {s : State} {m : MethodId} {args : Array Value} {below : List Frame} {meth : Method} {c : Code} {D : va_G} {K : Nat → ClassId} {A : Nat → Prop} {ad0 : Nat → Nat} {n0 nL : Nat} {Sx : (Nat → Nat) → Prop} {Qm : State → Prop} {j : Nat}
  (hx : p.tables.exec = Jvm.exec) (hb : c.code = bC j) (hml : c.maxLocals = nL) (hnL : nL = mL j) (hown : s.vm.findClass (ownO j) = some m.cls) (hts : ∀ w ∈ GG, w.before args s = true)
  {C : Cal} {SX : Option (Nat × (Nat → Int32))} {mxc mxs : Nat} {hn : Nat → String → Option Nat} {Rt : Option Value → Wd → Nat → Nat → Prop} {Th : String → Wd → Nat → Nat → Prop} {ins : Instr} {nx : Nat} {aux : List Nat} {kc : Int32} {kl : Int64} {pc : Nat} {ls : List (Nat × Value)} {st : List Value} {w : Wd} {nc ns : Nat}
  (hin : (yN j).name = "<init>" → meth.name = "<init>") (hK : va_K D vwCl (tysK K) s) (hAO : va_AO "OdometerRing$Odometer" s) (hA : ∀ q, s.heap.size ≤ q → A q) (hSx : ∀ ad ad', Sx ad → ad' 1000001 = ad 1000001 → Sx ad') (hRc : R.cells = mxc) (hRs : R.slots = mxs)
  (hSc : ∀ L xs, SX = some (L, xs) → ∀ ad, Sx ad → va_X (ad 1000001) L xs s s.heap ∧ ad 1000001 < s.heap.size ∧ ¬ A (ad 1000001))
  (hs : isW ins aux = true) (hrow : okRow j pc (ins, nx, aux, kc, kl) = true) (h : stepI C mjT kO nA SX mxc mxs hn Rt Th ins nx aux kc kl pc ls st w nc ns (MW p l e R s m args below meth c D K A ad0 n0 nL Sx Qm)) : MW p l e R s m args below meth c D K A ad0 n0 nL Sx Qm (pc, ls, st, w, nc, ns) := by
  have cvp : ∀ (ad : Nat → Nat) {a ci : Nat}, WFw w → w.1.2.1 a = ci → ci < 20 → cv ad (.ref a) = .ref (ad a) := fun ad a ci hw hk hc => cv_pos ad (wf_in hw hk hc).1
  cases ins with
  | getfield i =>
    obtain ⟨ci, k, t, r0, rfl, h⟩ := aF_s h
    obtain ⟨a, r, rfl, hk, h9⟩ := pR_s h
    simp only [okRow, dOk, Bool.and_eq_true, decide_eq_true_eq] at hrow
    obtain ⟨⟨hd, rfl⟩, hq⟩ := hrow
    rcases r0 with _ | ⟨p9, _ | ⟨p8, r0⟩⟩
    · simp at hq
    · simp only [Bool.and_eq_true, decide_eq_true_eq] at hq
      obtain ⟨hci, hkk, hw9, hdecl, hti⟩ := hq
      have hF := clsF ci hci
      intro ad H locs lsx hW hS hag hn0 hsx hl
      obtain ⟨hP, hD, hwf⟩ := hW
      show W p l e R s m args below meth c H locs nc ns Qm (F0 m pc lsx (cv ad (.ref a) :: r.map (cv ad)))
      rw [cvp ad hwf hk (by omega)]
      refine va_get (ref := RXc ci) hx hb hts hF.2.1 hown hK hP (a - 1) (ws_obj hwf hk hci) hF.1 k hkk (hts _ (wAt_in hw9)) (fun x9 h9 => by rw [hdecl] at h9; exact h9) (fs_at ad w hkk) hd ?_
      rcases nI1_s h9 with ⟨ht, h⟩ | ⟨ht, h⟩
      · rw [fld_ref (hti.mp ht)]
        exact h ad H locs lsx ⟨hP, hD, hwf⟩ hS hag hn0 hsx hl
      · rw [fld_int (fun q => ht (hti.mpr q))]
        exact h ad H locs lsx ⟨hP, hD, hwf⟩ hS hag hn0 hsx hl
    · simp at hq
  | putfield i =>
    obtain ⟨ci, k, t, r0, rfl, h⟩ := aF_s h
    simp only [okRow, dOk, Bool.and_eq_true, decide_eq_true_eq] at hrow
    obtain ⟨⟨hd, rfl⟩, hq⟩ := hrow
    rcases r0 with _ | ⟨fin, _ | ⟨p9, _ | ⟨p8, r0⟩⟩⟩
    · simp at hq
    · simp at hq
    · simp only [Bool.and_eq_true, decide_eq_true_eq] at hq
      obtain ⟨hci, hkk, hw9, hdecl, hti, hty, hfin⟩ := hq
      have hF := clsF ci hci
      -- a value that is stored into the field
      have put : ∀ (v : Value) (a : Nat) (r : List Value) (w' : Wd) (ad : Nat → Nat) (H : Heap) (locs : List Loc) (lsx : Array Slot), w.1.2.1 a = ci → narrow (tyXc ci k) (cv ad v) = cv ad v → fits (tyXc ci k) (cv ad v) = true → (WFw w → WFw w') → w'.1.1 = w.1.1 →
          (WFw w → (wsW K ad w).set (a - 1) (ad a, .inr (ci, ((List.range (nF ci)).map (fldV ad w ci a)).set k (cv ad v))) = wsW K ad w') → MW p l e R s m args below meth c D K A ad0 n0 nL Sx Qm (pc + 3, ls, r, w', nc, ns) →
          WPd D K A ad w H → va_S A s.heap H locs → (∀ i, i ≤ n0 → ad i = ad0 i) → n0 ≤ w.1.1 → Sx ad → lv_has lsx nL (cvl ad ls) → W p l e R s m args below meth c H locs nc ns Qm (F0 m pc lsx ((v :: .ref a :: r).map (cv ad))) := by
        intro v a r w' ad H locs lsx hk hn hf hwf' hnn hset h hW hS hag hn0 hsx hl
        obtain ⟨hP, hD, hwf⟩ := hW
        show W p l e R s m args below meth c H locs nc ns Qm (F0 m pc lsx (cv ad v :: cv ad (.ref a) :: r.map (cv ad)))
        rw [cvp ad hwf hk (by omega)]
        have kk : ∀ (H1 : Heap) (locs1 : List Loc), va_P D vwCl ((wsW K ad w).set (a - 1) (ad a, .inr (ci, ((List.range (nF ci)).map (fldV ad w ci a)).set k (cv ad v)))) H1 → va_D A ((wsW K ad w).set (a - 1) (ad a, .inr (ci, ((List.range (nF ci)).map (fldV ad w ci a)).set k (cv ad v)))) → va_S A s.heap H1 locs1 → W p l e R s m args below meth c H1 locs1 nc ns Qm (F0 m (pc + 3) lsx (r.map (cv ad))) := by
          intro H1 locs1 hP1 hD1 hS1
          rw [hset hwf] at hP1 hD1
          exact h ad H1 locs1 lsx ⟨hP1, hD1, hwf' hwf⟩ hS1 hag (by rw [hnn]; exact hn0) hsx hl
        cases fin with
        | zero =>
          simp only [decide_eq_true_eq] at hfin
          exact va_put (ref := RXc ci) hx hb hts hF.2.1 (tyXc ci) hF.2.2.1 hF.2.2.2 hown hK hP hD hS (a - 1) (ws_obj hwf hk hci) hF.1 k hkk (hts _ (wAt_in hw9)) (fun x9 h9 => by rw [hdecl] at h9; exact h9) hfin (hF.2.2.1 k hkk) hn hf (by simpa using hkk) hd kk
        | succ fin =>
          simp only [Bool.and_eq_true, decide_eq_true_eq] at hfin
          exact va_putF (ref := RXc ci) hx hb hts hF.2.1 (tyXc ci) hF.2.2.1 hF.2.2.2 hown hK hP hD hS (a - 1) (ws_obj hwf hk hci) hF.1 k hkk (hts _ (wAt_in hw9)) (fun x9 h9 => by rw [hdecl] at h9; exact h9) hfin.1 (hin hfin.2.1) hfin.2.2 (hF.2.2.1 k hkk) hn hf (by simpa using hkk) hd kk
      rcases nI1_s h with ⟨ht, h⟩ | ⟨ht, h⟩
      · subst ht
        obtain ⟨x, r1, rfl, h⟩ := pR_s h
        obtain ⟨a, r, rfl, hk, hxn, h⟩ := pR_s h
        have hty : refKind (tyXc ci k) = true := hty
        intro ad H locs lsx hW hS hag hn0 hsx hl
        refine put (.ref x) a r _ ad H locs lsx hk ?_ ?_ (fun q => wR_wf q hxn) rfl (fun q => ws_putR q hk hci (hti.mp rfl) x) h hW hS hag hn0 hsx hl
        · revert hty
          cases tyXc ci k <;> cases x <;> intro hty <;> first | rfl | cases hty
        · revert hty
          cases tyXc ci k <;> cases x <;> intro hty <;> first | rfl | cases hty
      · obtain ⟨x, r1, rfl, h⟩ := pI_s h
        obtain ⟨a, r, rfl, hk, h01, h⟩ := pR_s h
        intro ad H locs lsx hW hS hag hn0 hsx hl
        refine put (.int x) a r _ ad H locs lsx hk ?_ ?_ (fun q => wI_wf q) rfl (fun q => ws_putI q hk hci (fun z => ht (hti.mpr z)) x) h hW hS hag hn0 hsx hl
        · rcases t with _ | _ | _ | t
          · have hty : tyXc ci k = .int := of_decide_eq_true hty
            rw [hty]; rfl
          · exact absurd rfl ht
          · have hty : tyXc ci k = .boolean := of_decide_eq_true hty
            rw [hty]
            rcases (show x = 0 ∨ x = 1 from h01) with rfl | rfl <;> rfl
          · exact absurd hty (by simp)
        · rcases t with _ | _ | _ | t
          · have hty : tyXc ci k = .int := of_decide_eq_true hty
            rw [hty]; rfl
          · exact absurd rfl ht
          · have hty : tyXc ci k = .boolean := of_decide_eq_true hty
            rw [hty]
            rcases (show x = 0 ∨ x = 1 from h01) with rfl | rfl <;> rfl
          · exact absurd hty (by simp)
    · simp at hq
  | iaload =>
    obtain ⟨i, r1, rfl, h⟩ := pI_s h
    obtain ⟨a, r, rfl, h⟩ := pR_s h
    simp only [okRow, dOk, Bool.and_eq_true, decide_eq_true_eq] at hrow
    obtain ⟨hd, rfl⟩ := hrow
    have wld : (w.1.2.1 a = 8 ∧ vp_in i (w.1.2.2.1 a) ∧ MW p l e R s m args below meth c D K A ad0 n0 nL Sx Qm (pc + 1, ls, .int (w.2.1 a i.toNatClampNeg) :: r, w, nc, ns)) → MW p l e R s m args below meth c D K A ad0 n0 nL Sx Qm (pc, ls, .int i :: .ref a :: r, w, nc, ns) := by
      intro h
      obtain ⟨hk, hi, h⟩ := h
      intro ad H locs lsx hW hS hag hn0 hsx hl
      obtain ⟨hP, hD, hwf⟩ := hW
      show W p l e R s m args below meth c H locs nc ns Qm (F0 m pc lsx (.int i :: cv ad (.ref a) :: r.map (cv ad)))
      rw [cvp ad hwf hk (by omega)]
      exact va_iald hx hb hK hP (a - 1) 0 (ws_8 hwf hk) (tysK_8 K) hi hd (h ad H locs lsx ⟨hP, hD, hwf⟩ hS hag hn0 hsx hl)
    cases SX with
    | none => exact wld h
    | some q =>
      obtain ⟨L, xs⟩ := q
      rcases nI1_s h with ⟨ha, h⟩ | ⟨ha, h⟩
      · subst ha
        obtain ⟨hi, h⟩ := h
        intro ad H locs lsx hW hS hag hn0 hsx hl
        obtain ⟨hP, hD, hwf⟩ := hW
        obtain ⟨hX, hbl, hbA⟩ := hSc L xs rfl ad hsx
        exact va_sld hx hb hX hbl hbA hS hi hd (h ad H locs lsx ⟨hP, hD, hwf⟩ hS hag hn0 hsx hl)
      · exact wld h
  | iastore =>
    obtain ⟨x, r2, rfl, h⟩ := pI_s h
    obtain ⟨i, r1, rfl, h⟩ := pI_s h
    obtain ⟨a, r, rfl, hk, hi, h⟩ := pR_s h
    simp only [okRow, dOk, Bool.and_eq_true, decide_eq_true_eq] at hrow
    obtain ⟨hd, rfl⟩ := hrow
    intro ad H locs lsx hW hS hag hn0 hsx hl
    obtain ⟨hP, hD, hwf⟩ := hW
    show W p l e R s m args below meth c H locs nc ns Qm (F0 m pc lsx (.int x :: .int i :: cv ad (.ref a) :: r.map (cv ad)))
    rw [cvp ad hwf hk (by omega)]
    refine va_iast hx hb hK hP hD hS (a - 1) 0 (ws_8 hwf hk) (tysK_8 K) hi hd (fun H1 locs1 hP1 hD1 hS1 => ?_)
    rw [ws_setI hwf _ hk] at hP1 hD1
    exact h ad H1 locs1 lsx ⟨hP1, hD1, hwf⟩ hS1 hag hn0 hsx hl
  | baload =>
    obtain ⟨i, r1, rfl, h⟩ := pI_s h
    obtain ⟨a, r, rfl, hk, hi, h⟩ := pR_s h
    simp only [okRow, dOk, Bool.and_eq_true, decide_eq_true_eq] at hrow
    obtain ⟨hd, rfl⟩ := hrow
    intro ad H locs lsx hW hS hag hn0 hsx hl
    obtain ⟨hP, hD, hwf⟩ := hW
    show W p l e R s m args below meth c H locs nc ns Qm (F0 m pc lsx (.int i :: cv ad (.ref a) :: r.map (cv ad)))
    rw [cvp ad hwf hk (by omega)]
    exact va_zald hx hb hK hP (a - 1) 1 (ws_9 hwf hk) (tysK_9 K) hi hd (h ad H locs lsx ⟨hP, hD, hwf⟩ hS hag hn0 hsx hl)
  | bastore =>
    obtain ⟨x, r2, rfl, h⟩ := pI_s h
    obtain ⟨i, r1, rfl, h⟩ := pI_s h
    obtain ⟨a, r, rfl, hk, hi, h⟩ := pR_s h
    simp only [okRow, dOk, Bool.and_eq_true, decide_eq_true_eq] at hrow
    obtain ⟨hd, rfl⟩ := hrow
    intro ad H locs lsx hW hS hag hn0 hsx hl
    obtain ⟨hP, hD, hwf⟩ := hW
    show W p l e R s m args below meth c H locs nc ns Qm (F0 m pc lsx (.int x :: .int i :: cv ad (.ref a) :: r.map (cv ad)))
    rw [cvp ad hwf hk (by omega)]
    refine va_zast hx hb hK hP hD hS (a - 1) 1 (ws_9 hwf hk) (tysK_9 K) hi hd (fun H1 locs1 hP1 hD1 hS1 => ?_)
    rw [ws_setZ hwf _ hk] at hP1 hD1
    exact h ad H1 locs1 lsx ⟨hP1, hD1, hwf⟩ hS1 hag hn0 hsx hl
  | aaload =>
    obtain ⟨i, r1, rfl, h⟩ := pI_s h
    obtain ⟨a, r, rfl, hk, hi, h⟩ := pR_s h
    simp only [okRow, dOk, Bool.and_eq_true, decide_eq_true_eq] at hrow
    obtain ⟨hd, rfl⟩ := hrow
    intro ad H locs lsx hW hS hag hn0 hsx hl
    obtain ⟨hP, hD, hwf⟩ := hW
    show W p l e R s m args below meth c H locs nc ns Qm (F0 m pc lsx (.int i :: cv ad (.ref a) :: r.map (cv ad)))
    rw [cvp ad hwf hk (by omega)]
    refine va_aldq hx hb hK hP (a - 1) 3 (ws_11 hwf hk) (tysK_11 K) hi hd ?_
    rw [va_rfo]
    exact h ad H locs lsx ⟨hP, hD, hwf⟩ hS hag hn0 hsx hl
  | aastore =>
    obtain ⟨x, r2, rfl, h⟩ := pR_s h
    obtain ⟨i, r1, rfl, h⟩ := pI_s h
    obtain ⟨a, r, rfl, hk, hkx, hi, h⟩ := pR_s h
    simp only [okRow, dOk, Bool.and_eq_true, decide_eq_true_eq] at hrow
    obtain ⟨hd, rfl⟩ := hrow
    intro ad H locs lsx hW hS hag hn0 hsx hl
    obtain ⟨hP, hD, hwf⟩ := hW
    show W p l e R s m args below meth c H locs nc ns Qm (F0 m pc lsx (cv ad (.ref x) :: .int i :: cv ad (.ref a) :: r.map (cv ad)))
    rw [cvp ad hwf hk (by omega), cvp ad hwf hkx (by omega)]
    have hxb := wf_in hwf hkx (by omega)
    refine va_astq (r := (RX2, TX2, 17)) hx hb hK hP hD hS (a - 1) 3 (x - 1) 2 (ws_11 hwf hk) (tysK_11 K) (ws_obj hwf hkx (by omega)) rfl hi hd (fun H1 locs1 hP1 hD1 hS1 => ?_)
    rw [ws_setQ hwf hxb.1 hk] at hP1 hD1
    exact h ad H1 locs1 lsx ⟨hP1, hD1, wR_wf hwf hxb.2⟩ hS1 hag hn0 hsx hl
  | arraylength =>
    obtain ⟨a, r, rfl, h⟩ := pR_s h
    simp only [okRow, dOk, Bool.and_eq_true, decide_eq_true_eq] at hrow
    obtain ⟨hd, rfl⟩ := hrow
    have wld : ((8 ≤ w.1.2.1 a ∧ w.1.2.1 a ≤ 11) ∧ MW p l e R s m args below meth c D K A ad0 n0 nL Sx Qm (pc + 1, ls, .int (Int32.ofNat (w.1.2.2.1 a)) :: r, w, nc, ns)) → MW p l e R s m args below meth c D K A ad0 n0 nL Sx Qm (pc, ls, .ref a :: r, w, nc, ns) := by
      intro h
      obtain ⟨⟨hk1, hk2⟩, h⟩ := h
      intro ad H locs lsx hW hS hag hn0 hsx hl
      obtain ⟨hP, hD, hwf⟩ := hW
      show W p l e R s m args below meth c H locs nc ns Qm (F0 m pc lsx (cv ad (.ref a) :: r.map (cv ad)))
      rw [cvp ad hwf rfl (by omega)]
      rcases (show w.1.2.1 a = 8 ∨ w.1.2.1 a = 9 ∨ w.1.2.1 a = 10 ∨ w.1.2.1 a = 11 by omega) with hk | hk | hk | hk
      · exact va_alen hx hb hK hP (a - 1) 0 (ws_8 hwf hk) (tysK_8 K) rfl hd (h ad H locs lsx ⟨hP, hD, hwf⟩ hS hag hn0 hsx hl)
      · exact va_alen hx hb hK hP (a - 1) 1 (ws_9 hwf hk) (tysK_9 K) rfl hd (h ad H locs lsx ⟨hP, hD, hwf⟩ hS hag hn0 hsx hl)
      · exact va_alen hx hb hK hP (a - 1) 2 (ws_10 hwf hk) (tysK_10 K) rfl hd (h ad H locs lsx ⟨hP, hD, hwf⟩ hS hag hn0 hsx hl)
      · exact va_alen hx hb hK hP (a - 1) 3 (ws_11 hwf hk) (tysK_11 K) rfl hd (h ad H locs lsx ⟨hP, hD, hwf⟩ hS hag hn0 hsx hl)
    cases SX with
    | none => exact wld h
    | some q =>
      obtain ⟨L, xs⟩ := q
      rcases nI1_s h with ⟨ha, h⟩ | ⟨ha, h⟩
      · subst ha
        intro ad H locs lsx hW hS hag hn0 hsx hl
        obtain ⟨hP, hD, hwf⟩ := hW
        obtain ⟨hX, hbl, hbA⟩ := hSc L xs rfl ad hsx
        exact va_slen hx hb hX hbl hbA hS hd (h ad H locs lsx ⟨hP, hD, hwf⟩ hS hag hn0 hsx hl)
      · exact wld ⟨by omega, h.2⟩
  | newarray at9 =>
    obtain ⟨k, r0, rfl, h⟩ := aC_s h
    obtain ⟨n, r, rfl, ⟨hn9, hbig, hc1, hc2, hlim, hfr⟩, h9⟩ := pI_s h
    simp only [okRow, dOk, Bool.and_eq_true, decide_eq_true_eq] at hrow
    obtain ⟨⟨hd, rfl⟩, hq⟩ := hrow
    rcases r0 with _ | ⟨p9, _ | ⟨p8, r0⟩⟩
    · simp at hq
    · simp only [Bool.and_eq_true, Bool.or_eq_true, decide_eq_true_eq] at hq
      obtain ⟨hw9, hkk⟩ := hq
      intro ad H locs lsx hW hS hag hn0 hsx hl
      obtain ⟨hP, hD, hwf⟩ := hW
      -- behind the making
      have fin : ∀ (q : Nat) (cA : ClassId) (H1 : Heap) (a0 : vp_A), cellW K (upA ad (w.1.1 + 1) q) (wAl w k n.toNatClampNeg) (w.1.1 + 1) = .inl (cA, a0) → va_P D vwCl (wsW K ad w ++ [(q, .inl (cA, a0))]) H1 → va_D A (wsW K ad w ++ [(q, .inl (cA, a0))]) → va_S A s.heap H1 locs → W p l e R s m args below meth c H1 locs (nc + 1) (ns + n.toNatClampNeg) Qm (F0 m (pc + 2) lsx (.ref q :: r.map (cv ad))) := by
        intro q cA H1 a0 hcell hP1 hD1 hS1
        have hpush := wsW_push K ad (upA ad (w.1.1 + 1) q) w k n.toNatClampNeg q hwf (fun i hi => upA_n _ _ (by omega)) (upA_s _ _ _)
        rw [hcell] at hpush
        rw [← hpush] at hP1 hD1
        have hm := frB_map (ad := ad) (ad' := upA ad (w.1.1 + 1) q) hfr (fun x hx => upA_n _ _ (by omega))
        have := h9 (upA ad (w.1.1 + 1) q) H1 locs lsx ⟨hP1, hD1, wAl_wf w k _ hwf hlim⟩ hS1 (fun i hi => (upA_n _ _ (by have : n0 ≤ w.1.1 := hn0; omega)).trans (hag i hi)) (Nat.le_trans hn0 (Nat.le_succ _)) (hSx ad _ hsx (upA_n _ _ (by omega))) (by rw [hm.2]; exact hl)
        have e1 : (.ref q :: r.map (cv ad)) = (Value.ref (w.1.1 + 1) :: r).map (cv (upA ad (w.1.1 + 1) q)) := by
          rw [List.map_cons, hm.1, cv_pos _ (by omega), upA_s]
        rw [e1]
        exact this
      have uniq : ∀ (t : FieldType) (i0 : Nat) (cA cB : ClassId), va_K D vwCl (tysK K ++ [(cA, t)]) s → (tysK K)[i0]? = some (cB, t) → (∀ C, t ≠ .object C) → cA = cB := by
        intro t i0 cA cB hK1 hi0 hno
        have e1 := (hK1.2 4 (cA, t) rfl).2
        have e2 := (hK.2 i0 (cB, t) hi0).2
        cases t with
        | object C => exact absurd rfl (hno C)
        | _ => exact Option.some.inj (e1.symm.trans e2)
      have kd : (wAl w k n.toNatClampNeg).1.2.1 (w.1.1 + 1) = k := upA_s _ _ _
      have ln : (wAl w k n.toNatClampNeg).1.2.2.1 (w.1.1 + 1) = n.toNatClampNeg := upA_s _ _ _
      have mi : (wAl w k n.toNatClampNeg).2.1 (w.1.1 + 1) = fun _ => 0 := upA_s _ _ _
      have mj : (wAl w k n.toNatClampNeg).2.2 (w.1.1 + 1) = fun _ => 0 := upA_s _ _ _
      rcases hkk with ⟨rfl, rfl⟩ | ⟨rfl, rfl⟩
      · refine va_newa (atype := .int) (a0 := (n.toNatClampNeg, .inl (fun _ => 0))) hx hb (hts _ (wAt_in hw9)) rfl hK hP hD hS hA (fun cA => rfl) hn9 rfl (by show _ * 4 ≤ _; omega) (by rw [hRc]; exact hc1) (by rw [hRs]; exact hc2) hd (fun q cA H1 hK1 hP1 hD1 hS1 => ?_)
        refine fin q cA H1 _ ?_ hP1 hD1 hS1
        rw [cellW_8 K _ _ kd, ln, mi, uniq .int 0 cA (K 8) hK1 rfl (fun C h => by cases h)]
      · refine va_newa (atype := .boolean) (a0 := (n.toNatClampNeg, .inl (fun _ => 0))) hx hb (hts _ (wAt_in hw9)) rfl hK hP hD hS hA (fun cA => rfl) hn9 rfl (by show _ * 1 ≤ _; omega) (by rw [hRc]; exact hc1) (by rw [hRs]; exact hc2) hd (fun q cA H1 hK1 hP1 hD1 hS1 => ?_)
        refine fin q cA H1 _ ?_ hP1 hD1 hS1
        rw [cellW_9 K _ _ kd, ln, mi, uniq .boolean 1 cA (K 9) hK1 rfl (fun C h => by cases h)]
    · simp at hq
  | anewarray i =>
    obtain ⟨n, r, rfl, ⟨hn9, hbig, hc1, hc2, hlim, hfr⟩, h9⟩ := pI_s h
    simp only [okRow, dOk, Bool.and_eq_true, decide_eq_true_eq] at hrow
    obtain ⟨⟨hd, rfl⟩, hq⟩ := hrow
    split at hq
    · intro ad H locs lsx hW hS hag hn0 hsx hl
      obtain ⟨hP, hD, hwf⟩ := hW
      refine va_newq hx hb hown (hts _ (wAt_in hq)) hAO hK hP hD hS hA hn9 rfl (by omega) (by rw [hRc]; exact hc1) (by rw [hRs]; exact hc2) hd (fun q cA H1 hK1 hP1 hD1 hS1 => ?_)
      have hcA : cA = K 11 := by
        obtain ⟨k1, c1, -, -, -, e1⟩ := (hK1.2 4 (cA, .object "OdometerRing$Odometer") rfl).2
        obtain ⟨k2, c2, -, -, -, e2⟩ := (hK.2 3 (K 11, .object "OdometerRing$Odometer") rfl).2
        exact Option.some.inj (e1.symm.trans e2)
      have kd : (wAl w 11 n.toNatClampNeg).1.2.1 (w.1.1 + 1) = 11 := upA_s _ _ _
      have ln : (wAl w 11 n.toNatClampNeg).1.2.2.1 (w.1.1 + 1) = n.toNatClampNeg := upA_s _ _ _
      have mr : (wAl w 11 n.toNatClampNeg).1.2.2.2 (w.1.1 + 1) = fun _ => 0 := upA_s _ _ _
      have hcell : cellW K (upA ad (w.1.1 + 1) q) (wAl w 11 n.toNatClampNeg) (w.1.1 + 1) = .inl (cA, n.toNatClampNeg, .inr (.inr (.inr (.inr (fun _ => none))))) := by
        rw [cellW_11 K _ _ kd, ln, mr, hcA]
        rfl
      have hpush := wsW_push K ad (upA ad (w.1.1 + 1) q) w 11 n.toNatClampNeg q hwf (fun i hi => upA_n _ _ (by omega)) (upA_s _ _ _)
      rw [hcell] at hpush
      rw [← hpush] at hP1 hD1
      have hm := frB_map (ad := ad) (ad' := upA ad (w.1.1 + 1) q) hfr (fun x hx => upA_n _ _ (by omega))
      have := h9 (upA ad (w.1.1 + 1) q) H1 locs lsx ⟨hP1, hD1, wAl_wf w 11 _ hwf hlim⟩ hS1 (fun i hi => (upA_n _ _ (by have : n0 ≤ w.1.1 := hn0; omega)).trans (hag i hi)) (Nat.le_trans hn0 (Nat.le_succ _)) (hSx ad _ hsx (upA_n _ _ (by omega))) (by rw [hm.2]; exact hl)
      have e1 : (.ref q :: r.map (cv ad)) = (Value.ref (w.1.1 + 1) :: r).map (cv (upA ad (w.1.1 + 1) q)) := by
        rw [List.map_cons, hm.1, cv_pos _ (by omega), upA_s]
      rw [e1]
      exact this
    · exact absurd hq (by simp)
  | new i =>
    obtain ⟨t, r0, rfl, h⟩ := aC_s h
    obtain ⟨ci, r1, rfl, h⟩ := aC_s h
    rcases nI1_s h with ⟨rfl, ⟨hc1, hc2, hlim, hfr⟩, h9⟩ | ⟨ht, -⟩
    · rcases r1 with _ | ⟨p1, _ | ⟨p2, _ | ⟨p3, _ | ⟨p4, r1⟩⟩⟩⟩
      · simp [okRow] at hrow
      · simp [okRow] at hrow
      · simp [okRow] at hrow
      · simp only [okRow, dOk, Bool.and_eq_true, decide_eq_true_eq] at hrow
        obtain ⟨⟨hd, rfl⟩, hci, hw1, hw2, hw3⟩ := hrow
        have hF := clsF ci hci
        intro ad H locs lsx hW hS hag hn0 hsx hl
        obtain ⟨hP, hD, hwf⟩ := hW
        have kd : (wAl w ci 0).1.2.1 (w.1.1 + 1) = ci := upA_s _ _ _
        have mi : (wAl w ci 0).2.1 (w.1.1 + 1) = fun _ => 0 := upA_s _ _ _
        have mr : (wAl w ci 0).1.2.2.2 (w.1.1 + 1) = fun _ => 0 := upA_s _ _ _
        have fe : ∀ ad9 : Nat → Nat, fldV ad9 (wAl w ci 0) ci (w.1.1 + 1) = fun k => if fK ci k = 1 then .null else .int 0 := by
          intro ad9
          funext k
          unfold fldV
          rw [mi, mr]
          rfl
        refine va_new (fs := (List.range (nF ci)).map (fun k => if fK ci k = 1 then Value.null else .int 0)) hx hb hts hF.2.1 (tyXc ci) hF.2.2.1 hown (hts _ (wAt_in hw1)) (hts _ (wAt_in hw2)) (hts _ (wAt_in hw3)) hK hP hD hS hA hF.1 (fun k hk => ?_) (by rw [hRc]; exact hc1) (by rw [hRs]; exact hc2) hd (fun q H1 hP1 hD1 hS1 => ?_)
        · rw [dflt ci hci k hk]
          simp [vp_V, List.getD, List.getElem?_map, List.getElem?_range hk]
        · have hcell : cellW K (upA ad (w.1.1 + 1) q) (wAl w ci 0) (w.1.1 + 1) = .inr (ci, (List.range (nF ci)).map (fun k => if fK ci k = 1 then Value.null else .int 0)) := by
            rw [cellW_obj K _ _ kd hci, fe]
          have hpush := wsW_push K ad (upA ad (w.1.1 + 1) q) w ci 0 q hwf (fun i hi => upA_n _ _ (by omega)) (upA_s _ _ _)
          rw [hcell] at hpush
          rw [← hpush] at hP1 hD1
          have hm := frB_map (ad := ad) (ad' := upA ad (w.1.1 + 1) q) hfr (fun x hx => upA_n _ _ (by omega))
          have := h9 (upA ad (w.1.1 + 1) q) H1 locs lsx ⟨hP1, hD1, wAl_wf w ci _ hwf hlim⟩ hS1 (fun i hi => (upA_n _ _ (by have : n0 ≤ w.1.1 := hn0; omega)).trans (hag i hi)) (Nat.le_trans hn0 (Nat.le_succ _)) (hSx ad _ hsx (upA_n _ _ (by omega))) (by rw [hm.2]; exact hl)
          have e1 : (.ref q :: st.map (cv ad)) = (Value.ref (w.1.1 + 1) :: st).map (cv (upA ad (w.1.1 + 1) q)) := by
            rw [List.map_cons, hm.1, cv_pos _ (by omega), upA_s]
          rw [e1]
          exact this
      · simp [okRow] at hrow
    · exact absurd hs (by simp [isW, ht])
  | _ => exact absurd hs (by simp [isW])
end
section
/-! ===== BEGIN a constructor that throws (launches without stack traces) ===== -/
section VXIA
variable {p : Program} {l : Launch} {e : Env} {R : Room} {s : State} {m : MethodId} {args : Array Value} {below : List Frame} {meth : Method} {c : Code} {T : State} {locs : List Loc} {cells slots : Nat}
theorem vx_callI (X : Stand p l e R s m args below meth c T locs cells slots) (hexec : p.tables.exec = Jvm.exec) {own : String} {index : Nat} {y : MethodName} {bytes : ByteArray} {maxL : Nat}
    (hown : s.vm.findClass own = some m.cls) (hy1 : y.name = "<init>") (hlink : (Cond.methodLink own index y).before args s = true) (hinst : (Cond.instanceMethod y).before args s = true)
    (hcode : (Cond.code y bytes maxL none).before args s = true) (hy : y.cls ≠ "java/lang/invoke/MethodHandle" ∧ y.cls ≠ "java/lang/invoke/VarHandle")
    {W9 : Nat} {Pre : Pt → Array Value → Prop} {Post : Pt → Array Value → Option Value → Pt → Prop} {PostX : Pt → Array Value → Addr → Pt → Prop} (hK : vx_Back l R p e below s args y 3 W9 Pre Post PostX)
    {g : JFrame} (hg : g.method = m) (hsize : g.locals.size = c.maxLocals) {a : Addr} {argsL rest : List Value} (hlen : ∀ sig, parseMethodDescriptor y.desc = some sig → argsL.length = sig.parameters.length)
    (hstack : g.stack = argsL.reverse ++ .ref a :: rest) (hW : 2 * g.monitorRoom + (rest.map fun v => v.category).sum ≤ W9) (hdg : decode c.code g.pc = .ok (.invokespecial index, 3))
    (hpre : ∀ vm₁, s.WarmedH vm₁ → Pre ⟨T.setVm vm₁, locs, cells, slots⟩ (Value.ref a :: argsL).toArray) :
    (∃ (v : Option Value) (vm₁ : Vm) (B : Pt), s.WarmedH vm₁ ∧ Stand p l e R s m args below meth c B.U B.locs B.cells B.slots ∧ Post ⟨T.setVm vm₁, locs, cells, slots⟩ (Value.ref a :: argsL).toArray v B ∧
      ∀ target, Steps p.tables e below (B.U.setTop { g with pc := g.pc + 3, stack := v.toList ++ rest }) target → Steps p.tables e below (T.setTop g) target) ∨
    (∃ (q : Addr) (vm₁ : Vm) (B : Pt), s.WarmedH vm₁ ∧ Stand p l e R s m args below meth c B.U B.locs B.cells B.slots ∧ PostX ⟨T.setVm vm₁, locs, cells, slots⟩ (Value.ref a :: argsL).toArray q B ∧
      Steps p.tables e below (T.setTop g) ((B.U.setTop { g with stack := rest }).pushFrame (.throwing q))) := by
  subst hg
  have hpl : e.platform.magicAccessors = ({} : Platform).magicAccessors := by rw [X.admits.platform]
  obtain ⟨mk, methM, cM, kP, vm₁, hnamed, hmethM, hcodeM, -, hlocalsM, -, hkP, -, hW₁, hstep₁⟩ := Steps.initColdArgs (e := e) X.here hexec X.warmed hpl hown hy1 hy hlink hinst hcode (f := g) rfl hlen hstack hdg
  have X₁ := X.noted hW₁
  rcases hK g.method meth c ⟨T.setVm vm₁, locs, cells, slots⟩ { g with stack := rest } (.invokespecial index) mk (Value.ref a :: argsL).toArray X₁ rfl hsize hdg hW (X₁.named hnamed) (hpre vm₁ X₁.warmed) with ⟨v, B, X', hpost, hsteps⟩ | ⟨q, B, X', hpost, hsteps⟩
  · exact Or.inl ⟨v, vm₁, B, X₁.warmed, X', hpost, fun target h => hstep₁ _ fun acts => by rw [doInvoke_state]; exact hsteps.trans h⟩
  · exact Or.inr ⟨q, vm₁, B, X₁.warmed, X', hpost, hstep₁ _ fun acts => by rw [doInvoke_state]; exact hsteps⟩
end VXIA
section VXIB
variable {p : Program} {l : Launch} {e : Env} {R : Room} {s : State} {m : MethodId} {args : Array Value} {below : List Frame} {meth : Method} {c : Code} {H : Heap} {locs : List Loc} {cells slots : Nat}
variable {y : MethodName} {bytes cc : ByteArray} {maxL nL mc ms n index : Nat} {ret : Option FieldType} {ws : List Cond} {rm : Room} {Pc : Array Value → State → Prop} {Qc : Array Value → State → Outcome → State → Prop} {XC : String → State → State → Prop} {free : Addr → Prop} {Ts : List Cond} {own C : String} {b : Addr} {As rest : List Value} {g : JFrame}
theorem vx_runI (S : CallFix p m c cc nL s args Ts own) (hM : vx_Met l y ws rm Pc Qc XC mc ms free) (cw : CallB R s args own index y bytes maxL none ws rm mc ms n ∧ y.name = "<init>" ∧ (Cond.instanceMethod y).before args s = true) (hp : PreS s H Pc (.ref b :: As))
    (hg : g.method = m) (hn : As.length = n) (hsize : g.locals.size = nL) (hstack : g.stack = As.reverse ++ .ref b :: rest) (hW : 2 * g.monitorRoom + (rest.map fun v => v.category).sum ≤ 8) (hdg : decode cc g.pc = .ok (.invokespecial index, 3)) (hf : cells + mc ≤ R.cells ∧ slots + ms ≤ R.slots) :
    vx_Run p l e R s m args below meth c H locs cells slots mc ms g rest (Qc (Value.ref b :: As).toArray) XC free := by
  have hK : vx_Back l R p e below s args y 3 8 (PreOf R mc ms Pc) (PostOf Qc mc ms free) (vx_Post XC mc ms free) := vx_callBack cw.1 hM hp.1
  obtain ⟨⟨-, -, -, -, -, -, hcode, -, hy, hlen, hl⟩, hy1, hin⟩ := cw
  obtain ⟨hx, hb, hml, ho, -⟩ := S
  have hPc := hp.2
  intro T hT X
  rcases vx_callI X hx (bytes := bytes) (maxL := maxL) ho hy1 hl hin hcode hy hK hg (hsize.trans hml.symm) (a := b) (argsL := As) (rest := rest) (fun sig h => hn.trans (hlen sig h)) hstack hW (by rw [hb]; exact hdg)
    (fun vm₁ hW₁ => ⟨hf.1, hf.2, hPc (T.setVm vm₁) hT hW₁⟩) with ⟨v, vm₁, ⟨U', l2, c2, s2⟩, hW₁, X', ⟨g', mk, t, L, e1, e2, hq, h1, hL, h2, h3⟩, st⟩ | ⟨q, vm₁, ⟨U', l2, c2, s2⟩, hW₁, X', ⟨g', mk, t, L, E, ce, e1, e2, hq, hce, hcv, hcl, h1, hL, h2, h3⟩, st⟩
  · dsimp only [Pt.U, Pt.locs, Pt.cells, Pt.slots] at X' e1 e2 h1 h2 h3 st
    subst h1; subst h2; subst h3
    exact Or.inl ⟨v, (T.setVm vm₁).calling g' mk (Value.ref b :: As).toArray, t, U', L, hT, X', hL, e1, e2, hq, st⟩
  · dsimp only [Pt.U, Pt.locs, Pt.cells, Pt.slots] at X' e1 e2 h1 h2 h3 st hcl
    subst h1; subst h2; subst h3
    exact Or.inr ⟨q, (T.setVm vm₁).calling g' mk (Value.ref b :: As).toArray, t, U', L, E, ce, hT, X', hL, e1, e2, hq, hce, hcv, vx_cls hW₁ hcl, st⟩
end VXIB
/-! ===== END ===== -/
/-! ===== BEGIN a private constructor of a nest mate that throws ===== -/
section VXIC
variable {p : Program} {l : Launch} {e : Env} {R : Room} {s : State} {m : MethodId} {args : Array Value} {below : List Frame} {meth : Method} {c : Code} {T : State} {locs : List Loc} {cells slots : Nat}
theorem vx_callIN (X : Stand p l e R s m args below meth c T locs cells slots) (hexec : p.tables.exec = Jvm.exec) {own : String} {index : Nat} {host : String} {y : MethodName} {bytes : ByteArray} {maxL : Nat}
    (hown : s.vm.findClass own = some m.cls) (hy1 : y.name = "<init>") (hlink : (Cond.methodLinkNest own index y host).before args s = true) (hinst : (Cond.instanceMethod y).before args s = true)
    (hcode : (Cond.code y bytes maxL none).before args s = true) (hy : y.cls ≠ "java/lang/invoke/MethodHandle" ∧ y.cls ≠ "java/lang/invoke/VarHandle")
    {W9 : Nat} {Pre : Pt → Array Value → Prop} {Post : Pt → Array Value → Option Value → Pt → Prop} {PostX : Pt → Array Value → Addr → Pt → Prop} (hK : vx_Back l R p e below s args y 3 W9 Pre Post PostX)
    {g : JFrame} (hg : g.method = m) (hsize : g.locals.size = c.maxLocals) {a : Addr} {argsL rest : List Value} (hlen : ∀ sig, parseMethodDescriptor y.desc = some sig → argsL.length = sig.parameters.length)
    (hstack : g.stack = argsL.reverse ++ .ref a :: rest) (hW : 2 * g.monitorRoom + (rest.map fun v => v.category).sum ≤ W9) (hdg : decode c.code g.pc = .ok (.invokespecial index, 3))
    (hpre : ∀ vm₁, s.WarmedH vm₁ → Pre ⟨T.setVm vm₁, locs, cells, slots⟩ (Value.ref a :: argsL).toArray) :
    (∃ (v : Option Value) (vm₁ : Vm) (B : Pt), s.WarmedH vm₁ ∧ Stand p l e R s m args below meth c B.U B.locs B.cells B.slots ∧ Post ⟨T.setVm vm₁, locs, cells, slots⟩ (Value.ref a :: argsL).toArray v B ∧
      ∀ target, Steps p.tables e below (B.U.setTop { g with pc := g.pc + 3, stack := v.toList ++ rest }) target → Steps p.tables e below (T.setTop g) target) ∨
    (∃ (q : Addr) (vm₁ : Vm) (B : Pt), s.WarmedH vm₁ ∧ Stand p l e R s m args below meth c B.U B.locs B.cells B.slots ∧ PostX ⟨T.setVm vm₁, locs, cells, slots⟩ (Value.ref a :: argsL).toArray q B ∧
      Steps p.tables e below (T.setTop g) ((B.U.setTop { g with stack := rest }).pushFrame (.throwing q))) := by
  subst hg
  have hpl : e.platform.magicAccessors = ({} : Platform).magicAccessors := by rw [X.admits.platform]
  obtain ⟨mk, methM, cM, kP, vm₁, hnamed, hmethM, hcodeM, -, hlocalsM, -, hkP, -, hW₁, hstep₁⟩ := Steps.initColdArgsNest (e := e) X.here hexec X.warmed hpl hown hy1 hy hlink hinst hcode (f := g) rfl hlen hstack hdg
  have X₁ := X.noted hW₁
  rcases hK g.method meth c ⟨T.setVm vm₁, locs, cells, slots⟩ { g with stack := rest } (.invokespecial index) mk (Value.ref a :: argsL).toArray X₁ rfl hsize hdg hW (X₁.named hnamed) (hpre vm₁ X₁.warmed) with ⟨v, B, X', hpost, hsteps⟩ | ⟨q, B, X', hpost, hsteps⟩
  · exact Or.inl ⟨v, vm₁, B, X₁.warmed, X', hpost, fun target h => hstep₁ _ fun acts => by rw [doInvoke_state]; exact hsteps.trans h⟩
  · exact Or.inr ⟨q, vm₁, B, X₁.warmed, X', hpost, hstep₁ _ fun acts => by rw [doInvoke_state]; exact hsteps⟩
end VXIC
section VXID
variable {p : Program} {l : Launch} {e : Env} {R : Room} {s : State} {m : MethodId} {args : Array Value} {below : List Frame} {meth : Method} {c : Code} {H : Heap} {locs : List Loc} {cells slots : Nat}
theorem vx_runIN {y : MethodName} {bytes cc : ByteArray} {maxL nL mc ms n index : Nat} {ws : List Cond} {rm : Room} {Pc : Array Value → State → Prop} {Qc : Array Value → State → Outcome → State → Prop} {XC : String → State → State → Prop} {free : Addr → Prop} {Ts : List Cond} {own host : String} {b : Addr} {As rest : List Value} {g : JFrame}
    (S : CallFix p m c cc nL s args Ts own) (hM : vx_Met l y ws rm Pc Qc XC mc ms free) (cw : va_CN R s args own index y host bytes maxL none ws rm mc ms n ∧ y.name = "<init>" ∧ (Cond.instanceMethod y).before args s = true) (hp : PreS s H Pc (.ref b :: As))
    (hg : g.method = m) (hn : As.length = n) (hsize : g.locals.size = nL) (hstack : g.stack = As.reverse ++ .ref b :: rest) (hW : 2 * g.monitorRoom + (rest.map fun v => v.category).sum ≤ 8) (hdg : decode cc g.pc = .ok (.invokespecial index, 3)) (hf : cells + mc ≤ R.cells ∧ slots + ms ≤ R.slots) :
    vx_Run p l e R s m args below meth c H locs cells slots mc ms g rest (Qc (Value.ref b :: As).toArray) XC free := by
  obtain ⟨⟨⟨hrc, hrs, hfr, hlo, hws, hcw⟩, hcode, hini, hy, hlen, hl⟩, hx1, hx2⟩ := cw
  have hK : vx_Back l R p e below s args y 3 8 (PreOf R mc ms Pc) (PostOf Qc mc ms free) (vx_Post XC mc ms free) := vx_back (bytes := bytes) (maxL := maxL) (ret := none) hM hp.1 hrc hrs hfr hlo hws hcw (fun a' U hW => word_at hW (Or.inl (by first | rfl | simp [Cond.onTables, Cond.keeps, Cond.steady])) hini)
  obtain ⟨hx, hb, hml, ho, -⟩ := S
  have hPc := hp.2
  intro T hT X
  rcases vx_callIN X hx (bytes := bytes) (maxL := maxL) ho hx1 hl hx2 hcode hy hK hg (hsize.trans hml.symm) (a := b) (argsL := As) (rest := rest) (fun sig h => hn.trans (hlen sig h)) hstack hW (by rw [hb]; exact hdg)
    (fun vm₁ hW₁ => ⟨hf.1, hf.2, hPc (T.setVm vm₁) hT hW₁⟩) with ⟨v, vm₁, ⟨U', l2, c2, s2⟩, hW₁, X', ⟨g', mk, t, L, e1, e2, hq, h1, hL, h2, h3⟩, st⟩ | ⟨q, vm₁, ⟨U', l2, c2, s2⟩, hW₁, X', ⟨g', mk, t, L, E, ce, e1, e2, hq, hce, hcv, hcl, h1, hL, h2, h3⟩, st⟩
  · dsimp only [Pt.U, Pt.locs, Pt.cells, Pt.slots] at X' e1 e2 h1 h2 h3 st
    subst h1; subst h2; subst h3
    exact Or.inl ⟨v, (T.setVm vm₁).calling g' mk (Value.ref b :: As).toArray, t, U', L, hT, X', hL, e1, e2, hq, st⟩
  · dsimp only [Pt.U, Pt.locs, Pt.cells, Pt.slots] at X' e1 e2 h1 h2 h3 st hcl
    subst h1; subst h2; subst h3
    exact Or.inr ⟨q, (T.setVm vm₁).calling g' mk (Value.ref b :: As).toArray, t, U', L, E, ce, hT, X', hL, e1, e2, hq, hce, hcv, vx_cls hW₁ hcl, st⟩
end VXID
/-! ===== END ===== -/
/-! ===== BEGIN a private method of a nest mate that may throw (follows va_callVN, va_callSN, va_runVN, va_runSN) ===== -/
section
variable {p : Program} {l : Launch} {e : Env} {R : Room} {s : State} {m : MethodId} {args : Array Value} {below : List Frame} {meth : Method} {c : Code} {H : Heap} {locs : List Loc} {cells slots : Nat}
variable {T : State}
theorem vx_callVN (X : Stand p l e R s m args below meth c T locs cells slots) (hexec : p.tables.exec = Jvm.exec) {own C : String} {index : Nat} {host : String} {y : MethodName} {bytes : ByteArray} {maxL : Nat} {ret : Option FieldType}
    (hown : s.vm.findClass own = some m.cls) (hlink : (Cond.methodLinkNest own index y host).before args s = true) (hinst : (Cond.instanceMethod y).before args s = true) (hsel : (Cond.selects C y y).before args s = true)
    (hcode : (Cond.code y bytes maxL ret).before args s = true) (hy : y.cls ≠ "java/lang/invoke/MethodHandle" ∧ y.cls ≠ "java/lang/invoke/VarHandle")
    {W : Nat} {Pre : Pt → Array Value → Prop} {Post : Pt → Array Value → Option Value → Pt → Prop} {PostX : Pt → Array Value → Addr → Pt → Prop} (hK : vx_Back l R p e below s args y 3 W Pre Post PostX)
    {b : Addr} {cellB : Cell} (hcell : T.heap[b]? = some cellB) (hobj : cellB.vm.isStatics = false) (hcls : s.vm.findClass C = some cellB.cls)
    {g : JFrame} (hg : g.method = m) (hsize : g.locals.size = c.maxLocals) {argsL rest : List Value} (hlen : ∀ sig, parseMethodDescriptor y.desc = some sig → argsL.length = sig.parameters.length)
    (hstack : g.stack = argsL.reverse ++ .ref b :: rest) (hW : 2 * g.monitorRoom + (rest.map fun v => v.category).sum ≤ W) (hdg : decode c.code g.pc = .ok (.invokevirtual index, 3))
    (hpre : ∀ vm₁, s.WarmedH vm₁ → Pre ⟨T.setVm vm₁, locs, cells, slots⟩ (Value.ref b :: argsL).toArray) :
    (∃ (v : Option Value) (vm₁ : Vm) (B : Pt), s.WarmedH vm₁ ∧ Stand p l e R s m args below meth c B.U B.locs B.cells B.slots ∧ Post ⟨T.setVm vm₁, locs, cells, slots⟩ (Value.ref b :: argsL).toArray v B ∧
      ∀ target, Steps p.tables e below (B.U.setTop { g with pc := g.pc + 3, stack := v.toList ++ rest }) target → Steps p.tables e below (T.setTop g) target) ∨
    (∃ (q : Addr) (vm₁ : Vm) (B : Pt), s.WarmedH vm₁ ∧ Stand p l e R s m args below meth c B.U B.locs B.cells B.slots ∧ PostX ⟨T.setVm vm₁, locs, cells, slots⟩ (Value.ref b :: argsL).toArray q B ∧
      Steps p.tables e below (T.setTop g) ((B.U.setTop { g with stack := rest }).pushFrame (.throwing q))) := by
  obtain ⟨mk, methM, hnamed, hmethM, hstM, habM⟩ := Cond.instanceMethod_spec hinst
  obtain ⟨methM', cM, hmethM', -, -, -, -, -, -, hsigM⟩ := Cond.code_spec hnamed hcode
  cases hmethM.symm.trans hmethM'
  obtain ⟨c2, r2, m2, q1, q2, q3, q4, kP, hkP, hkPi⟩ := Cond.selects_spec hsel
  cases hcls.symm.trans q1
  cases (State.methodFound?_of_named hnamed hy).symm.trans q2
  cases hnamed.symm.trans q3
  have hselP : selectMethod e.platform s.vm cellB.cls mk = .method mk := by rw [Launch.admits_selectMethod X.admits]; exact q4
  obtain ⟨vm₁, X₁, hstep₁⟩ := X.invokevirtualNest hexec hown hlink hnamed hmethM hstM hkP hkPi hy (a := b) (cell := cellB) hcell
    (fun z h => by rw [h] at hobj; cases hobj) hselP hmethM habM hkP hkPi (g := g) hg (argsL := argsL) (rest := rest) (hlen _ hsigM) hstack hdg
  rcases hK m meth c ⟨T.setVm vm₁, locs, cells, slots⟩ { g with stack := rest } (.invokevirtual index) mk (Value.ref b :: argsL).toArray X₁ hg hsize hdg hW (X₁.named hnamed) (hpre vm₁ X₁.warmed) with ⟨v, B, X', hpost, hsteps⟩ | ⟨q, B, X', hpost, hsteps⟩
  · exact Or.inl ⟨v, vm₁, B, X₁.warmed, X', hpost, fun target h => hstep₁ _ fun acts => by rw [doInvoke_state]; exact hsteps.trans h⟩
  · exact Or.inr ⟨q, vm₁, B, X₁.warmed, X', hpost, hstep₁ _ fun acts => by rw [doInvoke_state]; exact hsteps⟩
theorem vx_callSN (X : Stand p l e R s m args below meth c T locs cells slots) (hexec : p.tables.exec = Jvm.exec) {own : String} {index : Nat} {host : String} {y : MethodName} {bytes : ByteArray} {maxL : Nat} {ret : Option FieldType}
    (hown : s.vm.findClass own = some m.cls) (hlink : (Cond.methodLinkNest own index y host).before args s = true) (hstat : (Cond.static y).before args s = true) (hinit : (Cond.initialized y.cls).before args s = true)
    (hcode : (Cond.code y bytes maxL ret).before args s = true) (hy : y.cls ≠ "java/lang/invoke/MethodHandle" ∧ y.cls ≠ "java/lang/invoke/VarHandle")
    {W : Nat} {Pre : Pt → Array Value → Prop} {Post : Pt → Array Value → Option Value → Pt → Prop} {PostX : Pt → Array Value → Addr → Pt → Prop} (hK : vx_Back l R p e below s args y 3 W Pre Post PostX)
    {g : JFrame} (hg : g.method = m) (hsize : g.locals.size = c.maxLocals) {argsL rest : List Value} (hlen : ∀ sig, parseMethodDescriptor y.desc = some sig → argsL.length = sig.parameters.length)
    (hstack : g.stack = argsL.reverse ++ rest) (hW : 2 * g.monitorRoom + (rest.map fun v => v.category).sum ≤ W) (hdg : decode c.code g.pc = .ok (.invokestatic index, 3))
    (hpre : ∀ vm₁, s.WarmedH vm₁ → Pre ⟨T.setVm vm₁, locs, cells, slots⟩ argsL.toArray) :
    (∃ (v : Option Value) (vm₁ : Vm) (B : Pt), s.WarmedH vm₁ ∧ Stand p l e R s m args below meth c B.U B.locs B.cells B.slots ∧ Post ⟨T.setVm vm₁, locs, cells, slots⟩ argsL.toArray v B ∧
      ∀ target, Steps p.tables e below (B.U.setTop { g with pc := g.pc + 3, stack := v.toList ++ rest }) target → Steps p.tables e below (T.setTop g) target) ∨
    (∃ (q : Addr) (vm₁ : Vm) (B : Pt), s.WarmedH vm₁ ∧ Stand p l e R s m args below meth c B.U B.locs B.cells B.slots ∧ PostX ⟨T.setVm vm₁, locs, cells, slots⟩ argsL.toArray q B ∧
      Steps p.tables e below (T.setTop g) ((B.U.setTop { g with stack := rest }).pushFrame (.throwing q))) := by
  obtain ⟨mk, hnamed⟩ := Cond.code_named hcode
  obtain ⟨methM, cM, hmethM, -, -, -, -, -, -, hsigM⟩ := Cond.code_spec hnamed hcode
  have hstatic : methM.isStatic = true := Cond.static_spec hnamed hmethM hstat
  obtain ⟨kP, hkP, -⟩ := className_of_methodNamed hnamed
  have hinitP : kP.init = .initialized := Cond.initialized_spec (findClass_of_methodNamed hnamed) hkP hinit
  obtain ⟨vm₁, X₁, hstep₁⟩ := X.invokestaticNest hexec hown hlink hnamed hmethM hstatic hkP hinitP hy (g := g) hg (argsL := argsL) (rest := rest) (hlen _ hsigM) hstack hdg
  rcases hK m meth c ⟨T.setVm vm₁, locs, cells, slots⟩ { g with stack := rest } (.invokestatic index) mk argsL.toArray X₁ hg hsize hdg hW (X₁.named hnamed) (hpre vm₁ X₁.warmed) with ⟨v, B, X', hpost, hsteps⟩ | ⟨q, B, X', hpost, hsteps⟩
  · exact Or.inl ⟨v, vm₁, B, X₁.warmed, X', hpost, fun target h => hstep₁ _ fun acts => by rw [doInvoke_state]; exact hsteps.trans h⟩
  · exact Or.inr ⟨q, vm₁, B, X₁.warmed, X', hpost, hstep₁ _ fun acts => by rw [doInvoke_state]; exact hsteps⟩
theorem vx_runVN {y : MethodName} {bytes cc : ByteArray} {maxL nL mc ms n index : Nat} {ret : Option FieldType} {ws : List Cond} {rm : Room} {Pc : Array Value → State → Prop} {Qc : Array Value → State → Outcome → State → Prop} {XC : String → State → State → Prop} {free : Addr → Prop} {Ts : List Cond} {own C host : String} {b : Addr} {As rest : List Value} {g : JFrame}
    (S : CallFix p m c cc nL s args Ts own) (hM : vx_Met l y ws rm Pc Qc XC mc ms free) (cw : va_CN R s args own index y host bytes maxL ret ws rm mc ms n ∧ (Cond.instanceMethod y).before args s = true ∧ (Cond.selects C y y).before args s = true) (hp : PreV s H C b Pc As)
    (hg : g.method = m) (hn : As.length = n) (hsize : g.locals.size = nL) (hstack : g.stack = As.reverse ++ .ref b :: rest) (hW : 2 * g.monitorRoom + (rest.map fun v => v.category).sum ≤ 8) (hdg : decode cc g.pc = .ok (.invokevirtual index, 3)) (hf : cells + mc ≤ R.cells ∧ slots + ms ≤ R.slots) :
    vx_Run p l e R s m args below meth c H locs cells slots mc ms g rest (Qc (Value.ref b :: As).toArray) XC free := by
  obtain ⟨⟨⟨hrc, hrs, hfr, hlo, hws, hcw⟩, hcode, hini, hy, hlen, hl⟩, hx1, hx2⟩ := cw
  have hK : vx_Back l R p e below s args y 3 8 (PreOf R mc ms Pc) (PostOf Qc mc ms free) (vx_Post XC mc ms free) := vx_back (bytes := bytes) (maxL := maxL) (ret := ret) hM hp.1 hrc hrs hfr hlo hws hcw (fun a' U hW => word_at hW (Or.inl (by first | rfl | simp [Cond.onTables, Cond.keeps, Cond.steady])) hini)
  obtain ⟨hx, hb, hml, ho, -⟩ := S
  obtain ⟨-, ⟨cellB, hcB, hoB, hclB⟩, hPc⟩ := hp
  intro T hT X
  rcases vx_callVN X hx (C := C) (bytes := bytes) (maxL := maxL) (ret := ret) ho hl hx1 hx2 hcode hy hK (by rw [hT]; exact hcB) hoB hclB hg (hsize.trans hml.symm) (argsL := As) (rest := rest) (fun sig h => hn.trans (hlen sig h)) hstack hW (by rw [hb]; exact hdg)
    (fun vm₁ hW₁ => ⟨hf.1, hf.2, hPc (T.setVm vm₁) hT hW₁⟩) with ⟨v, vm₁, ⟨U', l2, c2, s2⟩, hW₁, X', ⟨g', mk, t, L, e1, e2, hq, h1, hL, h2, h3⟩, st⟩ | ⟨q, vm₁, ⟨U', l2, c2, s2⟩, hW₁, X', ⟨g', mk, t, L, E, ce, e1, e2, hq, hce, hcv, hcl, h1, hL, h2, h3⟩, st⟩
  · dsimp only [Pt.U, Pt.locs, Pt.cells, Pt.slots] at X' e1 e2 h1 h2 h3 st
    subst h1; subst h2; subst h3
    exact Or.inl ⟨v, (T.setVm vm₁).calling g' mk (Value.ref b :: As).toArray, t, U', L, hT, X', hL, e1, e2, hq, st⟩
  · dsimp only [Pt.U, Pt.locs, Pt.cells, Pt.slots] at X' e1 e2 h1 h2 h3 st hcl
    subst h1; subst h2; subst h3
    exact Or.inr ⟨q, (T.setVm vm₁).calling g' mk (Value.ref b :: As).toArray, t, U', L, E, ce, hT, X', hL, e1, e2, hq, hce, hcv, vx_cls hW₁ hcl, st⟩
theorem vx_runSN {y : MethodName} {bytes cc : ByteArray} {maxL nL mc ms n index : Nat} {ret : Option FieldType} {ws : List Cond} {rm : Room} {Pc : Array Value → State → Prop} {Qc : Array Value → State → Outcome → State → Prop} {XC : String → State → State → Prop} {free : Addr → Prop} {Ts : List Cond} {own host : String} {As rest : List Value} {g : JFrame}
    (S : CallFix p m c cc nL s args Ts own) (hM : vx_Met l y ws rm Pc Qc XC mc ms free) (cw : va_CN R s args own index y host bytes maxL ret ws rm mc ms n ∧ (Cond.static y).before args s = true ∧ True) (hp : PreS s H Pc As)
    (hg : g.method = m) (hn : As.length = n) (hsize : g.locals.size = nL) (hstack : g.stack = As.reverse ++ rest) (hW : 2 * g.monitorRoom + (rest.map fun v => v.category).sum ≤ 8) (hdg : decode cc g.pc = .ok (.invokestatic index, 3)) (hf : cells + mc ≤ R.cells ∧ slots + ms ≤ R.slots) :
    vx_Run p l e R s m args below meth c H locs cells slots mc ms g rest (Qc As.toArray) XC free := by
  obtain ⟨⟨⟨hrc, hrs, hfr, hlo, hws, hcw⟩, hcode, hini, hy, hlen, hl⟩, hx1, hx2⟩ := cw
  have hK : vx_Back l R p e below s args y 3 8 (PreOf R mc ms Pc) (PostOf Qc mc ms free) (vx_Post XC mc ms free) := vx_back (bytes := bytes) (maxL := maxL) (ret := ret) hM hp.1 hrc hrs hfr hlo hws hcw (fun a' U hW => word_at hW (Or.inl (by first | rfl | simp [Cond.onTables, Cond.keeps, Cond.steady])) hini)
  obtain ⟨hx, hb, hml, ho, -⟩ := S
  have hPc := hp.2
  intro T hT X
  rcases vx_callSN X hx (bytes := bytes) (maxL := maxL) (ret := ret) ho hl hx1 hini hcode hy hK hg (hsize.trans hml.symm) (argsL := As) (rest := rest) (fun sig h => hn.trans (hlen sig h)) hstack hW (by rw [hb]; exact hdg)
    (fun vm₁ hW₁ => ⟨hf.1, hf.2, hPc (T.setVm vm₁) hT hW₁⟩) with ⟨v, vm₁, ⟨U', l2, c2, s2⟩, hW₁, X', ⟨g', mk, t, L, e1, e2, hq, h1, hL, h2, h3⟩, st⟩ | ⟨q, vm₁, ⟨U', l2, c2, s2⟩, hW₁, X', ⟨g', mk, t, L, E, ce, e1, e2, hq, hce, hcv, hcl, h1, hL, h2, h3⟩, st⟩
  · dsimp only [Pt.U, Pt.locs, Pt.cells, Pt.slots] at X' e1 e2 h1 h2 h3 st
    subst h1; subst h2; subst h3
    exact Or.inl ⟨v, (T.setVm vm₁).calling g' mk As.toArray, t, U', L, hT, X', hL, e1, e2, hq, st⟩
  · dsimp only [Pt.U, Pt.locs, Pt.cells, Pt.slots] at X' e1 e2 h1 h2 h3 st hcl
    subst h1; subst h2; subst h3
    exact Or.inr ⟨q, (T.setVm vm₁).calling g' mk As.toArray, t, U', L, E, ce, hT, X', hL, e1, e2, hq, hce, hcv, vx_cls hW₁ hcl, st⟩
end
/-! ===== END ===== -/
end
section
/-! SOUNDNESS OF ONE STEP: behind a call -/
theorem EnvT.warm {s U : State} (hW : s.WarmedH U.vm) (h : EnvT s) : EnvT U := by
  obtain ⟨h1, h2, h3, h4, h5, h6⟩ := h
  refine ⟨fun w hw => ?_, fun q hq => ?_, va_AO.moved hW.alike h3, fun k hk => va_Nw.warmC hW (h4 k hk), fun k k' hk hk' hne => va_Nc.moved hW.alike (h5 k k' hk hk' hne), fun w hw => ?_⟩
  · have h9 := h1 w hw
    simp only [nestW, List.mem_cons, List.not_mem_nil, or_false] at hw
    rcases hw with rfl | rfl | rfl | rfl | rfl | rfl | rfl | rfl <;> exact va_Nw.warmM hW h9
  · obtain ⟨a, ha⟩ := h2 q hq
    exact ⟨a, vk_R.warm hW ha⟩
  · have h9 := h6 w hw
    simp only [decW, List.mem_cons, List.not_mem_nil, or_false] at hw
    rcases hw with rfl | rfl | rfl <;> exact va_Nw.warmD hW h9
theorem EnvT.same {s U : State} (hv : U.vm = s.vm) (h : EnvT s) : EnvT U := by
  have hal : s.vm.Alike U.vm := by rw [hv]; exact Vm.Alike.refl _
  obtain ⟨h1, h2, h3, h4, h5, h6⟩ := h
  refine ⟨fun w hw => ?_, fun q hq => ?_, va_AO.moved hal h3, fun k hk => va_Nw.same rfl hv.symm (h4 k hk), fun k k' hk hk' hne => va_Nc.moved hal (h5 k k' hk hk' hne), fun w hw => ?_⟩
  · have h9 := h1 w hw
    simp only [nestW, List.mem_cons, List.not_mem_nil, or_false] at hw
    rcases hw with rfl | rfl | rfl | rfl | rfl | rfl | rfl | rfl <;> exact va_Nw.same rfl hv.symm h9
  · obtain ⟨a, ha⟩ := h2 q hq
    exact ⟨a, vk_R.same hv ha⟩
  · have h9 := h6 w hw
    simp only [decW, List.mem_cons, List.not_mem_nil, or_false] at hw
    rcases hw with rfl | rfl | rfl <;> exact va_Nw.same rfl hv.symm h9
theorem EnvZ.moved {A : Nat → Prop} {s U : State} {H : Heap} (hvm : s.vm.Alike U.vm) (h : EnvZ A s H) : EnvZ A U H := ⟨vx_Zq.moved hvm h.1, vx_Zq.moved hvm h.2⟩
theorem EnvZ.kept {A : Nat → Prop} {s : State} {H H1 : Heap} (h : EnvZ A s H) (hq : ∀ a : Nat, a < H.size → ¬ A a → H1[a]? = H[a]?) : EnvZ A s H1 := ⟨vx_Zq.kept h.1 hq, vx_Zq.kept h.2 hq⟩
theorem EnvZ.narrow {A B : Nat → Prop} {s : State} {H : Heap} (h : EnvZ A s H) (hAB : ∀ q, B q → A q) : EnvZ B s H := ⟨vx_Zq.narrow h.1 hAB, vx_Zq.narrow h.2 hAB⟩
theorem PcO.blind (D : va_G) (K : Nat → ClassId) (ad : Nat → Nat) (sz : Nat) (as : List Value) (w : Wd) : FrameBlind (PcO D K ad sz as w) := by
  intro a U g mk q
  obtain ⟨q0, q1, q2, q3, q4, q5, q6, q7⟩ := q
  exact ⟨q0, q1, q2, q3, q4, va_K.moved (u := U) (U := U.calling g mk a) (Vm.Alike.refl U.vm) q5, EnvT.same (s := U) (U := U.calling g mk a) rfl q6, EnvZ.moved (s := U) (U := U.calling g mk a) (Vm.Alike.refl U.vm) q7⟩
/-- what a call asks of the caller's state -/
theorem PcO.of {p : Program} {s : State} {D : va_G} {K : Nat → ClassId} {A : Nat → Prop} {ad : Nat → Nat} {w : Wd} {as : List Value} {H : Heap} {locs : List Loc} (hK : va_K D vwCl (tysK K) s) (hT : EnvT s) (hZ : EnvZ A s s.heap) (hA1 : ∀ q, va_A (wsW K ad w) H.size q → A q) (hW : WPd D K A ad w H) (hS : va_S A s.heap H locs) :
    ∀ U : State, U.heap = H → s.WarmedH U.vm → PcO D K ad H.size as w (as.map (cv ad)).toArray U := by
  intro U hU hWm
  obtain ⟨hP, hD, hwf⟩ := hW
  exact ⟨rfl, by rw [hU], by rw [hU]; exact hP, hD.weaken (fun _ _ _ _ => trivial), hwf, va_K.moved hWm.alike hK, hT.warm hWm, by rw [hU]; exact EnvZ.moved hWm.alike ((hZ.kept hS.2.1).narrow hA1)⟩
theorem vaA_in {D : va_G} {K : Nat → ClassId} {A : Nat → Prop} {ad : Nat → Nat} {w : Wd} {s : State} {H : Heap} {locs : List Loc} (hD : va_D A (wsW K ad w)) (hS : va_S A s.heap H locs) (hA : ∀ q, s.heap.size ≤ q → A q) : ∀ q, va_A (wsW K ad w) H.size q → A q := by
  intro q h
  rcases h with ⟨k, e, h⟩ | h
  · exact hD.2 k (q, e) h
  · exact hA q (Nat.le_trans hS.1 h)
set_option maxHeartbeats 2000000 in
theorem so_aft {p : Program} {l : Launch} {e : Env} {R : Room} {s : State} {m : MethodId} {args : Array Value} {below : List Frame} {meth : Method} {c : Code} {D : va_G} {K : Nat → ClassId} {A : Nat → Prop} {ad0 : Nat → Nat} {n0 nL : Nat} {Sx : (Nat → Nat) → Prop} {Qm : State → Prop} {hn : Nat → String → Option Nat} {pc : Nat} {ls : List (Nat × Value)} {r : List Value} {w : Wd} {nc ns mc ms : Nat} {rt : Option FieldType} {P : Res → Wd → Prop} {a : Array Value} {st0 : List Value} {ad : Nat → Nat} {H : Heap} {locs : List Loc} {lsx : Array Slot}
    (hSx : ∀ ad ad', Sx ad → ad' 1000001 = ad 1000001 → Sx ad') (hA : ∀ q, s.heap.size ≤ q → A q)
    (hCat : ∀ (E : String) (h9 : Nat) (ce : Cell) (q9 : Addr) (H1 : Heap) (locs1 : List Loc) (rest : List Value), hn pc E = some h9 → H1[q9]? = some ce → ce.vm = .none → s.vm.findClass E = some ce.cls → W p l e R s m args below meth c H1 locs1 (nc + mc) (ns + ms) Qm (F0 m h9 lsx [.ref q9]) → vx_W p l e R s m args below meth c H1 locs1 (nc + mc) (ns + ms) Qm (F0 m pc lsx rest) q9)
    (hr : vx_Run p l e R s m args below meth c H locs nc ns mc ms (F0 m pc lsx st0) (r.map (cv ad)) (QcO rt D K (va_A (wsW K ad w) H.size) ad w P a) (XcO D K (va_A (wsW K ad w) H.size) ad w P) (va_A (wsW K ad w) H.size))
    (hW : WPd D K A ad w H) (hS : va_S A s.heap H locs) (hag : ∀ i, i ≤ n0 → ad i = ad0 i) (hn0 : n0 ≤ w.1.1) (hsx : Sx ad) (hl : lv_has lsx nL (cvl ad ls))
    (h : ∀ (rs : Res) (w' : Wd), P rs w' → aftC hn (pc + 3) pc ls r w (nc + mc) (ns + ms) (MW p l e R s m args below meth c D K A ad0 n0 nL Sx Qm) rs w') :
    W p l e R s m args below meth c H locs nc ns Qm (F0 m pc lsx st0) := by
  have hA1 := vaA_in (D := D) hW.2.1 hS hA
  have conv : ∀ (u : Wd × (Nat → Nat)) (t : State), BW D K (va_A (wsW K ad w) H.size) ad w u t → (u.1.1.1 = w.1.1 ∨ frB w.1.1 u.1.1.1 r ls) → r.map (cv u.2) = r.map (cv ad) ∧ cvl u.2 ls = cvl ad ls := by
    intro u t hB hfr
    rcases hfr with hfr | hfr
    · have : u.2 = ad := funext fun i => hB.2.1 i (by omega)
      rw [this]
      exact ⟨rfl, rfl⟩
    · exact frB_map hfr (fun x hx => hB.2.1 x hx)
  have done : ∀ (v : Option Value) (vs : List Value), (∀ ad' : Nat → Nat, v.toList.map (cv ad') = vs) → ∀ (u : Wd × (Nat → Nat)) (t : State) (H1 : Heap) (locs1 : List Loc), t.heap = H1 → P (.inl v) u.1 → BW D K (va_A (wsW K ad w) H.size) ad w u t → va_S A s.heap H1 locs1 → W p l e R s m args below meth c H1 locs1 (nc + mc) (ns + ms) Qm (F0 m (pc + 3) lsx (vs ++ r.map (cv ad))) := by
    intro v vs hvs u t H1 locs1 ht hp hB hS1
    obtain ⟨hfr, hX⟩ := h (.inl v) u.1 hp
    obtain ⟨c1, c2⟩ := conv u t hB hfr
    obtain ⟨⟨b1, b2, b3⟩, b4, b5⟩ := id hB
    rw [ht] at b1
    have hX' : MW p l e R s m args below meth c D K A ad0 n0 nL Sx Qm (pc + 3, ls, v.toList ++ r, u.1, nc + mc, ns + ms) := by
      cases v with
      | none => exact hX
      | some v => exact hX
    have := hX' u.2 H1 locs1 lsx ⟨b1, b2.weaken (fun _ _ _ q => hA1 _ q), b3⟩ hS1 (fun i hi => (b4 i (Or.inl (Nat.le_trans hi hn0))).trans (hag i hi)) (Nat.le_trans hn0 b5) (hSx ad _ hsx (b4 _ (Or.inr (by have := b3.2.2; omega)))) (by rw [c2]; exact hl)
    rw [List.map_append, c1, hvs] at this
    exact this
  have kx : ∀ (E : String) (ce : Cell) (q9 : Addr) (u : Wd × (Nat → Nat)) (t : State) (H1 : Heap) (locs1 : List Loc), t.heap = H1 → s.vm.Alike t.vm → True → (P (.inr E) u.1 ∧ BW D K (va_A (wsW K ad w) H.size) ad w u t) → H.size ≤ H1.size → (∀ q : Nat, q < H.size → ¬ va_A (wsW K ad w) H.size q → H1[q]? = H[q]?) → va_S A s.heap H1 locs1 → H1[q9]? = some ce → ce.vm = .none → s.vm.findClass E = some ce.cls → vx_W p l e R s m args below meth c H1 locs1 (nc + mc) (ns + ms) Qm (F0 m pc lsx (r.map (cv ad))) q9 := by
    intro E ce q9 u t H1 locs1 ht hvm _ hPB _ _ hS1 hce hcv hcl
    obtain ⟨hp, hB⟩ := hPB
    obtain ⟨hfr, hX⟩ := h (.inr E) u.1 hp
    obtain ⟨c1, c2⟩ := conv u t hB hfr
    obtain ⟨⟨b1, b2, b3⟩, b4, b5⟩ := id hB
    rw [ht] at b1
    cases hh : hn pc E with
    | none =>
      dsimp only at hX
      rw [hh] at hX
      exact hX.elim
    | some h9 =>
      dsimp only at hX
      rw [hh] at hX
      obtain ⟨hno, hX⟩ := hX
      refine hCat E h9 ce q9 H1 locs1 _ hh hce hcv hcl ?_
      have hws : wsW K (upA u.2 1000000 q9) u.1 = wsW K u.2 u.1 := wsW_congr K u.2 _ u.1 b3 (fun i hi => upA_n _ _ (by have := b3.2.2; omega))
      have hcl2 : cvl (upA u.2 1000000 q9) ls = cvl u.2 ls := by
        unfold cvl
        refine List.map_congr_left (fun q hq => ?_)
        have hqn := hno q hq
        obtain ⟨i, v⟩ := q
        show (i, cv _ v) = (i, cv _ v)
        cases v with
        | ref a => cases a with
          | zero => rfl
          | succ a =>
            have : a + 1 ≠ 1000000 := fun z => hqn (congrArg Value.ref z)
            show (i, Value.ref _) = (i, Value.ref _)
            rw [upA_n _ _ this]
        | _ => rfl
      have := hX (upA u.2 1000000 q9) H1 locs1 lsx ⟨by rw [hws]; exact b1, by rw [hws]; exact b2.weaken (fun _ _ _ q => hA1 _ q), b3⟩ hS1 (fun i hi => (upA_n _ _ (by have := b3.2.2; omega)).trans ((b4 i (Or.inl (Nat.le_trans hi hn0))).trans (hag i hi))) (Nat.le_trans hn0 b5) (hSx ad _ hsx ((upA_n _ _ (by omega)).trans (b4 _ (Or.inr (by have := b3.2.2; omega))))) (by rw [hcl2, c2]; exact hl)
      have e1 : [Value.ref 1000000].map (cv (upA u.2 1000000 q9)) = [Value.ref q9] := by
        show [cv _ (.ref 1000000)] = _
        rw [cv_pos _ (by omega), upA_s]
      rw [← e1]
      exact this
  cases rt with
  | none => exact vx_callv (a := a) hr hS (fun q _ hq => hA1 q hq) hA1 (fun q _ hq => hA1 q hq) kx (fun u t H1 locs1 ht hvm hp hB hz hk hS1 => done none [] (fun _ => rfl) u t H1 locs1 ht hp hB hS1)
  | some ty =>
    cases ty with
    | long => exact vx_calll (a := a) hr hS (fun q _ hq => hA1 q hq) hA1 (fun q _ hq => hA1 q hq) kx (fun x u t H1 locs1 ht hvm hp hB hz hk hS1 => done (some (.long x)) [.long x] (fun _ => rfl) u t H1 locs1 ht hp hB hS1)
    | _ => exact vx_calli (a := a) hr hS (fun q _ hq => hA1 q hq) hA1 (fun q _ hq => hA1 q hq) kx (fun x u t H1 locs1 ht hvm hp hB hz hk hS1 => done (some (.int x)) [.int x] (fun _ => rfl) u t H1 locs1 ht hp hB hS1)
end
section
def isC : Instr → Bool
  | .invokespecial .. => true
  | .invokevirtual .. => true
  | .invokestatic .. => true
  | _ => false
/-! SOUNDNESS OF ONE STEP: calls -/
theorem GG_in {ws : List Cond} (h : ∀ w ∈ ws, w ∈ GG) : GoodIn GG ws := fun w hw => ⟨h w hw, good_of_word (List.mem_filter.mp (h w hw)).2⟩
theorem hdW_code {j : Nat} (h : hhT j = []) : hdW j = .code (yN j) (bC j) (mL j) (rT j) := by
  unfold hdW
  rw [h]
theorem hdW_with {j : Nat} {q : Nat × Nat × Nat × Nat} {r : List (Nat × Nat × Nat × Nat)} (h : hhT j = q :: r) : hdW j = .codeWith (yN j) (bC j) (mL j) (rT j) (q :: r) := by
  unfold hdW
  rw [h]
theorem nestOk_in {i own idx : Nat} {y : MethodName} {o : String} (h : nestOk i own idx y o = true) : ∃ host : String, Cond.methodLinkNest o idx y host ∈ nestW := by
  simp only [nestOk, decide_eq_true_eq] at h
  exact ⟨_, List.mem_of_getElem? h⟩
theorem kO_lt : ∀ j, (yN j).name = "<init>" → kO j < 7 := by
  have key : (List.range 133).all (fun j => decide ((yN j).name = "<init>" → kO j < 7)) = true := by decide +kernel
  intro j h
  by_cases hj : j < 133
  · exact of_decide_eq_true (List.all_eq_true.mp key j (List.mem_range.mpr hj)) h
  · obtain ⟨k, rfl⟩ : ∃ k, j = k + 133 := ⟨j - 133, by omega⟩
    exact absurd (show ("" : String) = "<init>" from h) (by decide)
set_option maxHeartbeats 4000000 in
theorem so_call {p : Program} {l : Launch} {e : Env} {R : Room} {s : State} {m : MethodId} {args : Array Value} {below : List Frame} {meth : Method} {c : Code} {D : va_G} {K : Nat → ClassId} {A : Nat → Prop} {ad0 : Nat → Nat} {n0 nL : Nat} {Sx : (Nat → Nat) → Prop} {Qm : State → Prop} {j : Nat}
  (hx : p.tables.exec = Jvm.exec) (hb : c.code = bC j) (hml : c.maxLocals = nL) (hnL : nL = mL j) (hown : s.vm.findClass (ownO j) = some m.cls) (hts : ∀ w ∈ GG, w.before args s = true)
  {C : Cal} {SX : Option (Nat × (Nat → Int32))} {mxc mxs d1 : Nat} {hn : Nat → String → Option Nat} {Rt : Option Value → Wd → Nat → Nat → Prop} {Th : String → Wd → Nat → Nat → Prop} {ins : Instr} {nx : Nat} {aux : List Nat} {kc : Int32} {kl : Int64} {pc : Nat} {ls : List (Nat × Value)} {st : List Value} {w : Wd} {nc ns : Nat}
  (hK : va_K D vwCl (tysK K) s) (hT : EnvT s) (hZ : EnvZ A s s.heap) (hA : ∀ q, s.heap.size ≤ q → A q) (hSx : ∀ ad ad', Sx ad → ad' 1000001 = ad 1000001 → Sx ad') (hRc : R.cells = mxc) (hRs : R.slots = mxs) (hRf : d1 + 1 ≤ R.frames) (hRl : 19 + mxO j + 34 * d1 ≤ R.locals) (h5no : ∀ i r, ins = .invokestatic i → aux ≠ 5 :: r)
  (hC : ∀ (jc : Nat) (as : List Value) (w : Wd) (P : Res → Wd → Prop), C jc as w P → Ctr l d1 jc as w P)
  (hCat : ∀ (E : String) (h9 : Nat) (ce : Cell) (q9 : Addr) (H1 : Heap) (locs1 : List Loc) (lsx : Array Slot) (rest : List Value) (c9 s9 : Nat), hn pc E = some h9 → H1[q9]? = some ce → ce.vm = .none → s.vm.findClass E = some ce.cls → W p l e R s m args below meth c H1 locs1 c9 s9 Qm (F0 m h9 lsx [.ref q9]) → vx_W p l e R s m args below meth c H1 locs1 c9 s9 Qm (F0 m pc lsx rest) q9)
  (hs : isC ins = true) (hrow : okRow j pc (ins, nx, aux, kc, kl) = true) (h : stepI C mjT kO nA SX mxc mxs hn Rt Th ins nx aux kc kl pc ls st w nc ns (MW p l e R s m args below meth c D K A ad0 n0 nL Sx Qm)) : MW p l e R s m args below meth c D K A ad0 n0 nL Sx Qm (pc, ls, st, w, nc, ns) := by
  have hmx : 12 ≤ mxO j := by
    unfold mxO
    split <;> omega
  have room : ∀ {lsx : Array Slot} {H : Heap} {ad : Nat → Nat} {r : List Value}, catS r ≤ 8 → 2 * (F0 m pc lsx (r.map (cv ad))).monitorRoom + ((r.map (cv ad)).map fun v => v.category).sum ≤ 8 := by
    intro lsx H ad r hr
    exact lv_room (by rw [catS_map]; exact hr)
  have bound : ∀ {jc : Nat}, mL jc ≤ mxO j → 8 + (mL jc + 11) + (rmO d1 jc).locals ≤ R.locals := by
    intro jc h9
    show 8 + (mL jc + 11) + 34 * d1 ≤ R.locals
    omega
  -- the words of a callee
  have wds : ∀ {jc ph pi : Nat}, cOk j jc ph pi = true → hdW jc ∈ GG ∧ Cond.initialized (yN jc).cls ∈ GG ∧ ((yN jc).cls ≠ "java/lang/invoke/MethodHandle" ∧ (yN jc).cls ≠ "java/lang/invoke/VarHandle" ∧ (parseMethodDescriptor (yN jc).desc).map (fun d => d.parameters.length) = some (nA jc)) ∧ mL jc ≤ mxO j := by
    intro jc ph pi h9
    simp only [cOk, Bool.and_eq_true, decide_eq_true_eq] at h9
    obtain ⟨q1, q2, q3, q4, q5, q6, q7⟩ := h9
    exact ⟨wAt_in q1, wAt_in q2, ⟨q3, q4, q5⟩, q7⟩
  have inW : ∀ {jc : Nat} {L : List Cond}, hdW jc ∈ GG → (∀ w ∈ L, w ∈ GG) → ∀ w ∈ L ++ (hdW jc :: GG), w ∈ GG := by
    intro jc L h1 h2 w hw
    rcases List.mem_append.mp hw with hw | hw
    · exact h2 w hw
    · rcases List.mem_cons.mp hw with hw | hw
      · rw [hw]; exact h1
      · exact hw
  have go : ∀ (jc : Nat) (as r st9 : List Value) (P : Res → Wd → Prop), (∀ (rs : Res) (w' : Wd), P rs w' → aftC hn (pc + 3) pc ls r w (nc + (mjT jc).1) (ns + (mjT jc).2) (MW p l e R s m args below meth c D K A ad0 n0 nL Sx Qm) rs w') → (∀ (ad : Nat → Nat) (H : Heap) (locs : List Loc) (lsx : Array Slot), WPd D K A ad w H → va_S A s.heap H locs → lv_has lsx nL (cvl ad ls) → vx_Run p l e R s m args below meth c H locs nc ns (mjT jc).1 (mjT jc).2 (F0 m pc lsx (st9.map (cv ad))) (r.map (cv ad)) (QcO (rT jc) D K (va_A (wsW K ad w) H.size) ad w P (as.map (cv ad)).toArray) (XcO D K (va_A (wsW K ad w) H.size) ad w P) (va_A (wsW K ad w) H.size)) → MW p l e R s m args below meth c D K A ad0 n0 nL Sx Qm (pc, ls, st9, w, nc, ns) := by
    intro jc as r st9 P hk q ad H locs lsx hW hS hag hn0 hsx hl
    exact so_aft hSx hA (fun E h9 ce q9 H1 locs1 rest => hCat E h9 ce q9 H1 locs1 lsx rest _ _) (q ad H locs lsx hW hS hl) hW hS hag hn0 hsx hl hk
  have mapb : ∀ (ad : Nat → Nat) (b : Nat) (as : List Value), 1 ≤ b → (Value.ref b :: as).map (cv ad) = Value.ref (ad b) :: as.map (cv ad) := fun ad b as hb1 => by rw [List.map_cons, cv_pos ad hb1]
  have stb : ∀ (ad : Nat → Nat) (b : Nat) (as r : List Value), 1 ≤ b → ((Value.ref b :: as).reverse ++ r).map (cv ad) = (as.map (cv ad)).reverse ++ Value.ref (ad b) :: r.map (cv ad) := fun ad b as r hb1 => by simp [cv_pos ad hb1]
  cases ins with
  | invokespecial i =>
    obtain ⟨t, r0, rfl, h1⟩ := aC_s h
    simp only [okRow, dOk, Bool.and_eq_true, decide_eq_true_eq] at hrow
    obtain ⟨⟨hd, rfl⟩, hq⟩ := hrow
    rcases nI1_s h1 with ⟨rfl, h2⟩ | ⟨ht, h2⟩
    · obtain ⟨a, r, rfl, ha, hcat, h9⟩ := pR_s h2
      split at hq
      · rename_i p1 p2 p3 heq
        simp only [Bool.and_eq_true] at hq
        obtain ⟨q1, q2, q3⟩ := hq
        intro ad H locs lsx hW hS hag hn0 hsx hl
        obtain ⟨hP, hD, hwf⟩ := hW
        show W p l e R s m args below meth c H locs nc ns Qm (F0 m pc lsx (cv ad (.ref a) :: r.map (cv ad)))
        rw [cv_pos ad ha]
        refine W.objInit hx hb hown (hts _ (wAt_in q1)) (hts _ (wAt_in q2)) (hts _ (wAt_in q3)) rfl (by rw [hml]; exact hl.1) rfl hd (by omega) ?_ ?_
        · have := room (lsx := lsx) (H := H) (ad := ad) hcat
          have e1 : 2 * (F0 m pc lsx (Value.ref (ad a) :: r.map (cv ad))).monitorRoom = 2 * (F0 m pc lsx (r.map (cv ad))).monitorRoom := rfl
          rw [e1]
          omega
        · exact h9 ad H locs lsx ⟨hP, hD, hwf⟩ hS hag hn0 hsx hl
      · rename_i heq
        simp at heq
      · rename_i heq
        simp at heq
      · simp at hq
    · obtain ⟨jc, r1, rfl, h3⟩ := aC_s h2
      obtain ⟨ba, r, hlen, rfl, h4⟩ := pA_s h3
      obtain ⟨b, as, rfl, ⟨hcat, hc1, hc2⟩, hkb, P, hCP, hk⟩ := pB_s h4
      refine go jc (.ref b :: as) r _ P hk (fun ad H locs lsx hW hS hl => ?_)
      have hM := hC jc _ w P hCP D K ad H.size
      have hA1 := vaA_in (D := D) hW.2.1 hS hA
      have hpc := PcO.of (p := p) (as := .ref b :: as) hK hT hZ hA1 hW hS
      have hlen' : as.length = nA jc := by simpa using hlen
      split at hq
      · rename_i heq
        simp only [List.cons.injEq] at heq
        exact absurd heq.1 ht
      · rename_i p1 p2 p3 p4 heq
        simp only [List.cons.injEq] at heq
        obtain ⟨rfl, rfl, rfl⟩ := heq
        simp only [Bool.and_eq_true, decide_eq_true_eq] at hq
        obtain ⟨c1, c2, c3, c4, c5, c6⟩ := hq
        obtain ⟨g1, g2, g3, g4⟩ := wds c1
        have hb1 : 1 ≤ b := (wf_in hW.2.2 hkb (by have := kO_lt jc c4; omega)).1
        rw [mapb ad b as hb1] at hpc ⊢
        rw [stb ad b as r hb1]
        exact vx_runI ⟨hx, hb, hml, hown, hts⟩ hM (cwI (maxL := mL jc) (bytes := bC jc) (nA jc) hts (GG_in (inW (L := []) g1 (fun _ h => nomatch h))) (by rw [hdW_code c6, c5]) rfl rfl (hts _ g2) (hts _ (wAt_in c3)) (hts _ (wAt_in c2)) c4 g3 ⟨hRf, bound g4⟩) ⟨PcO.blind D K ad H.size _ w, hpc⟩ rfl (by simpa using hlen') hl.1 rfl (room (lsx := lsx) (H := H) (ad := ad) hcat) hd (by rw [hRc, hRs]; exact ⟨hc1, hc2⟩)
      · rename_i p1 p2 p3 q9 heq
        simp only [List.cons.injEq] at heq
        obtain ⟨rfl, rfl, rfl⟩ := heq
        simp only [Bool.and_eq_true, decide_eq_true_eq] at hq
        obtain ⟨c1, c2, c3, c4, c5, c6⟩ := hq
        obtain ⟨g1, g2, g3, g4⟩ := wds c1
        obtain ⟨host, hho⟩ := nestOk_in c3
        have hb1 : 1 ≤ b := (wf_in hW.2.2 hkb (by have := kO_lt jc c4; omega)).1
        rw [mapb ad b as hb1] at hpc ⊢
        rw [stb ad b as r hb1]
        exact vx_runIN ⟨hx, hb, hml, hown, hts⟩ hM ⟨va_cnB (maxL := mL jc) (bytes := bC jc) (nA jc) hts (GG_in (inW (L := []) g1 (fun _ h => nomatch h))) (by rw [hdW_code c6, c5]) rfl rfl (hT.1 _ hho) (hts _ g2) g3 ⟨hRf, bound g4⟩, c4, hts _ (wAt_in c2)⟩ ⟨PcO.blind D K ad H.size _ w, hpc⟩ rfl (by simpa using hlen') hl.1 rfl (room (lsx := lsx) (H := H) (ad := ad) hcat) hd (by rw [hRc, hRs]; exact ⟨hc1, hc2⟩)
      · simp at hq
  | invokevirtual i =>
    obtain ⟨jc, r1, rfl, h2⟩ := aC_s h
    simp only [okRow, dOk, Bool.and_eq_true, decide_eq_true_eq] at hrow
    obtain ⟨⟨hd, rfl⟩, hq⟩ := hrow
    obtain ⟨ba, r, hlen, rfl, h4⟩ := pA_s h2
    obtain ⟨b, as, rfl, ⟨hcat, hc1, hc2⟩, hkb, P, hCP, hk⟩ := pB_s h4
    refine go jc (.ref b :: as) r _ P hk (fun ad H locs lsx hW hS hl => ?_)
    have hM := hC jc _ w P hCP D K ad H.size
    have hA1 := vaA_in (D := D) hW.2.1 hS hA
    have hpc := PcO.of (p := p) (as := .ref b :: as) hK hT hZ hA1 hW hS
    have hlen' : as.length = nA jc := by simpa using hlen
    split at hq
    · rename_i p1 p2 p3 p4 p5 heq
      simp only [List.cons.injEq] at heq
      obtain ⟨rfl, rfl⟩ := heq
      simp only [Bool.and_eq_true, decide_eq_true_eq] at hq
      obtain ⟨c1, c2, c3, c4, c5, c6, c7⟩ := hq
      obtain ⟨g1, g2, g3, g4⟩ := wds c1
      have hb1 : 1 ≤ b := (wf_in hW.2.2 hkb (by omega)).1
      rw [mapb ad b as hb1] at hpc ⊢
      rw [stb ad b as r hb1]
      have hrecv := va_recv hK hW.1 (clsF (kO jc) c6).1 (ws_obj hW.2.2 hkb c6)
      rw [show ((RXc (kO jc), TXc (kO jc), nF (kO jc)) : vw_C).1 = (yN jc).cls from c7] at hrecv
      exact vx_runV ⟨hx, hb, hml, hown, hts⟩ hM (cwV (maxL := mL jc) (bytes := bC jc) (ret := rT jc) (nA jc) hts (GG_in (inW (L := [.methodLink (ownO j) i (yN jc), .instanceMethod (yN jc), .selects (yN jc).cls (yN jc) (yN jc), .initialized (yN jc).cls]) g1 (fun w hw => by
          simp only [List.mem_cons, List.not_mem_nil, or_false] at hw
          rcases hw with rfl | rfl | rfl | rfl
          · exact wAt_in c2
          · exact wAt_in c3
          · exact wAt_in c4
          · exact g2))) (by rw [hdW_code c5]) rfl rfl ⟨rfl, g3⟩ ⟨hRf, bound g4⟩) ⟨PcO.blind D K ad H.size _ w, hrecv, hpc⟩ rfl (by simpa using hlen') hl.1 rfl (room (lsx := lsx) (H := H) (ad := ad) hcat) hd (by rw [hRc, hRs]; exact ⟨hc1, hc2⟩)
    · simp at hq
  | invokestatic i =>
    obtain ⟨t, r0, rfl, h1⟩ := aC_s h
    simp only [okRow, dOk, Bool.and_eq_true, decide_eq_true_eq] at hrow
    obtain ⟨⟨hd, rfl⟩, hq⟩ := hrow
    rcases nI1_s h1 with ⟨rfl, h2⟩ | ⟨ht1, h2⟩
    · obtain ⟨y, r1, rfl, h3⟩ := pI_s h2
      obtain ⟨x, r, rfl, ⟨hcat, hnc, hns⟩, h9⟩ := pI_s h3
      split at hq
      · rename_i heq
        simp at heq
      · rename_i heq
        simp at heq
      · rename_i heq
        simp at heq
      · simp only [Bool.and_eq_true] at hq
        obtain ⟨q1, q2, q3, q4⟩ := hq
        intro ad H locs lsx hW hS hag hn0 hsx hl
        obtain ⟨hP, hD, hwf⟩ := hW
        exact va_mmin hx hb (by rw [hml]; exact hl.1.symm) hown (hts _ (wAt_in q1)) (hts _ (wAt_in q2)) (hts _ (wAt_in q3)) (hts _ (wAt_in q4)) (by omega) (by rw [catS_map]; omega) (by rw [hRc]; exact hnc) (by rw [hRs]; exact hns) hd (h9 ad H locs lsx ⟨hP, hD, hwf⟩ hS hag hn0 hsx hl)
      · rename_i heq
        simp at heq
      · rename_i heq
        simp at heq
      · simp at hq
    · rcases nI1_s h2 with ⟨rfl, h3⟩ | ⟨ht2, h3⟩
      · obtain ⟨y, r1, rfl, h4⟩ := pI_s h3
        obtain ⟨x, r, rfl, ⟨hcat, hnc, hns⟩, h9⟩ := pI_s h4
        split at hq
        · rename_i heq
          simp at heq
        · rename_i heq
          simp at heq
        · rename_i heq
          simp at heq
        · rename_i heq
          simp at heq
        · simp only [Bool.and_eq_true] at hq
          obtain ⟨q1, q2, q3, q4⟩ := hq
          intro ad H locs lsx hW hS hag hn0 hsx hl
          obtain ⟨hP, hD, hwf⟩ := hW
          exact va_mmax hx hb (by rw [hml]; exact hl.1.symm) hown (hts _ (wAt_in q1)) (hts _ (wAt_in q2)) (hts _ (wAt_in q3)) (hts _ (wAt_in q4)) (by omega) (by rw [catS_map]; omega) (by rw [hRc]; exact hnc) (by rw [hRs]; exact hns) hd (h9 ad H locs lsx ⟨hP, hD, hwf⟩ hS hag hn0 hsx hl)
        · rename_i heq
          simp at heq
        · simp at hq
      · rcases nI1_s h3 with ⟨rfl, h4⟩ | ⟨ht3, h4⟩
        · obtain ⟨n, r4, rfl, h5⟩ := pI_s h4
          obtain ⟨dp, r3, rfl, h6⟩ := pI_s h5
          obtain ⟨a, r2, rfl, h7⟩ := pR_s h6
          obtain ⟨sp, r1, rfl, h8⟩ := pI_s h7
          obtain ⟨a0, r, rfl, ⟨hcat, k0, k1, n1, n2, n3, b1, b2⟩, h9⟩ := pR_s h8
          split at hq
          · rename_i heq
            simp at heq
          · rename_i heq
            simp at heq
          · rename_i heq
            simp at heq
          · rename_i heq
            simp at heq
          · rename_i heq
            simp at heq
          · simp only [Bool.and_eq_true] at hq
            obtain ⟨q1, q2, q3, q4⟩ := hq
            intro ad H locs lsx hW hS hag hn0 hsx hl
            obtain ⟨hP, hD, hwf⟩ := hW
            show W p l e R s m args below meth c H locs nc ns Qm (F0 m pc lsx (.int n :: .int dp :: cv ad (.ref a) :: .int sp :: cv ad (.ref a0) :: r.map (cv ad)))
            rw [cv_pos ad (wf_in hwf k0 (by omega)).1, cv_pos ad (wf_in hwf k1 (by omega)).1]
            refine va_copyi hx hb (by rw [hml]; exact hl.1.symm) hown (hts _ (wAt_in q1)) (hts _ (wAt_in q2)) (hts _ (wAt_in q3)) (hts _ (wAt_in q4)) hK hP hD hS (a0 - 1) (a - 1) 0 0 (ws_8 hwf k0) (ws_8 hwf k1) (tysK_8 K) (tysK_8 K) rfl n1 n2 n3 b1 b2 (fun _ _ => rfl) (by omega) (by rw [catS_map]; show catS r + (7 + 11) ≤ _; omega) hd (fun H1 locs1 hP1 hD1 hS1 => ?_)
            rw [ws_setI hwf _ k1] at hP1 hD1
            exact h9 ad H1 locs1 lsx ⟨hP1, hD1, hwf⟩ hS1 hag hn0 hsx hl
          · simp at hq
        · rcases nI1_s h4 with ⟨rfl, _⟩ | ⟨ht5, h4⟩
          · exact absurd rfl (h5no _ _ rfl)
          obtain ⟨jc, r1, rfl, h5⟩ := aC_s h4
          obtain ⟨as, r, hlen, rfl, ⟨hcat, hc1, hc2⟩, P, hCP, hk⟩ := pA_s h5
          refine go jc as r _ P hk (fun ad H locs lsx hW hS hl => ?_)
          have hM := hC jc _ w P hCP D K ad H.size
          have hA1 := vaA_in (D := D) hW.2.1 hS hA
          have hpc := PcO.of (p := p) (as := as) hK hT hZ hA1 hW hS
          have hst : (as.reverse ++ r).map (cv ad) = (as.map (cv ad)).reverse ++ r.map (cv ad) := by simp
          rw [hst]
          have inS : ∀ {L : List Cond}, (∀ w ∈ L, w ∈ GG) → ∀ w ∈ ([.methodLink (ownO j) i (yN jc), .static (yN jc), .initialized (yN jc).cls] : List Cond), Cond.methodLink (ownO j) i (yN jc) ∈ GG → Cond.static (yN jc) ∈ GG → Cond.initialized (yN jc).cls ∈ GG → w ∈ GG := by
            intro L _ w hw e1 e2 e3
            simp only [List.mem_cons, List.not_mem_nil, or_false] at hw
            rcases hw with rfl | rfl | rfl
            · exact e1
            · exact e2
            · exact e3
          split at hq
          · rename_i p1 p2 p3 p4 heq
            simp only [List.cons.injEq] at heq
            obtain ⟨rfl, rfl, rfl⟩ := heq
            simp only [Bool.and_eq_true] at hq
            obtain ⟨c1, c2, c3⟩ := hq
            obtain ⟨g1, g2, g3, g4⟩ := wds c1
            have hG : GoodIn GG (va_wsS (ownO j) i (yN jc) (hdW jc :: GG)) := GG_in (inW (L := [.methodLink (ownO j) i (yN jc), .static (yN jc), .initialized (yN jc).cls]) g1 (fun w hw => inS (L := []) (fun _ h => nomatch h) w hw (wAt_in c2) (wAt_in c3) g2))
            cases hh : hhT jc with
            | nil => exact vx_runS ⟨hx, hb, hml, hown, hts⟩ hM (va_cwS (maxL := mL jc) (bytes := bC jc) (ret := rT jc) (nA jc) hts hG (by rw [hdW_code hh]) rfl rfl g3 ⟨hRf, bound g4⟩) ⟨PcO.blind D K ad H.size _ w, hpc⟩ rfl (by simpa using hlen) hl.1 rfl (room (lsx := lsx) (H := H) (ad := ad) hcat) hd (by rw [hRc, hRs]; exact ⟨hc1, hc2⟩)
            | cons q0 q1 => exact vx_runSX (hh := q0 :: q1) ⟨hx, hb, hml, hown, hts⟩ hM (vx_cwSW (maxL := mL jc) (bytes := bC jc) (ret := rT jc) (nA jc) hts hG (by rw [hdW_with hh]) rfl rfl g3 ⟨hRf, bound g4⟩) ⟨PcO.blind D K ad H.size _ w, hpc⟩ rfl (by simpa using hlen) hl.1 rfl (room (lsx := lsx) (H := H) (ad := ad) hcat) hd (by rw [hRc, hRs]; exact ⟨hc1, hc2⟩)
          · rename_i q9 p2 p3 p4 heq
            simp only [List.cons.injEq] at heq
            obtain ⟨rfl, rfl, rfl⟩ := heq
            simp only [Bool.and_eq_true, decide_eq_true_eq] at hq
            obtain ⟨c1, c2, c3, c4⟩ := hq
            obtain ⟨g1, g2, g3, g4⟩ := wds c1
            obtain ⟨host, hho⟩ := nestOk_in c2
            exact vx_runSN ⟨hx, hb, hml, hown, hts⟩ hM ⟨va_cnB (maxL := mL jc) (bytes := bC jc) (ret := rT jc) (nA jc) hts (GG_in (inW (L := []) g1 (fun _ h => nomatch h))) (by rw [hdW_code c4]) rfl rfl (hT.1 _ hho) (hts _ g2) g3 ⟨hRf, bound g4⟩, hts _ (wAt_in c3), trivial⟩ ⟨PcO.blind D K ad H.size _ w, hpc⟩ rfl (by simpa using hlen) hl.1 rfl (room (lsx := lsx) (H := H) (ad := ad) hcat) hd (by rw [hRc, hRs]; exact ⟨hc1, hc2⟩)
          · rename_i heq
            simp only [List.cons.injEq] at heq
            exact absurd heq.1 ht5
          · rename_i heq
            simp only [List.cons.injEq] at heq
            exact absurd heq.1 ht1
          · rename_i heq
            simp only [List.cons.injEq] at heq
            exact absurd heq.1 ht2
          · rename_i heq
            simp only [List.cons.injEq] at heq
            exact absurd heq.1 ht3
          · simp at hq
  | _ => exact absurd hs (by simp [isC])
end
section
/-! A STEP FOR MORE IS A STEP FOR LESS: written by wip/whole/mono.py -/
theorem pI_m {st : List Value} {F G : Int32 → List Value → Prop} (k : ∀ x r, F x r → G x r) (h : pI st F) : pI st G := by
  obtain ⟨x, r, rfl, h⟩ := pI_s h
  exact k _ _ h
theorem pL_m {st : List Value} {F G : Int64 → List Value → Prop} (k : ∀ x r, F x r → G x r) (h : pL st F) : pL st G := by
  obtain ⟨x, r, rfl, h⟩ := pL_s h
  exact k _ _ h
theorem pR_m {st : List Value} {F G : Nat → List Value → Prop} (k : ∀ x r, F x r → G x r) (h : pR st F) : pR st G := by
  obtain ⟨x, r, rfl, h⟩ := pR_s h
  exact k _ _ h
theorem p1_m {st : List Value} {F G : Value → List Value → Prop} (k : ∀ x r, F x r → G x r) (h : p1 st F) : p1 st G := by
  unfold p1 at h ⊢
  split at h
  · exact k _ _ h
  · exact k _ _ h
  · exact h.elim
theorem gI_m {ls : List (Nat × Value)} {aux : List Nat} {F G : Nat → Int32 → Prop} (k : ∀ i x, F i x → G i x) (h : gI ls aux F) : gI ls aux G := by
  obtain ⟨i, x, rfl, hl, h⟩ := gI_s h
  show (match lkp ls i with
    | some (.int x) => G i x
    | _ => False)
  rw [hl]
  exact k _ _ h
theorem gL_m {ls : List (Nat × Value)} {aux : List Nat} {F G : Nat → Int64 → Prop} (k : ∀ i x, F i x → G i x) (h : gL ls aux F) : gL ls aux G := by
  obtain ⟨i, x, rfl, hl, h⟩ := gL_s h
  show (match lkp ls i with
    | some (.long x) => G i x
    | _ => False)
  rw [hl]
  exact k _ _ h
theorem gR_m {ls : List (Nat × Value)} {aux : List Nat} {F G : Nat → Nat → Prop} (k : ∀ i x, F i x → G i x) (h : gR ls aux F) : gR ls aux G := by
  obtain ⟨i, x, rfl, hl, h⟩ := gR_s h
  show (match lkp ls i with
    | some (.ref x) => G i x
    | _ => False)
  rw [hl]
  exact k _ _ h
theorem a1_m {aux : List Nat} {F G : Nat → Prop} (k : ∀ i, F i → G i) (h : a1 aux F) : a1 aux G := by
  obtain ⟨i, rfl, h⟩ := a1_s h
  exact k _ h
theorem aC_m {aux : List Nat} {F G : Nat → List Nat → Prop} (k : ∀ i r, F i r → G i r) (h : aC aux F) : aC aux G := by
  obtain ⟨i, r, rfl, h⟩ := aC_s h
  exact k _ _ h
theorem aF_m {aux : List Nat} {F G : Nat → Nat → Nat → Prop} (k : ∀ a b t, F a b t → G a b t) (h : aF aux F) : aF aux G := by
  obtain ⟨a, b, t, r, rfl, h⟩ := aF_s h
  exact k _ _ _ h
theorem nI1_m {n k : Nat} {a b a' b' : Prop} (ha : a → a') (hb : b → b') (h : nI1 n k a b) : nI1 n k a' b' := by
  unfold nI1 at h ⊢
  revert h
  cases Nat.beq n k with
  | true => exact ha
  | false => exact hb
theorem pA_m {n : Nat} {st : List Value} {F G : List Value → List Value → Prop} (k : ∀ as r, F as r → G as r) (h : pA n st F) : pA n st G := by
  unfold pA at h ⊢
  revert h
  cases popN n st [] with
  | none => exact fun h => h
  | some q => exact fun h => k _ _ h
theorem pB_m {as : List Value} {F G : Nat → List Value → Prop} (k : ∀ b r, F b r → G b r) (h : pB as F) : pB as G := by
  obtain ⟨b, r, rfl, h⟩ := pB_s h
  exact k _ _ h
theorem drI_m {SX : Option (Nat × (Nat → Int32))} {a : Nat} {k : Int32} {F G : Int32 → Prop} (h : ∀ v, F v → G v) (hI : drI SX a k F) : drI SX a k G := by
  unfold drI at hI ⊢
  split at hI
  · exact ⟨hI.1, hI.2.1, h _ hI.2.2⟩
  · exact hI
theorem brE_m {o : ClassFile.Cond} {x y : Int32} {T F T' F' : Prop} (ht : T → T') (hf : F → F') (h : brE o x y T F) : brE o x y T' F' := by
  cases o <;> exact ⟨fun q => ht (h.1 q), fun q => hf (h.2 q)⟩
theorem swC_m {x : Int32} {f g : Nat → Prop} (k : ∀ t, f t → g t) : ∀ (ks : List Nat) (d : Nat), swC x ks d f → swC x ks d g
  | [], _, h => k _ h
  | [_], _, h => k _ h
  | _ :: _ :: r, d, h => ⟨fun q => k _ (h.1 q), fun q => swC_m k r d (h.2 q)⟩
theorem aftC_m {hn : Nat → String → Option Nat} {nx pc : Nat} {ls : List (Nat × Value)} {r : List Value} {w : Wd} {nc ns : Nat} {X Y : Fr → Prop} (hY : ∀ g, Y g → X g) {rs : Res} {w' : Wd} (h : aftC hn nx pc ls r w nc ns Y rs w') : aftC hn nx pc ls r w nc ns X rs w' := by
  obtain ⟨h1, h2⟩ := h
  refine ⟨h1, ?_⟩
  rcases rs with (_ | v) | E
  · exact hY _ h2
  · exact hY _ h2
  · revert h2
    dsimp only
    cases hn pc E with
    | none => exact fun h => h
    | some h9 => exact fun h => ⟨h.1, hY _ h.2⟩
set_option maxHeartbeats 4000000 in
theorem stepI_m {C : Cal} {mj : Nat → Nat × Nat} {kj nj : Nat → Nat} {SX : Option (Nat × (Nat → Int32))} {mxc mxs : Nat} {hn : Nat → String → Option Nat} {Rt : Option Value → Wd → Nat → Nat → Prop} {Th : String → Wd → Nat → Nat → Prop} {ins : Instr} {nx : Nat} {aux : List Nat} {kc : Int32} {kl : Int64} {pc : Nat} {ls : List (Nat × Value)} {st : List Value} {w : Wd} {nc ns : Nat} {X Y : Fr → Prop}
    (hY : ∀ g, Y g → X g) (h : stepI C mj kj nj SX mxc mxs hn Rt Th ins nx aux kc kl pc ls st w nc ns Y) : stepI C mj kj nj SX mxc mxs hn Rt Th ins nx aux kc kl pc ls st w nc ns X := by
  cases ins with
  | iconst _ => exact hY _ h
  | bipush _ => exact hY _ h
  | sipush _ => exact hY _ h
  | ldc _ => exact hY _ h
  | ldc_w _ => exact hY _ h
  | lconst _ => exact hY _ h
  | ldc2_w _ => exact hY _ h
  | iload_n _ => exact gI_m (fun _ _ => hY _) h
  | iload _ => exact gI_m (fun _ _ => hY _) h
  | lload_n _ => exact gL_m (fun _ _ => hY _) h
  | lload _ => exact gL_m (fun _ _ => hY _) h
  | aload_n _ => exact gR_m (fun _ _ => hY _) h
  | aload _ => exact gR_m (fun _ _ => hY _) h
  | istore_n _ => exact a1_m (fun _ => pI_m (fun _ _ => hY _)) h
  | istore _ => exact a1_m (fun _ => pI_m (fun _ _ => hY _)) h
  | lstore_n _ => exact a1_m (fun _ => pL_m (fun _ _ => hY _)) h
  | lstore _ => exact a1_m (fun _ => pL_m (fun _ _ => hY _)) h
  | astore_n _ => exact a1_m (fun _ => pR_m (fun _ _ => hY _)) h
  | astore _ => exact a1_m (fun _ => pR_m (fun _ _ => hY _)) h
  | iinc _ _ => exact gI_m (fun _ _ => hY _) h
  | iadd => exact pI_m (fun _ _ => pI_m (fun _ _ => hY _)) h
  | isub => exact pI_m (fun _ _ => pI_m (fun _ _ => hY _)) h
  | imul => exact pI_m (fun _ _ => pI_m (fun _ _ => hY _)) h
  | ishr => exact pI_m (fun _ _ => pI_m (fun _ _ => hY _)) h
  | iand => exact pI_m (fun _ _ => pI_m (fun _ _ => hY _)) h
  | idiv => exact pI_m (fun _ _ => pI_m (fun _ _ q => ⟨q.1, hY _ q.2⟩)) h
  | irem => exact pI_m (fun _ _ => pI_m (fun _ _ q => ⟨q.1, hY _ q.2⟩)) h
  | ladd => exact pL_m (fun _ _ => pL_m (fun _ _ => hY _)) h
  | lsub => exact pL_m (fun _ _ => pL_m (fun _ _ => hY _)) h
  | lmul => exact pL_m (fun _ _ => pL_m (fun _ _ => hY _)) h
  | land => exact pL_m (fun _ _ => pL_m (fun _ _ => hY _)) h
  | lor => exact pL_m (fun _ _ => pL_m (fun _ _ => hY _)) h
  | lcmp => exact pL_m (fun _ _ => pL_m (fun _ _ => hY _)) h
  | ldiv => exact pL_m (fun _ _ => pL_m (fun _ _ q => ⟨q.1, hY _ q.2⟩)) h
  | lrem => exact pL_m (fun _ _ => pL_m (fun _ _ q => ⟨q.1, hY _ q.2⟩)) h
  | lushr => exact pI_m (fun _ _ => pL_m (fun _ _ => hY _)) h
  | lshl => exact pI_m (fun _ _ => pL_m (fun _ _ => hY _)) h
  | i2l => exact pI_m (fun _ _ => hY _) h
  | l2i => exact pL_m (fun _ _ => hY _) h
  | dup => exact p1_m (F := fun v r => Y (nx, ls, v :: v :: r, w, nc, ns)) (fun _ _ => hY _) h
  | pop => exact p1_m (F := fun _ r => Y (nx, ls, r, w, nc, ns)) (fun _ _ => hY _) h
  | dup2 => exact p1_m (F := fun v r1 => p1 r1 (fun u r => Y (nx, ls, v :: u :: v :: u :: r, w, nc, ns))) (fun _ _ => p1_m (fun _ _ => hY _)) h
  | ifCond _ _ => exact a1_m (fun _ => pI_m (fun _ _ => brE_m (hY _) (hY _))) h
  | if_icmp _ _ => exact a1_m (fun _ => pI_m (fun _ _ => pI_m (fun _ _ => brE_m (hY _) (hY _)))) h
  | goto _ => exact a1_m (fun _ => hY _) h
  | ifnull _ => exact a1_m (fun _ => pR_m (fun _ _ q => ⟨fun z => hY _ (q.1 z), fun z => hY _ (q.2 z)⟩)) h
  | tableswitch _ _ _ _ => exact aC_m (fun _ _ => pI_m (fun _ _ => swC_m (fun _ => hY _) _ _)) h
  | lookupswitch _ _ => exact aC_m (fun _ _ => pI_m (fun _ _ => swC_m (fun _ => hY _) _ _)) h
  | getfield _ => exact aF_m (fun _ _ _ => pR_m (fun _ _ q => ⟨q.1, nI1_m (hY _) (hY _) q.2⟩)) h
  | putfield _ => exact aF_m (fun _ _ _ => nI1_m (pR_m (fun _ _ => pR_m (fun _ _ q => ⟨q.1, q.2.1, hY _ q.2.2⟩))) (pI_m (fun _ _ => pR_m (fun _ _ q => ⟨q.1, q.2.1, hY _ q.2.2⟩)))) h
  | iaload =>
    refine pI_m (fun i _ => pR_m (fun a r => ?_)) h
    cases SX with
    | none => exact fun q => ⟨q.1, q.2.1, hY _ q.2.2⟩
    | some q9 => exact fun q => nI1_m (fun q => ⟨q.1, hY _ q.2⟩) (fun q => ⟨q.1, q.2.1, hY _ q.2.2⟩) q
  | arraylength =>
    refine pR_m (fun a r => ?_) h
    cases SX with
    | none => exact fun q => ⟨q.1, hY _ q.2⟩
    | some q9 => exact fun q => nI1_m (hY _) (fun q => ⟨q.1, hY _ q.2⟩) q
  | iastore => exact pI_m (fun _ _ => pI_m (fun _ _ => pR_m (fun _ _ q => ⟨q.1, q.2.1, hY _ q.2.2⟩))) h
  | bastore => exact pI_m (fun _ _ => pI_m (fun _ _ => pR_m (fun _ _ q => ⟨q.1, q.2.1, hY _ q.2.2⟩))) h
  | baload => exact pI_m (fun _ _ => pR_m (fun _ _ q => ⟨q.1, q.2.1, hY _ q.2.2⟩)) h
  | aaload => exact pI_m (fun _ _ => pR_m (fun _ _ q => ⟨q.1, q.2.1, hY _ q.2.2⟩)) h
  | aastore => exact pR_m (fun _ _ => pI_m (fun _ _ => pR_m (fun _ _ q => ⟨q.1, q.2.1, q.2.2.1, hY _ q.2.2.2⟩))) h
  | newarray _ => exact aC_m (fun _ _ => pI_m (fun _ _ q => ⟨q.1, hY _ q.2⟩)) h
  | anewarray _ => exact pI_m (fun _ _ q => ⟨q.1, hY _ q.2⟩) h
  | new _ => exact aC_m (fun _ _ => aC_m (fun _ _ => nI1_m (fun q => ⟨q.1, hY _ q.2⟩) (fun q => q))) h
  | invokespecial _ => exact aC_m (fun _ _ => nI1_m (pR_m (fun _ _ q => ⟨q.1, q.2.1, hY _ q.2.2⟩)) (aC_m (fun _ _ => pA_m (fun _ _ => pB_m (fun _ _ q => ⟨q.1, q.2.1, by obtain ⟨P, hP, hk⟩ := q.2.2; exact ⟨P, hP, fun rs w9 z => aftC_m hY (hk rs w9 z)⟩⟩))))) h
  | invokevirtual _ => exact aC_m (fun _ _ => pA_m (fun _ _ => pB_m (fun _ _ q => ⟨q.1, q.2.1, by obtain ⟨P, hP, hk⟩ := q.2.2; exact ⟨P, hP, fun rs w9 z => aftC_m hY (hk rs w9 z)⟩⟩))) h
  | invokestatic _ => exact aC_m (fun _ _ => nI1_m (pI_m (fun _ _ => pI_m (fun _ _ q => ⟨q.1, hY _ q.2⟩))) (nI1_m (pI_m (fun _ _ => pI_m (fun _ _ q => ⟨q.1, hY _ q.2⟩))) (nI1_m (pI_m (fun _ _ => pI_m (fun _ _ => pR_m (fun _ _ => pI_m (fun _ _ => pR_m (fun _ _ q => ⟨q.1, hY _ q.2⟩)))))) (nI1_m (pI_m (fun _ _ => pR_m (fun _ _ => drI_m (fun _ q => ⟨q.1, hY _ q.2⟩)))) (aC_m (fun _ _ => pA_m (fun _ _ q => ⟨q.1, by obtain ⟨P, hP, hk⟩ := q.2; exact ⟨P, hP, fun rs w9 z => aftC_m hY (hk rs w9 z)⟩⟩))))))) h
  | ireturn => exact h
  | lreturn => exact h
  | return_ => exact h
  | _ => exact h
end
section
/-! SOUNDNESS: a method's end -/
def exNames : List String := ["java/lang/RuntimeException", "java/lang/Exception"]
theorem atS_ok {e ic : Nat} (h : (e = 0 ∧ ic = 46) ∨ (e = 1 ∧ ic = 57) ∨ (e = 2 ∧ ic = 136)) : ∀ w ∈ vx_atS "OdometerRing" ic (excN e) exNames, (w ∈ GG ∨ w ∈ decW ∨ w = .castable (excN e) (excN e)) ∧ vx_ot w = true := by
  have key : ∀ {L : List Cond} {x : Cond}, (L.all (fun w => ((decide (w ∈ lw_tbl) && goodWord w) || (decide (w ∈ decW) || decide (w = x))) && vx_ot w)) = true → ∀ w ∈ L, (w ∈ GG ∨ w ∈ decW ∨ w = x) ∧ vx_ot w = true := by
    intro L x h w hw
    have := List.all_eq_true.mp h w hw
    simp only [Bool.and_eq_true, Bool.or_eq_true, decide_eq_true_eq] at this
    obtain ⟨h1, h2⟩ := this
    refine ⟨?_, h2⟩
    rcases h1 with h1 | h1 | h1
    · exact Or.inl (List.mem_filter.mpr h1)
    · exact Or.inr (Or.inl h1)
    · exact Or.inr (Or.inr h1)
  rcases h with ⟨rfl, rfl⟩ | ⟨rfl, rfl⟩ | ⟨rfl, rfl⟩
  · exact key (by decide +kernel)
  · exact key (by decide +kernel)
  · exact key (by decide +kernel)
/-- the addresses behind a method: its own cells where they lie, else as they were -/
theorem BW_of {D : va_G} {K : Nat → ClassId} {A : Nat → Prop} {ad ad0 : Nat → Nat} {w w0 : Wd} {H : Heap} (hW : WPd D K A ad w H) (hag : ∀ i, i ≤ w0.1.1 → ad i = ad0 i) (hn0 : w0.1.1 ≤ w.1.1) {t : State} (hk : ∀ q : Nat, q < H.size → t.heap[q]? = H[q]?) : BW D K A ad0 w0 (w, fun i => if i ≤ w.1.1 then ad i else ad0 i) t := by
  obtain ⟨hP, hD, hwf⟩ := hW
  have hws : wsW K (fun i => if i ≤ w.1.1 then ad i else ad0 i) w = wsW K ad w := wsW_congr K ad _ w hwf (fun i hi => if_pos hi)
  refine ⟨⟨?_, ?_, hwf⟩, fun i hi => ?_, hn0⟩
  · show va_P D vwCl (wsW K _ w) t.heap
    rw [hws]
    exact hP.kept (fun k q hq => hk q.1 ((hP k q hq).lt))
  · show va_D A (wsW K _ w)
    rw [hws]
    exact hD
  · show (if i ≤ w.1.1 then ad i else ad0 i) = ad0 i
    by_cases h : i ≤ w.1.1
    · rw [if_pos h]
      have hi : i ≤ w0.1.1 ∨ w.1.1 < i := hi
      exact hag i (by rcases hi with hi | hi <;> omega)
    · rw [if_neg h]
theorem vaF_of {A : Nat → Prop} {s t : State} {H : Heap} {locs : List Loc} (hS : va_S A s.heap H locs) (hz : H.size ≤ t.heap.size) (hk : ∀ q : Nat, q < H.size → t.heap[q]? = H[q]?) : va_F A s t :=
  ⟨Nat.le_trans hS.1 hz, fun q h1 h2 => (hk q (Nat.lt_of_lt_of_le h1 hS.1)).trans (hS.2.1 q h1 h2)⟩
set_option maxHeartbeats 2000000 in
theorem so_throw {p : Program} {l : Launch} {e : Env} {R : Room} {s : State} {m : MethodId} {args : Array Value} {below : List Frame} {meth : Method} {c : Code} {D : va_G} {K : Nat → ClassId} {A : Nat → Prop} {ad0 : Nat → Nat} {n0 nL : Nat} {Sx : (Nat → Nat) → Prop} {Qm : State → Prop} {j : Nat}
  (hx : p.tables.exec = Jvm.exec) (hb : c.code = bC j) (hml : c.maxLocals = nL) (hnL : nL = mL j) (hown : s.vm.findClass (ownO j) = some m.cls) (hts : ∀ w ∈ GG, w.before args s = true)
  (hl0 : l.stackTraces = false) (hT : EnvT s) (hZ : EnvZ A s s.heap) (hlocks : meth.locks = false) (hnoh : ∀ x ∈ c.exceptionTable.toList, False) {i e9 nx : Nat} {r9 : List Nat} {kc : Int32} {kl : Int64} {pc : Nat}
  (hrow : okRow j pc (.new i, nx, 1 :: e9 :: r9, kc, kl) = true) {w w0 : Wd} {Q : Res → Wd → Prop} {mc ms : Nat} {ad : Nat → Nat} {H : Heap} {locs : List Loc} {lsx : Array Slot} {st : List Value} {nc ns : Nat}
  (hW : WPd D K A ad w H) (hS : va_S A s.heap H locs) (hag : ∀ i, i ≤ w0.1.1 → ad i = ad0 i) (hn0 : w0.1.1 ≤ w.1.1) (hsize : lsx.size = c.maxLocals) (hcat : catS st ≤ 8) (hRf : 6 ≤ R.frames) (hRl : 90 ≤ R.locals) (hRc : nc + 1 ≤ R.cells) (hRs : ns + 6 ≤ R.slots) (hc : nc + 1 ≤ mc) (hs : ns + 6 ≤ ms) (hQ : Q (.inr (excN e9)) w) :
  W p l e R s m args below meth c H locs nc ns (vx_MQ below (QcO (rT j) D K A ad0 w0 Q) (XcO D K A ad0 w0 Q) args s mc ms A) (F0 m pc lsx (st.map (cv ad))) := by
  rcases r9 with _ | ⟨wd, _ | ⟨is9, _ | ⟨ic, _ | ⟨sx, _ | ⟨p1, _ | ⟨p2, _ | ⟨p3, r9⟩⟩⟩⟩⟩⟩⟩
  · simp [okRow] at hrow
  · simp [okRow] at hrow
  · simp [okRow] at hrow
  · simp [okRow] at hrow
  · simp [okRow] at hrow
  · simp [okRow] at hrow
  · simp only [okRow, Bool.and_eq_true, decide_eq_true_eq] at hrow
    obtain ⟨d0, d3, hw1, hw2, hown9, hstr, hic, hdd⟩ := hrow
    have hat := atS_ok hic
    rw [← hown9] at hat
    have hatB : ∀ w ∈ vx_atS (ownO j) ic (excN e9) exNames, w.before args s = true := by
      intro w hw
      rcases (hat w hw).1 with h1 | h1 | h1
      · exact hts w h1
      · have h2 := hT.2.2.2.2.2 w h1
        simp only [decW, List.mem_cons, List.not_mem_nil, or_false] at h1
        rcases h1 with rfl | rfl | rfl <;> exact va_Nw.use rfl h2
      · rw [h1]
        exact va_Nw.use rfl (hT.2.2.2.1 e9 (by omega))
    have hgood : ∀ w ∈ Cond.classLink (ownO j) i (excN e9) :: Cond.initialized (excN e9) :: vx_atS (ownO j) ic (excN e9) exNames, vx_ot w = true := by
      intro w hw
      rcases List.mem_cons.mp hw with rfl | hw
      · rfl
      · rcases List.mem_cons.mp hw with rfl | hw
        · rfl
        · exact (hat w hw).2
    have hfit : Bundle.fit (excN e9) = true := by
      rcases hic with ⟨rfl, -⟩ | ⟨rfl, -⟩ | ⟨rfl, -⟩ <;> decide +kernel
    have hfitN : ∀ n ∈ exNames, Bundle.fit n = true := by decide +kernel
    obtain ⟨q, hq1, hq2⟩ : ∃ q : String × Nat × String, strT[sx]? = some q ∧ (q.1, q.2.1) = (ownO j, is9) := by
      cases hqq : strT[sx]? with
      | none => rw [hqq] at hstr; cases hstr
      | some q => rw [hqq] at hstr; exact ⟨q, rfl, Option.some.inj hstr⟩
    obtain ⟨sa, hsa⟩ := hT.2.1 q (List.mem_of_getElem? hq1)
    have e1 : q.1 = ownO j := congrArg Prod.fst hq2
    have e2 : q.2.1 = is9 := congrArg Prod.snd hq2
    rw [e1, e2] at hsa
    have hx9 : ∀ t : State, s.vm.Alike t.vm → H.size ≤ t.heap.size → (∀ q : Nat, q < H.size → t.heap[q]? = H[q]?) → XcO D K A ad0 w0 Q (excN e9) s t := fun t hal hz hk => ⟨(w, fun i => if i ≤ w.1.1 then ad i else ad0 i), trivial, ⟨hQ, BW_of hW hag hn0 hk⟩, vaF_of hS hz hk⟩
    have hlen : exNames.length + 3 < R.frames := hRf
    have hlo : ((st.map (cv ad)).map fun v => v.category).sum + (13 * (exNames.length + 1) + 43) ≤ R.locals := by
      rw [catS_map]
      show catS st + (13 * 3 + 43) ≤ _
      omega
    cases wd with
    | zero =>
      simp only [Bool.and_eq_true, decide_eq_true_eq] at hdd
      exact vx_throwS hx hb hl0 hown hfit hfitN (hts _ (wAt_in hw1)) (hts _ (wAt_in hw2)) hsa hatB hgood hZ.1 hZ.2 hS hsize d0 d3 hdd.1 hdd.2.1 hdd.2.2 (fun x hx => (hnoh x hx).elim) hlen hlo hRc hRs hlocks hx9 (fun z hz => hS.2.2 z hz) hc hs
    | succ wd =>
      simp only [Bool.and_eq_true, decide_eq_true_eq] at hdd
      exact vx_throwSW hx hb hl0 hown hfit hfitN (hts _ (wAt_in hw1)) (hts _ (wAt_in hw2)) hsa hatB hgood hZ.1 hZ.2 hS hsize d0 d3 hdd.1 hdd.2.1 hdd.2.2 (fun x hx => (hnoh x hx).elim) hlen hlo hRc hRs hlocks hx9 (fun z hz => hS.2.2 z hz) hc hs
  · simp [okRow] at hrow
/-- a method's return -/
theorem RtJ_c {j : Nat} {Q : Res → Wd → Prop} {v : Option Value} {w : Wd} {nc ns : Nat} (h : RtJ j Q v w nc ns) : (nc ≤ (mjT j).1 ∧ ns ≤ (mjT j).2) ∧ ((rT j = none ∧ v = none ∧ Q (.inl none) w) ∨ (rT j = some .int ∧ ∃ x, v = some (.int x) ∧ Q (.inl (some (.int x))) w) ∨ (rT j = some .boolean ∧ ∃ x, v = some (.int x) ∧ (x = 0 ∨ x = 1) ∧ Q (.inl (some (.int x))) w) ∨ (rT j = some .long ∧ ∃ x, v = some (.long x) ∧ Q (.inl (some (.long x))) w)) := by
  obtain ⟨h1, h2⟩ := h
  refine ⟨h1, ?_⟩
  split at h2
  · rename_i x e1
    exact Or.inr (Or.inl ⟨e1, x, rfl, h2⟩)
  · rename_i x e1
    exact Or.inr (Or.inr (Or.inl ⟨e1, x, rfl, h2⟩))
  · rename_i x e1
    exact Or.inr (Or.inr (Or.inr ⟨e1, x, rfl, h2⟩))
  · rename_i e1
    exact Or.inl ⟨e1, rfl, h2⟩
  · exact h2.elim
theorem so_ret {p : Program} {l : Launch} {e : Env} {R : Room} {s : State} {m : MethodId} {args : Array Value} {below : List Frame} {meth : Method} {c : Code} {D : va_G} {K : Nat → ClassId} {A : Nat → Prop} {ad0 : Nat → Nat} {n0 nL : Nat} {Sx : (Nat → Nat) → Prop} {Qm : State → Prop} {j : Nat}
  (hx : p.tables.exec = Jvm.exec) (hb : c.code = bC j) (hml : c.maxLocals = nL) (hnL : nL = mL j) (hown : s.vm.findClass (ownO j) = some m.cls) (hts : ∀ w ∈ GG, w.before args s = true)
  (hr : meth.sig.returnType = rT j) (hlocks : meth.locks = false) {pc : Nat} {w w0 : Wd} {Q : Res → Wd → Prop} {ad : Nat → Nat} {H : Heap} {locs : List Loc} {lsx : Array Slot} {nc ns : Nat} {v : Option Value}
  (hW : WPd D K A ad w H) (hS : va_S A s.heap H locs) (hag : ∀ i, i ≤ w0.1.1 → ad i = ad0 i) (hn0 : w0.1.1 ≤ w.1.1) (h : RtJ j Q v w nc ns)
  (hd : decode (bC j) pc = .ok (match v with | some (.int _) => .ireturn | some (.long _) => .lreturn | _ => .return_, 1)) :
  W p l e R s m args below meth c H locs nc ns (vx_MQ below (QcO (rT j) D K A ad0 w0 Q) (XcO D K A ad0 w0 Q) args s (mjT j).1 (mjT j).2 A) (F0 m pc lsx v.toList) := by
  obtain ⟨⟨h1, h2⟩, h3⟩ := RtJ_c h
  have hB : ∀ t : State, t.heap = H → BW D K A ad0 w0 (w, fun i => if i ≤ w.1.1 then ad i else ad0 i) t := fun t ht => BW_of hW hag hn0 (fun q _ => by rw [ht])
  have hF : ∀ t : State, t.heap = H → va_F A s t := fun t ht => hS.F ht
  refine W.widen h1 h2 (vx_ret ?_)
  have hloc : ∀ q ∈ locs, A q.base := fun q hq => hS.2.2 q hq
  rcases h3 with ⟨e1, rfl, h3⟩ | ⟨e1, x, rfl, h3⟩ | ⟨e1, x, rfl, h01, h3⟩ | ⟨e1, x, rfl, h3⟩
  · rw [e1] at hr ⊢
    exact W.vret hx hb hr (fun t ht _ => ⟨⟨_, rfl, h3, hB t ht⟩, hF t ht⟩) hloc hd hlocks
  · rw [e1] at hr ⊢
    exact W.iret hx hb hr (fun t ht _ => ⟨⟨x, _, rfl, h3, hB t ht⟩, hF t ht⟩) hloc hd hlocks
  · rw [e1] at hr ⊢
    exact W.zret hx hb hr (by rcases h01 with rfl | rfl <;> rfl) (fun t ht _ => ⟨⟨x, _, rfl, h3, hB t ht⟩, hF t ht⟩) hloc hd hlocks
  · rw [e1] at hr ⊢
    exact W.lret hx hb hr (fun t ht _ => ⟨⟨x, _, rfl, h3, hB t ht⟩, hF t ht⟩) hloc hd hlocks
end
section
/-! SOUNDNESS: the methods -/
def okX (j : Nat) : Bool := match lkp hxT j, hhT j with
  | none, [] => true
  | some (lo, hi, [(n1, h1)]), [(a, b, h, ct)] => decide (a = lo) && (decide (b = hi) && (decide (h = h1) && (decide (ct ≠ 0) && (decide (Cond.classLink (ownO j) ct n1 ∈ lw_tbl) && (goodWord (Cond.classLink (ownO j) ct n1) && decide (n1 = excN 0 ∨ n1 = excN 1 ∨ n1 = excN 2))))))
  | some (lo, hi, [(n1, h1), (n2, h2)]), [(a, b, h, ct), (a', b', h', ct')] => decide (a = lo) && (decide (b = hi) && (decide (h = h1) && (decide (ct ≠ 0) && (decide (Cond.classLink (ownO j) ct n1 ∈ lw_tbl) && (goodWord (Cond.classLink (ownO j) ct n1) && (decide (n1 = excN 0 ∨ n1 = excN 1 ∨ n1 = excN 2) &&
      (decide (a' = lo) && (decide (b' = hi) && (decide (h' = h2) && (decide (ct' ≠ 0) && (decide (Cond.classLink (ownO j) ct' n2 ∈ lw_tbl) && (goodWord (Cond.classLink (ownO j) ct' n2) && decide (n2 = excN 0 ∨ n2 = excN 1 ∨ n2 = excN 2)))))))))))))
  | _, _ => false
theorem okX_all : (List.range 132).all (fun j => okX j && plainName (yN j).cls) = true := by decide +kernel
theorem excN_ix {n : String} (h : n = excN 0 ∨ n = excN 1 ∨ n = excN 2) : ∃ k, k < 3 ∧ n = excN k := by
  rcases h with h | h | h
  · exact ⟨0, by omega, h⟩
  · exact ⟨1, by omega, h⟩
  · exact ⟨2, by omega, h⟩
theorem lgsl_len : ∀ vs : List Value, (lg_sl vs).length = catS vs
  | [] => rfl
  | v :: t => by
    have ih := lgsl_len t
    unfold lg_sl at ih ⊢
    rw [List.flatMap_cons, List.length_append, ih]
    show _ = v.category + catS t
    rcases lv_cat v with h | h <;> simp [h]
theorem lv_args_cvl (ad : Nat → Nat) : ∀ (as : List Value) (i : Nat), lv_args i (as.map (cv ad)) = cvl ad (lv_args i as)
  | [], _ => rfl
  | v :: t, i => by
    show (i, cv ad v) :: lv_args (if (cv ad v).category = 2 then i + 2 else i + 1) (t.map (cv ad)) = (i, cv ad v) :: cvl ad (lv_args (if v.category = 2 then i + 2 else i + 1) t)
    rw [cv_cat, lv_args_cvl ad t]
theorem catS_cv (ad : Nat → Nat) : ∀ l : List Value, catS (l.map (cv ad)) = catS l
  | [] => rfl
  | v :: t => by
    show (cv ad v).category + catS (t.map (cv ad)) = _
    rw [cv_cat, catS_cv ad t]
    rfl
/-- what a method's own table of handlers takes -/
theorem so_catch {p : Program} {l : Launch} {e : Env} {R : Room} {s : State} {m : MethodId} {args : Array Value} {below : List Frame} {meth : Method} {c : Code} {Qm : State → Prop} {j pc : Nat}
    (hown : s.vm.findClass (ownO j) = some m.cls) (hts : ∀ w ∈ GG, w.before args s = true) (hT : EnvT s) (hok : okX j = true) (htab : hhT j = [] ∨ c.exceptionTable.toList.map (fun h => (h.startPc, h.endPc, h.handlerPc, h.catchType)) = hhT j) :
    ∀ (E : String) (h9 : Nat) (ce : Cell) (q9 : Addr) (H1 : Heap) (locs1 : List Loc) (lsx : Array Slot) (rest : List Value) (c9 s9 : Nat), hnT j pc E = some h9 → H1[q9]? = some ce → ce.vm = .none → s.vm.findClass E = some ce.cls → W p l e R s m args below meth c H1 locs1 c9 s9 Qm (F0 m h9 lsx [.ref q9]) → vx_W p l e R s m args below meth c H1 locs1 c9 s9 Qm (F0 m pc lsx rest) q9 := by
  intro E h9 ce q9 H1 locs1 lsx rest c9 s9 hn hce hcv hcl hW
  have gin : ∀ {w : Jvm.Cond}, w ∈ lw_tbl → goodWord w = true → w.before args s = true := fun h1 h2 => hts _ (List.mem_filter.mpr ⟨h1, h2⟩)
  unfold okX at hok
  split at hok
  · rename_i e1 e2
    unfold hnT at hn
    rw [e1] at hn
    cases hn
  · rename_i lo hi n1 h1 a b h ct e1 e2
    simp only [Bool.and_eq_true, decide_eq_true_eq] at hok
    obtain ⟨rfl, rfl, rfl, hct, hw1, hg1, hn1⟩ := hok
    unfold hnT at hn
    rw [e1] at hn
    dsimp only at hn
    cases hpc : (Nat.ble a pc && Nat.blt pc b) with
    | false => rw [hpc] at hn; cases hn
    | true =>
      rw [hpc] at hn
      simp only [Bool.and_eq_true] at hpc
      rcases htab with htab | htab
      · rw [htab] at e2; cases e2
      rw [e2] at htab
      obtain ⟨x, hx1, hx2⟩ := List.map_eq_singleton_iff.mp htab
      simp only [Prod.mk.injEq] at hx2
      obtain ⟨x1, x2, x3, x4⟩ := hx2
      have hcov : covers x pc = true := by
        simp only [covers, Bool.and_eq_true, decide_eq_true_eq]
        exact ⟨by rw [x1]; exact Nat.le_of_ble_eq_true hpc.1, by rw [x2]; exact Nat.le_of_ble_eq_true hpc.2⟩
      by_cases hE : n1 = E
      · subst hE
        simp at hn
        subst hn
        obtain ⟨k, hk, hnk⟩ := excN_ix hn1
        refine vx_catch (name := n1) hown [] x [] (by rw [hx1]; rfl) (fun z hz => nomatch hz) hcov (by rw [x4]; exact hct) (by rw [x4]; exact gin hw1 hg1) (by rw [hnk]; exact va_Nw.use rfl (hT.2.2.2.1 k hk)) hce hcv hcl (by rw [x3]; exact hW)
      · simp [hE] at hn
  · rename_i lo hi n1 h1 n2 h2 a b h ct a' b' h' ct' e1 e2
    simp only [Bool.and_eq_true, decide_eq_true_eq] at hok
    obtain ⟨rfl, rfl, rfl, hct, hw1, hg1, hn1, ha', hb', rfl, hct', hw2, hg2, hn2⟩ := hok
    unfold hnT at hn
    rw [e1] at hn
    dsimp only at hn
    cases hpc : (Nat.ble a pc && Nat.blt pc b) with
    | false => rw [hpc] at hn; cases hn
    | true =>
      rw [hpc] at hn
      simp only [Bool.and_eq_true] at hpc
      rcases htab with htab | htab
      · rw [htab] at e2; cases e2
      rw [e2] at htab
      obtain ⟨x, y, hx1, hx2, hy2⟩ : ∃ x y, c.exceptionTable.toList = [x, y] ∧ (x.startPc, x.endPc, x.handlerPc, x.catchType) = (a, b, h, ct) ∧ (y.startPc, y.endPc, y.handlerPc, y.catchType) = (a', b', h', ct') := by
        cases hl : c.exceptionTable.toList with
        | nil => rw [hl] at htab; cases htab
        | cons x t => cases t with
          | nil => rw [hl] at htab; simp at htab
          | cons y t => cases t with
            | nil => rw [hl] at htab; simp only [List.map_cons, List.map_nil, List.cons.injEq, and_true] at htab; exact ⟨x, y, rfl, htab.1, htab.2⟩
            | cons z t => rw [hl] at htab; simp at htab
      simp only [Prod.mk.injEq] at hx2 hy2
      obtain ⟨x1, x2, x3, x4⟩ := hx2
      obtain ⟨y1, y2, y3, y4⟩ := hy2
      have hcov : covers x pc = true := by
        simp only [covers, Bool.and_eq_true, decide_eq_true_eq]
        exact ⟨by rw [x1]; exact Nat.le_of_ble_eq_true hpc.1, by rw [x2]; exact Nat.le_of_ble_eq_true hpc.2⟩
      have hcov2 : covers y pc = true := by
        simp only [covers, Bool.and_eq_true, decide_eq_true_eq]
        exact ⟨by rw [y1, ha']; exact Nat.le_of_ble_eq_true hpc.1, by rw [y2, hb']; exact Nat.le_of_ble_eq_true hpc.2⟩
      by_cases hE : n1 = E
      · subst hE
        simp at hn
        subst hn
        obtain ⟨k, hk, hnk⟩ := excN_ix hn1
        refine vx_catch (name := n1) hown [] x [y] (by rw [hx1]; rfl) (fun z hz => nomatch hz) hcov (by rw [x4]; exact hct) (by rw [x4]; exact gin hw1 hg1) (by rw [hnk]; exact va_Nw.use rfl (hT.2.2.2.1 k hk)) hce hcv hcl (by rw [x3]; exact hW)
      · by_cases hE2 : n2 = E
        · subst hE2
          simp [hE] at hn
          subst hn
          obtain ⟨k, hk, hnk⟩ := excN_ix hn1
          obtain ⟨k2, hk2, hnk2⟩ := excN_ix hn2
          have hne : k2 ≠ k := fun q => hE (by rw [hnk, hnk2, q])
          refine vx_catch (name := n2) hown [x] y [] (by rw [hx1]; rfl) (fun z hz => ?_) hcov2 (by rw [y4]; exact hct') (by rw [y4]; exact gin hw2 hg2) (by rw [hnk2]; exact va_Nw.use rfl (hT.2.2.2.1 k2 hk2)) hce hcv hcl (by rw [y3]; exact hW)
          rw [List.mem_singleton.mp hz]
          exact Or.inr ⟨by rw [x4]; exact hct, n1, by rw [x4]; exact gin hw1 hg1, by rw [hnk, hnk2]; exact hT.2.2.2.2.1 k2 k hk2 hk hne⟩
        · simp [hE, hE2] at hn
  · cases hok
theorem nzA_has {ad : Nat → Nat} {lsx : Array Slot} {nL : Nat} {nt : List (Nat × List Nat)} {pc : Nat} {ls : List (Nat × Value)} (h : lv_has lsx nL (cvl ad ls)) : lv_has lsx nL (cvl ad (nzA nt pc ls)) := by
  unfold nzA
  cases lkp nt pc with
  | none => exact h
  | some ks =>
    refine ⟨h.1, h.2.1, fun q hq => ?_⟩
    unfold cvl at hq
    obtain ⟨q0, hq0, rfl⟩ := List.mem_map.mp hq
    unfold nz at hq0
    obtain ⟨k, -, hk⟩ := List.mem_filterMap.mp hq0
    cases hl : lkp ls k with
    | none => rw [hl] at hk; cases hk
    | some v =>
      rw [hl] at hk
      cases hk
      exact lv_lkp h hl
theorem no5 {C : Cal} {mj : Nat → Nat × Nat} {kj nj : Nat → Nat} {mxc mxs : Nat} {hn : Nat → String → Option Nat} {Rt : Option Value → Wd → Nat → Nat → Prop} {Th : String → Wd → Nat → Nat → Prop} {i nx : Nat} {r : List Nat} {kc : Int32} {kl : Int64} {pc : Nat} {ls : List (Nat × Value)} {st : List Value} {w : Wd} {nc ns : Nat} {X : Fr → Prop} (h : stepI C mj kj nj none mxc mxs hn Rt Th (.invokestatic i) nx (5 :: r) kc kl pc ls st w nc ns X) : False := by
  obtain ⟨k, r1, rfl, h1⟩ := pI_s (show pI st (fun k r1 => pR r1 (fun a r => drI none a k (fun v => (catS r ≤ 8 ∧ nc ≤ mxc ∧ ns ≤ mxs) ∧ X (nx, ls, .int v :: r, w, nc, ns)))) from h)
  obtain ⟨a, r, rfl, h2⟩ := pR_s h1
  exact h2
theorem MW_nz {p : Program} {l : Launch} {e : Env} {R : Room} {s : State} {m : MethodId} {args : Array Value} {below : List Frame} {meth : Method} {c : Code} {D : va_G} {K : Nat → ClassId} {A : Nat → Prop} {ad0 : Nat → Nat} {n0 nL : Nat} {Sx : (Nat → Nat) → Prop} {Qm : State → Prop} {nt : List (Nat × List Nat)} {pc : Nat} {ls : List (Nat × Value)} {st : List Value} {w : Wd} {nc ns : Nat}
    (h : MW p l e R s m args below meth c D K A ad0 n0 nL Sx Qm (pc, nzA nt pc ls, st, w, nc, ns)) : MW p l e R s m args below meth c D K A ad0 n0 nL Sx Qm (pc, ls, st, w, nc, ns) :=
  fun ad H locs lsx hW hS hag hn0 hsx hl => h ad H locs lsx hW hS hag hn0 hsx (nzA_has hl)
set_option maxHeartbeats 4000000 in
theorem sound (l : Launch) (hl0 : l.stackTraces = false) (okAll : ∀ j, j < 132 → okM j = true) : ∀ (d j : Nat) (as : List Value) (w : Wd) (Q : Res → Wd → Prop), Wp d j as w Q → Ctr l d j as w Q := by
  intro d
  induction d with
  | zero => intro j as w Q h; exact h.elim
  | succ d ih =>
    intro j as w Q h
    obtain ⟨hcat, hE⟩ := h
    by_cases hj : j < 132
    case neg =>
      exfalso
      obtain ⟨k, rfl⟩ : ∃ k, j = k + 132 := ⟨j - 132, by omega⟩
      exact hE (fun _ => False) (fun g Y hg _ => hg)
    intro D K ad sz
    have hlen : catS as ≤ mL j := Nat.le_of_ble_eq_true hcat
    have hall := List.all_eq_true.mp okX_all j (List.mem_range.mpr hj)
    simp only [Bool.and_eq_true] at hall
    obtain ⟨hokx, pl⟩ := hall
    have body : ∀ p e s m args below meth c s₁, BodyLoose p l (yN j) (headSpec (hdW j :: GG) (rmO (d + 1) j)) (bC j) (mL j) (rT j) e s m args below meth c s₁ → c.maxLocals = mL j → PcO D K ad sz as w args s → (hhT j = [] → ∀ x ∈ c.exceptionTable.toList, False) → (hhT j = [] ∨ c.exceptionTable.toList.map (fun h => (h.startPc, h.endPc, h.handlerPc, h.catchType)) = hhT j) →
        W p l e (headSpec (hdW j :: GG) (rmO (d + 1) j)).room s m args below meth c s.heap [] 0 0 (vx_MQ below (QcO (rT j) D K (va_A (wsW K ad w) sz) ad w Q) (XcO D K (va_A (wsW K ad w) sz) ad w Q) args s (mjT j).1 (mjT j).2 (va_A (wsW K ad w) sz)) (entryFrame m args (mL j)) := by
      intro p e s m args below meth c s₁ B hml hpc hnoh htab
      obtain ⟨rfl, hsz, hP, hD0, hwf, hK, hT, hZ⟩ := hpc
      subst hsz
      have hx := B.exec
      have hb := B.bytes
      have hr := B.returns
      have hlocks := B.notSynchronized
      have hin : meth.name = (yN j).name := (name_of_methodNamed B.named B.method).1
      have hown : s.vm.findClass (ownO j) = some m.cls := findClass_of_methodNamed B.named
      have hts0 := atoms_spec (ws := hdW j :: GG) B.pre
      have hts : ∀ w ∈ GG, w.before (as.map (cv ad)).toArray s = true := fun w h => hts0 w (List.mem_cons_of_mem _ h)
      have hD := hD0.self (sz := s.heap.size)
      have hA : ∀ q : Nat, s.heap.size ≤ q → va_A (wsW K ad w) s.heap.size q := fun q h => Or.inr h
      have key : MW p l e (rmO (d + 1) j) s m (as.map (cv ad)).toArray below meth c D K (va_A (wsW K ad w) s.heap.size) ad w.1.1 (mL j) (fun _ => True) (vx_MQ below (QcO (rT j) D K (va_A (wsW K ad w) s.heap.size) ad w Q) (XcO D K (va_A (wsW K ad w) s.heap.size) ad w Q) (as.map (cv ad)).toArray s (mjT j).1 (mjT j).2 (va_A (wsW K ad w) s.heap.size)) (0, lv_args 0 as, [], w, 0, 0) := by
        refine hE _ (fun g Y hg hY => ?_)
        obtain ⟨pc, ls, st, w1, nc, ns⟩ := g
        have hg : (match lkp (cdT j) pc with
          | some (ins, nx, aux, kc, kl) => stepI (Wp d) mjT kO nA none (mjT j).1 (mjT j).2 (hnT j) (RtJ j Q) (ThJ (d + 1) j Q) ins nx aux kc kl pc (nzA (nzT j) pc ls) st w1 nc ns Y
          | none => False) := hg
        cases hrow : lkp (cdT j) pc with
        | none => rw [hrow] at hg; exact hg.elim
        | some row =>
          obtain ⟨ins, nx, aux, kc, kl⟩ := row
          rw [hrow] at hg
          have hok := okM_at (okAll j hj) hrow
          have h := stepI_m hY hg
          refine MW_nz (nt := nzT j) ?_
          generalize nzA (nzT j) pc ls = ls at h ⊢
          by_cases hs1 : isS ins = true
          · exact so_simple hx hb hml rfl hown hts hs1 hok h
          by_cases hs2 : isW ins aux = true
          · exact so_world hx hb hml rfl hown hts (fun q => hin.trans q) hK hT.2.2.1 hA (fun _ _ _ _ => trivial) rfl rfl (fun L xs q => by cases q) hs2 hok h
          by_cases hs3 : isC ins = true
          · have h5no : ∀ i r, ins = .invokestatic i → aux ≠ 5 :: r := by
              intro i r e4 e5
              subst e4
              subst e5
              exact no5 h
            exact so_call (d1 := d) hx hb hml rfl hown hts hK hT hZ hA (fun _ _ _ _ => trivial) rfl rfl (Nat.le_refl _) (by show 19 + mxO j + 34 * d ≤ 34 * (d + 1); rw [show mxO j = 12 from if_neg (by omega)]; omega) h5no (fun jc as w P q => ih jc as w P q) (so_catch hown hts hT hokx htab) hs3 hok h
          cases ins with
          | ireturn =>
            obtain ⟨x, r, rfl, h1⟩ := pI_s h
            obtain ⟨rfl, h2⟩ := pN_s h1
            simp only [okRow, dOk, Bool.and_eq_true, decide_eq_true_eq] at hok
            intro ad1 H locs lsx hW hS hag hn0 _ hl
            exact so_ret (n0 := 0) (Sx := fun _ => True) (Qm := fun _ => True) (v := some (.int x)) hx hb hml rfl hown hts hr hlocks hW hS hag hn0 h2 hok.1
          | lreturn =>
            obtain ⟨x, r, rfl, h1⟩ := pL_s h
            obtain ⟨rfl, h2⟩ := pN_s h1
            simp only [okRow, dOk, Bool.and_eq_true, decide_eq_true_eq] at hok
            intro ad1 H locs lsx hW hS hag hn0 _ hl
            exact so_ret (n0 := 0) (Sx := fun _ => True) (Qm := fun _ => True) (v := some (.long x)) hx hb hml rfl hown hts hr hlocks hW hS hag hn0 h2 hok.1
          | return_ =>
            obtain ⟨rfl, h2⟩ := pN_s h
            simp only [okRow, dOk, Bool.and_eq_true, decide_eq_true_eq] at hok
            intro ad1 H locs lsx hW hS hag hn0 _ hl
            exact so_ret (n0 := 0) (Sx := fun _ => True) (Qm := fun _ => True) (v := none) hx hb hml rfl hown hts hr hlocks hW hS hag hn0 h2 hok.1
          | new i =>
            obtain ⟨t, r0, rfl, h1⟩ := aC_s h
            obtain ⟨ci, r1, rfl, h2⟩ := aC_s h1
            rcases nI1_s h2 with ⟨rfl, -⟩ | ⟨ht, hcat9, hth⟩
            · exact absurd rfl hs2
            · obtain ⟨⟨t1, t2, t3, t4⟩, hQ⟩ := hth
              rcases t with _ | _ | t
              · exact absurd rfl ht
              · intro ad1 H locs lsx hW hS hag hn0 _ hl
                exact so_throw (n0 := 0) (Sx := fun _ => True) (Qm := fun _ => True) hx hb hml rfl hown hts hl0 hT hZ hlocks (hnoh t4) hok hW hS hag hn0 (hl.1.trans hml.symm) hcat9 t1 (by show 90 ≤ 34 * (d + 1); omega) t2 t3 t2 t3 hQ
              · simp [okRow] at hok
          | _ => first | exact absurd rfl hs1 | exact absurd rfl hs2 | exact absurd rfl hs3 | exact h.elim
      have hl := lv_entry (as.map (cv ad)) (n := mL j) (by rw [lgsl_len, catS_cv]; exact hlen)
      rw [lv_args_cvl] at hl
      rw [lg_entry_eq]
      exact key ad s.heap [] _ ⟨hP, hD, hwf⟩ va_S.rf (fun _ _ => rfl) (Nat.le_refl _) trivial hl
    cases hh : hhT j with
    | nil =>
      refine vx_ofW (cc := bC j) (maxL := mL j) (ret := rT j) pl (by rw [hdW_code hh]) (fun p e s m args below meth c s₁ B hml hno hpc => ?_)
      exact body p e s m args below meth c s₁ B hml hpc (fun _ => hno) (Or.inl hh)
    | cons q0 q1 =>
      refine vx_ofWH (hh := q0 :: q1) (cc := bC j) (maxL := mL j) (ret := rT j) pl (by rw [hdW_with hh]) (fun p e s m args below meth c s₁ B hml hpc => ?_)
      refine body p e s m args below meth c s₁ B hml hpc (fun q => by rw [hh] at q; cases q) (Or.inr ?_)
      have hw := atoms_spec (ws := hdW j :: GG) B.pre _ List.mem_cons_self
      rw [hdW_with hh] at hw
      obtain ⟨m9, meth9, c9, hn9, h1, h2, -, -, h5, -, -, -⟩ := Cond.codeWith_spec hw
      cases Option.some.inj (hn9.symm.trans B.named)
      cases Option.some.inj (h1.symm.trans B.method)
      cases Option.some.inj (h2.symm.trans (Stand.of_body B).code)
      rw [hh]
      exact h5
end
section
/-! the tables are right -/
theorem ok_0 : okM 0 = true := by decide +kernel
theorem ok_1 : okM 1 = true := by decide +kernel
theorem ok_2 : okM 2 = true := by decide +kernel
theorem ok_3 : okM 3 = true := by decide +kernel
theorem ok_4 : okM 4 = true := by decide +kernel
theorem ok_5 : okM 5 = true := by decide +kernel
theorem ok_6 : okM 6 = true := by decide +kernel
theorem ok_7 : okM 7 = true := by decide +kernel
theorem ok_8 : okM 8 = true := by decide +kernel
theorem ok_9 : okM 9 = true := by decide +kernel
theorem ok_10 : okM 10 = true := by decide +kernel
theorem ok_11 : okM 11 = true := by decide +kernel
theorem ok_12 : okM 12 = true := by decide +kernel
theorem ok_13 : okM 13 = true := by decide +kernel
theorem ok_14 : okM 14 = true := by decide +kernel
theorem ok_15 : okM 15 = true := by decide +kernel
theorem ok_16 : okM 16 = true := by decide +kernel
theorem ok_17 : okM 17 = true := by decide +kernel
theorem ok_18 : okM 18 = true := by decide +kernel
theorem ok_19 : okM 19 = true := by decide +kernel
theorem ok_20 : okM 20 = true := by decide +kernel
theorem ok_21 : okM 21 = true := by decide +kernel
theorem ok_22 : okM 22 = true := by decide +kernel
theorem ok_23 : okM 23 = true := by decide +kernel
theorem ok_24 : okM 24 = true := by decide +kernel
theorem ok_25 : okM 25 = true := by decide +kernel
theorem ok_26 : okM 26 = true := by decide +kernel
theorem ok_27 : okM 27 = true := by decide +kernel
theorem ok_28 : okM 28 = true := by decide +kernel
theorem ok_29 : okM 29 = true := by decide +kernel
theorem ok_30 : okM 30 = true := by decide +kernel
theorem ok_31 : okM 31 = true := by decide +kernel
theorem ok_32 : okM 32 = true := by decide +kernel
theorem ok_33 : okM 33 = true := by decide +kernel
theorem ok_34 : okM 34 = true := by decide +kernel
theorem ok_35 : okM 35 = true := by decide +kernel
theorem ok_36 : okM 36 = true := by decide +kernel
theorem ok_37 : okM 37 = true := by decide +kernel
theorem ok_38 : okM 38 = true := by decide +kernel
theorem ok_39 : okM 39 = true := by decide +kernel
theorem ok_40 : okM 40 = true := by decide +kernel
theorem ok_41 : okM 41 = true := by decide +kernel
theorem ok_42 : okM 42 = true := by decide +kernel
theorem ok_43 : okM 43 = true := by decide +kernel
theorem ok_44 : okM 44 = true := by decide +kernel
theorem ok_45 : okM 45 = true := by decide +kernel
theorem ok_46 : okM 46 = true := by decide +kernel
theorem ok_47 : okM 47 = true := by decide +kernel
theorem ok_48 : okM 48 = true := by decide +kernel
theorem ok_49 : okM 49 = true := by decide +kernel
theorem ok_50 : okM 50 = true := by decide +kernel
theorem ok_51 : okM 51 = true := by decide +kernel
theorem ok_52 : okM 52 = true := by decide +kernel
theorem ok_53 : okM 53 = true := by decide +kernel
theorem ok_54 : okM 54 = true := by decide +kernel
theorem ok_55 : okM 55 = true := by decide +kernel
theorem ok_56 : okM 56 = true := by decide +kernel
theorem ok_57 : okM 57 = true := by decide +kernel
theorem ok_58 : okM 58 = true := by decide +kernel
theorem ok_59 : okM 59 = true := by decide +kernel
theorem ok_60 : okM 60 = true := by decide +kernel
theorem ok_61 : okM 61 = true := by decide +kernel
theorem okr_0 (j : Nat) (h1 : 0 ≤ j) (h2 : j < 62) : okM j = true := by
  obtain ⟨k, rfl⟩ : ∃ k, j = 0 + k := ⟨j - 0, by omega⟩
  match k, h2 with
  | 0, _ => exact ok_0
  | 1, _ => exact ok_1
  | 2, _ => exact ok_2
  | 3, _ => exact ok_3
  | 4, _ => exact ok_4
  | 5, _ => exact ok_5
  | 6, _ => exact ok_6
  | 7, _ => exact ok_7
  | 8, _ => exact ok_8
  | 9, _ => exact ok_9
  | 10, _ => exact ok_10
  | 11, _ => exact ok_11
  | 12, _ => exact ok_12
  | 13, _ => exact ok_13
  | 14, _ => exact ok_14
  | 15, _ => exact ok_15
  | 16, _ => exact ok_16
  | 17, _ => exact ok_17
  | 18, _ => exact ok_18
  | 19, _ => exact ok_19
  | 20, _ => exact ok_20
  | 21, _ => exact ok_21
  | 22, _ => exact ok_22
  | 23, _ => exact ok_23
  | 24, _ => exact ok_24
  | 25, _ => exact ok_25
  | 26, _ => exact ok_26
  | 27, _ => exact ok_27
  | 28, _ => exact ok_28
  | 29, _ => exact ok_29
  | 30, _ => exact ok_30
  | 31, _ => exact ok_31
  | 32, _ => exact ok_32
  | 33, _ => exact ok_33
  | 34, _ => exact ok_34
  | 35, _ => exact ok_35
  | 36, _ => exact ok_36
  | 37, _ => exact ok_37
  | 38, _ => exact ok_38
  | 39, _ => exact ok_39
  | 40, _ => exact ok_40
  | 41, _ => exact ok_41
  | 42, _ => exact ok_42
  | 43, _ => exact ok_43
  | 44, _ => exact ok_44
  | 45, _ => exact ok_45
  | 46, _ => exact ok_46
  | 47, _ => exact ok_47
  | 48, _ => exact ok_48
  | 49, _ => exact ok_49
  | 50, _ => exact ok_50
  | 51, _ => exact ok_51
  | 52, _ => exact ok_52
  | 53, _ => exact ok_53
  | 54, _ => exact ok_54
  | 55, _ => exact ok_55
  | 56, _ => exact ok_56
  | 57, _ => exact ok_57
  | 58, _ => exact ok_58
  | 59, _ => exact ok_59
  | 60, _ => exact ok_60
  | 61, _ => exact ok_61
  | k + 62, h2 => omega
end
section
/-! the tables are right -/
theorem ok_62 : okM 62 = true := by decide +kernel
theorem ok_63 : okM 63 = true := by decide +kernel
theorem ok_64 : okM 64 = true := by decide +kernel
theorem ok_65 : okM 65 = true := by decide +kernel
theorem ok_66 : okM 66 = true := by decide +kernel
theorem ok_67 : okM 67 = true := by decide +kernel
theorem ok_68 : okM 68 = true := by decide +kernel
theorem ok_69 : okM 69 = true := by decide +kernel
theorem ok_70 : okM 70 = true := by decide +kernel
theorem ok_71 : okM 71 = true := by decide +kernel
theorem ok_72 : okM 72 = true := by decide +kernel
theorem ok_73 : okM 73 = true := by decide +kernel
theorem ok_74 : okM 74 = true := by decide +kernel
theorem ok_75 : okM 75 = true := by decide +kernel
theorem ok_76 : okM 76 = true := by decide +kernel
theorem ok_77 : okM 77 = true := by decide +kernel
theorem ok_78 : okM 78 = true := by decide +kernel
theorem ok_79 : okM 79 = true := by decide +kernel
theorem ok_80 : okM 80 = true := by decide +kernel
theorem ok_81 : okM 81 = true := by decide +kernel
theorem ok_82 : okM 82 = true := by decide +kernel
theorem ok_83 : okM 83 = true := by decide +kernel
theorem ok_84 : okM 84 = true := by decide +kernel
theorem ok_85 : okM 85 = true := by decide +kernel
theorem ok_86 : okM 86 = true := by decide +kernel
theorem ok_87 : okM 87 = true := by decide +kernel
theorem ok_88 : okM 88 = true := by decide +kernel
theorem ok_89 : okM 89 = true := by decide +kernel
theorem ok_90 : okM 90 = true := by decide +kernel
theorem ok_91 : okM 91 = true := by decide +kernel
theorem ok_92 : okM 92 = true := by decide +kernel
theorem ok_93 : okM 93 = true := by decide +kernel
theorem ok_94 : okM 94 = true := by decide +kernel
theorem ok_95 : okM 95 = true := by decide +kernel
theorem ok_96 : okM 96 = true := by decide +kernel
theorem ok_97 : okM 97 = true := by decide +kernel
theorem ok_98 : okM 98 = true := by decide +kernel
theorem ok_99 : okM 99 = true := by decide +kernel
theorem ok_100 : okM 100 = true := by decide +kernel
theorem ok_101 : okM 101 = true := by decide +kernel
theorem ok_102 : okM 102 = true := by decide +kernel
theorem ok_103 : okM 103 = true := by decide +kernel
theorem ok_104 : okM 104 = true := by decide +kernel
theorem ok_105 : okM 105 = true := by decide +kernel
theorem ok_106 : okM 106 = true := by decide +kernel
theorem ok_107 : okM 107 = true := by decide +kernel
theorem ok_108 : okM 108 = true := by decide +kernel
theorem ok_109 : okM 109 = true := by decide +kernel
theorem ok_110 : okM 110 = true := by decide +kernel
theorem ok_111 : okM 111 = true := by decide +kernel
theorem ok_112 : okM 112 = true := by decide +kernel
theorem ok_113 : okM 113 = true := by decide +kernel
theorem ok_114 : okM 114 = true := by decide +kernel
theorem ok_115 : okM 115 = true := by decide +kernel
theorem ok_116 : okM 116 = true := by decide +kernel
theorem ok_117 : okM 117 = true := by decide +kernel
theorem ok_118 : okM 118 = true := by decide +kernel
theorem ok_119 : okM 119 = true := by decide +kernel
theorem ok_120 : okM 120 = true := by decide +kernel
theorem ok_121 : okM 121 = true := by decide +kernel
theorem ok_122 : okM 122 = true := by decide +kernel
theorem ok_123 : okM 123 = true := by decide +kernel
theorem ok_124 : okM 124 = true := by decide +kernel
theorem okr_62 (j : Nat) (h1 : 62 ≤ j) (h2 : j < 125) : okM j = true := by
  obtain ⟨k, rfl⟩ : ∃ k, j = 62 + k := ⟨j - 62, by omega⟩
  match k, h2 with
  | 0, _ => exact ok_62
  | 1, _ => exact ok_63
  | 2, _ => exact ok_64
  | 3, _ => exact ok_65
  | 4, _ => exact ok_66
  | 5, _ => exact ok_67
  | 6, _ => exact ok_68
  | 7, _ => exact ok_69
  | 8, _ => exact ok_70
  | 9, _ => exact ok_71
  | 10, _ => exact ok_72
  | 11, _ => exact ok_73
  | 12, _ => exact ok_74
  | 13, _ => exact ok_75
  | 14, _ => exact ok_76
  | 15, _ => exact ok_77
  | 16, _ => exact ok_78
  | 17, _ => exact ok_79
  | 18, _ => exact ok_80
  | 19, _ => exact ok_81
  | 20, _ => exact ok_82
  | 21, _ => exact ok_83
  | 22, _ => exact ok_84
  | 23, _ => exact ok_85
  | 24, _ => exact ok_86
  | 25, _ => exact ok_87
  | 26, _ => exact ok_88
  | 27, _ => exact ok_89
  | 28, _ => exact ok_90
  | 29, _ => exact ok_91
  | 30, _ => exact ok_92
  | 31, _ => exact ok_93
  | 32, _ => exact ok_94
  | 33, _ => exact ok_95
  | 34, _ => exact ok_96
  | 35, _ => exact ok_97
  | 36, _ => exact ok_98
  | 37, _ => exact ok_99
  | 38, _ => exact ok_100
  | 39, _ => exact ok_101
  | 40, _ => exact ok_102
  | 41, _ => exact ok_103
  | 42, _ => exact ok_104
  | 43, _ => exact ok_105
  | 44, _ => exact ok_106
  | 45, _ => exact ok_107
  | 46, _ => exact ok_108
  | 47, _ => exact ok_109
  | 48, _ => exact ok_110
  | 49, _ => exact ok_111
  | 50, _ => exact ok_112
  | 51, _ => exact ok_113
  | 52, _ => exact ok_114
  | 53, _ => exact ok_115
  | 54, _ => exact ok_116
  | 55, _ => exact ok_117
  | 56, _ => exact ok_118
  | 57, _ => exact ok_119
  | 58, _ => exact ok_120
  | 59, _ => exact ok_121
  | 60, _ => exact ok_122
  | 61, _ => exact ok_123
  | 62, _ => exact ok_124
  | k + 63, h2 => omega
end
section
/-! the tables are right -/
theorem okl_125_0 : cd125_0.all (fun q => okRow 125 q.1 q.2) = true := by decide +kernel
theorem okl_125_1 : cd125_1.all (fun q => okRow 125 q.1 q.2) = true := by decide +kernel
theorem okl_125_2 : cd125_2.all (fun q => okRow 125 q.1 q.2) = true := by decide +kernel
theorem okl_125_3 : cd125_3.all (fun q => okRow 125 q.1 q.2) = true := by decide +kernel
theorem ok_125 : okM 125 = true := by
  show cd125.all (fun q => okRow 125 q.1 q.2) = true
  unfold cd125
  simp only [List.all_append, Bool.and_eq_true]
  exact ⟨okl_125_0, okl_125_1, okl_125_2, okl_125_3⟩
theorem okl_126_0 : cd126_0.all (fun q => okRow 126 q.1 q.2) = true := by decide +kernel
theorem okl_126_1 : cd126_1.all (fun q => okRow 126 q.1 q.2) = true := by decide +kernel
theorem okl_126_2 : cd126_2.all (fun q => okRow 126 q.1 q.2) = true := by decide +kernel
theorem okl_126_3 : cd126_3.all (fun q => okRow 126 q.1 q.2) = true := by decide +kernel
theorem okl_126_4 : cd126_4.all (fun q => okRow 126 q.1 q.2) = true := by decide +kernel
theorem okl_126_5 : cd126_5.all (fun q => okRow 126 q.1 q.2) = true := by decide +kernel
theorem okl_126_6 : cd126_6.all (fun q => okRow 126 q.1 q.2) = true := by decide +kernel
theorem okl_126_7 : cd126_7.all (fun q => okRow 126 q.1 q.2) = true := by decide +kernel
theorem ok_126 : okM 126 = true := by
  show cd126.all (fun q => okRow 126 q.1 q.2) = true
  unfold cd126
  simp only [List.all_append, Bool.and_eq_true]
  exact ⟨okl_126_0, okl_126_1, okl_126_2, okl_126_3, okl_126_4, okl_126_5, okl_126_6, okl_126_7⟩
theorem okl_127_0 : cd127_0.all (fun q => okRow 127 q.1 q.2) = true := by decide +kernel
theorem okl_127_1 : cd127_1.all (fun q => okRow 127 q.1 q.2) = true := by decide +kernel
theorem okl_127_2 : cd127_2.all (fun q => okRow 127 q.1 q.2) = true := by decide +kernel
theorem okl_127_3 : cd127_3.all (fun q => okRow 127 q.1 q.2) = true := by decide +kernel
theorem okl_127_4 : cd127_4.all (fun q => okRow 127 q.1 q.2) = true := by decide +kernel
theorem okl_127_5 : cd127_5.all (fun q => okRow 127 q.1 q.2) = true := by decide +kernel
theorem ok_127 : okM 127 = true := by
  show cd127.all (fun q => okRow 127 q.1 q.2) = true
  unfold cd127
  simp only [List.all_append, Bool.and_eq_true]
  exact ⟨okl_127_0, okl_127_1, okl_127_2, okl_127_3, okl_127_4, okl_127_5⟩
theorem ok_128 : okM 128 = true := by decide +kernel
theorem ok_129 : okM 129 = true := by decide +kernel
theorem okl_130_0 : cd130_0.all (fun q => okRow 130 q.1 q.2) = true := by decide +kernel
theorem okl_130_1 : cd130_1.all (fun q => okRow 130 q.1 q.2) = true := by decide +kernel
theorem okl_130_2 : cd130_2.all (fun q => okRow 130 q.1 q.2) = true := by decide +kernel
theorem ok_130 : okM 130 = true := by
  show cd130.all (fun q => okRow 130 q.1 q.2) = true
  unfold cd130
  simp only [List.all_append, Bool.and_eq_true]
  exact ⟨okl_130_0, okl_130_1, okl_130_2⟩
theorem ok_131 : okM 131 = true := by decide +kernel
theorem okr_125 (j : Nat) (h1 : 125 ≤ j) (h2 : j < 132) : okM j = true := by
  obtain ⟨k, rfl⟩ : ∃ k, j = 125 + k := ⟨j - 125, by omega⟩
  match k, h2 with
  | 0, _ => exact ok_125
  | 1, _ => exact ok_126
  | 2, _ => exact ok_127
  | 3, _ => exact ok_128
  | 4, _ => exact ok_129
  | 5, _ => exact ok_130
  | 6, _ => exact ok_131
  | k + 7, h2 => omega
end
section
/-! the law's table is right -/
theorem ok_132 : cd132.all (fun q => okRow 132 q.1 q.2) = true := by decide +kernel
theorem okAll (j : Nat) (h : j < 132) : okM j = true := by
  by_cases h1 : j < 62
  · exact okr_0 j (Nat.zero_le _) h1
  by_cases h2 : j < 125
  · exact okr_62 j (by omega) h2
  · exact okr_125 j (by omega) h
theorem okL_at {pc : Nat} {r : Row} (hr : lkp cd132 pc = some r) : okRow 132 pc r = true := by
  obtain ⟨i, hi⟩ := lkp_mem _ _ _ hr
  exact List.all_eq_true.mp ok_132 (pc, r) (List.mem_of_getElem? hi)
end
section
-- ===== end of PART A; then your names; then what follows =====
/-! THE CLAIM OUT OF ONE WALK OF THE LAW'S BODY. Your part is whole_start (and what it stands on); all else here is the same for every law, but numbers. -/
def R_law : String := "OdometerRingLaw"
def lw_P (b : Addr) (xs : List Int32) (args : Array Value) (s : State) : Prop := args = #[.ref b] ∧ s.IntsAt b xs ∧ xs.length ≤ 260 ∧ (Jvm.Cond.and given_1 narrow_1).before args s = true
def lw_Q (_ : Array Value) (s : State) (o : Outcome) (t : State) : Prop := o = .returned (some (.int 1)) ∧ Framed s o t [] 600130 7301080
def lw_Z (below : List Frame) (a : Array Value) (s : State) : State → Prop := fun t => ∃ o, t.status = .running ∧ Ended t below o ∧ lw_Q a s o t
/-- the law's own end, with 1 on the stack, nothing written that was there before, its room as the claim has it -/
theorem lw_ret {p : Program} {l : Launch} {e : Env} {s : State} {m : MethodId} {below : List Frame} {meth : Method} {c : Code} {b : Nat} (hx : p.tables.exec = Jvm.exec) (hb : c.code = code) (hr : meth.sig.returnType = ret) (hlocks : meth.locks = false) {pc : Nat} {H : Heap} {ls : Array Slot} (hdg : decode code pc = .ok (.ireturn, 1)) : W p l e room_1 s m #[Value.ref b] below meth c H [] 600130 7301080 (lw_Z below #[Value.ref b] s) (F0 m pc ls [.int 1]) := by
  intro T hT X
  obtain ⟨fs, hret, hrun, hended, hW, hframe⟩ := X.leave (v := some (.int 1)) (hlocks := hlocks) (fun h => by rw [hr] at h; cases h)
  have hmeth' : T.vm.method? m = some meth := X.method'
  refine ⟨T.setFrames fs, ?_, .returned (some (.int 1)), hrun, hended, rfl, ⟨_, rfl⟩, hW, hframe⟩
  jvm_step X.here [X.here.top, hx, hb, hdg, hmeth', hr, ret, narrow_b1]
  (try refine ⟨rfl, ?_⟩); (try refine ⟨rfl, ?_⟩)
  first | (intro acts; rw [hret _ acts rfl rfl rfl]) | rw [hret _ _ rfl rfl rfl]
  exact Steps.refl _
/-- what holds at the law's entry: the machine, the code, the tables' words (any of lw_tbl by 'hts w (by decide +kernel)'), the script of L ints xs at the cell b, what the Statement gives of the start (any of its parts by flat_of_before) -/
def lw_At (p : Program) (s : State) (m : MethodId) (meth : Method) (c : Code) (b L : Nat) (xs : Nat → Int32) : Prop :=
  p.tables.exec = Jvm.exec ∧ c.code = code ∧ meth.sig.returnType = ret ∧ c.maxLocals = 7 ∧ s.vm.findClass R_law = some m.cls ∧ (∀ w ∈ lw_tbl, w.before #[Value.ref b] s = true) ∧ va_X b L xs s s.heap ∧ b < s.heap.size ∧ meth.locks = false ∧ (Jvm.Cond.and given_1 narrow_1).before #[Value.ref b] s = true
end
section
/-! TOOLS OF THE PURE PART -/
theorem stepF_m {nt : List (Nat × List Nat)} {cd : List (Nat × Row)} {C : Cal} {mj : Nat → Nat × Nat} {kj nj : Nat → Nat} {SX : Option (Nat × (Nat → Int32))} {mxc mxs : Nat} {hn : Nat → String → Option Nat} {Rt : Option Value → Wd → Nat → Nat → Prop} {Th : String → Wd → Nat → Nat → Prop} (f : Fr) (X Y : Fr → Prop) (hY : ∀ g, Y g → X g) (h : stepF nt cd C mj kj nj SX mxc mxs hn Rt Th f Y) : stepF nt cd C mj kj nj SX mxc mxs hn Rt Th f X := by
  obtain ⟨pc, ls, st, w, nc, ns⟩ := f
  unfold stepF at h ⊢
  dsimp only at h ⊢
  revert h
  cases lkp cd pc with
  | none => exact fun h => h
  | some r => exact fun h => stepI_m hY h
theorem EE.inv {S : SF} (hm : ∀ (f : Fr) (X Y : Fr → Prop), (∀ g, Y g → X g) → S f Y → S f X) {f : Fr} (h : EE S f) : S f (EE S) :=
  h (fun g => S g (EE S)) (fun g _ hg hY => hm g _ _ (fun g' hg' => EE.step (hY g' hg')) hg)
/-- at a loop's head only the living locals count -/
theorem EE.nz {nt : List (Nat × List Nat)} {cd : List (Nat × Row)} {C : Cal} {mj : Nat → Nat × Nat} {kj nj : Nat → Nat} {SX : Option (Nat × (Nat → Int32))} {mxc mxs : Nat} {hn : Nat → String → Option Nat} {Rt : Option Value → Wd → Nat → Nat → Prop} {Th : String → Wd → Nat → Nat → Prop} {pc : Nat} {ks : List Nat} {ls ls' : List (Nat × Value)} {st : List Value} {w : Wd} {nc ns : Nat}
    (hk : lkp nt pc = some ks) (he : nz ks ls = nz ks ls') (h : EE (stepF nt cd C mj kj nj SX mxc mxs hn Rt Th) (pc, ls', st, w, nc, ns)) : EE (stepF nt cd C mj kj nj SX mxc mxs hn Rt Th) (pc, ls, st, w, nc, ns) := by
  have h1 := EE.inv stepF_m h
  refine EE.step ?_
  have e : nzA nt pc ls = nzA nt pc ls' := by
    unfold nzA
    rw [hk]
    exact he
  unfold stepF at h1 ⊢
  dsimp only at h1 ⊢
  rw [e]
  exact h1
abbrev Rw : Type := Nat → Int32
def bI (c : Prop) [Decidable c] : Int32 := if c then 1 else 0
theorem bI_t {c : Prop} [Decidable c] (h : c) : bI c = 1 := if_pos h
theorem bI_f {c : Prop} [Decidable c] (h : ¬ c) : bI c = 0 := if_neg h
theorem bI_01 (c : Prop) [Decidable c] : bI c = 0 ∨ bI c = 1 := by
  unfold bI
  split
  · exact Or.inr rfl
  · exact Or.inl rfl
theorem bI_e0 {c : Prop} [Decidable c] : bI c = 0 ↔ ¬ c := by
  unfold bI
  split
  · exact ⟨fun h => absurd h (by decide), fun h => absurd ‹c› h⟩
  · exact ⟨fun _ => ‹¬ c›, fun _ => rfl⟩
theorem bI_e1 {c : Prop} [Decidable c] : bI c = 1 ↔ c := by
  unfold bI
  split
  · exact ⟨fun _ => ‹c›, fun _ => rfl⟩
  · exact ⟨fun h => absurd h (by decide), fun h => absurd h ‹¬ c›⟩
theorem vpC {x : Int32} {n : Nat} (h : ¬ x < 0) (h2 : ¬ Int32.ofNat n ≤ x) (hn : n < 2147483648) : vp_in x n := by
  intro h3
  rcases h3 with h3 | h3
  · exact h h3
  · apply h2
    rw [Int32.le_iff_toInt_le]
    have h0 : 0 ≤ x.toInt := by
      rw [Int32.lt_iff_toInt_lt] at h
      simpa using h
    have e : (Int32.ofNat n).toInt = (n : Int) := Int32.toInt_ofNat_of_lt hn
    rw [e]
    have : x.toNatClampNeg = x.toInt.toNat := rfl
    omega
/-- a row of 114 numbers -/
def RowS (S : Sc) (r : Nat) : Prop := S.2.1 r = 8 ∧ S.2.2.1 r = 114
theorem RowS.vp {S : Sc} {r k : Nat} (h : RowS S r) (hk : k < 114) : vp_in (nI k) (S.2.2.1 r) := by
  rw [h.2]
  exact vp_in_nI hk (by omega)
theorem ck {k : Nat} (h : k < 2147483648) : (nI k).toNatClampNeg = k := nI_clamp h
theorem i_at (s i : Nat) : (42 : Int32) + 2 * (3 * nI s + nI i) = nI (42 + 2 * (3 * s + i)) := by
  rw [show (42 : Int32) = nI 42 from rfl, show (2 : Int32) = nI 2 from rfl, show (3 : Int32) = nI 3 from rfl, pk_mul, nI_add, pk_mul, nI_add]
theorem tk_0 : (0 : Int32).toNatClampNeg = 0 := rfl
theorem tk_1 : (1 : Int32).toNatClampNeg = 1 := rfl
theorem tk_2 : (2 : Int32).toNatClampNeg = 2 := rfl
theorem tk_3 : (3 : Int32).toNatClampNeg = 3 := rfl
theorem tk_4 : (4 : Int32).toNatClampNeg = 4 := rfl
theorem tk_5 : (5 : Int32).toNatClampNeg = 5 := rfl
theorem tk_6 : (6 : Int32).toNatClampNeg = 6 := rfl
theorem tk_7 : (7 : Int32).toNatClampNeg = 7 := rfl
theorem tk_8 : (8 : Int32).toNatClampNeg = 8 := rfl
theorem tk_9 : (9 : Int32).toNatClampNeg = 9 := rfl
theorem tk_10 : (10 : Int32).toNatClampNeg = 10 := rfl
theorem tk_11 : (11 : Int32).toNatClampNeg = 11 := rfl
theorem tk_12 : (12 : Int32).toNatClampNeg = 12 := rfl
theorem tk_13 : (13 : Int32).toNatClampNeg = 13 := rfl
theorem tk_14 : (14 : Int32).toNatClampNeg = 14 := rfl
theorem tk_15 : (15 : Int32).toNatClampNeg = 15 := rfl
theorem tk_16 : (16 : Int32).toNatClampNeg = 16 := rfl
theorem tk_17 : (17 : Int32).toNatClampNeg = 17 := rfl
theorem tk_18 : (18 : Int32).toNatClampNeg = 18 := rfl
theorem tk_42 : (42 : Int32).toNatClampNeg = 42 := rfl
theorem tk_43 : (43 : Int32).toNatClampNeg = 43 := rfl
theorem wI_M (w : Wd) (a : Nat) (g : Nat → Int32) : (wI w a g).2.1 = upA w.2.1 a g := rfl
theorem wI_1 (w : Wd) (a : Nat) (g : Nat → Int32) : (wI w a g).1 = w.1 := rfl
theorem upA_uu {α : Type} (f : Nat → α) (a : Nat) (x y : α) : upA (upA f a x) a y = upA f a y := by
  funext i
  by_cases h : i = a
  · subst h
    rw [upA_s, upA_s]
  · rw [upA_n _ _ h, upA_n _ _ h, upA_n _ _ h]
theorem upA_id {α : Type} (f : Nat → α) (a : Nat) : upA f a (f a) = f := by
  funext i
  by_cases h : i = a
  · subst h
    rw [upA_s]
  · rw [upA_n _ _ h]
end
section
/-! THE LAW'S DRAWING: the one method beside the law that reads the script -/
def SD (xs : Nat → Int32) (L : Nat) (Q : Res → Wd → Prop) : SF := stepF (nzT 97) cd97 (fun _ _ _ _ => False) mjT kO nA (some (L, xs)) (mjT 97).1 (mjT 97).2 (fun _ _ => none) (RtJ 97 Q) (fun _ _ _ _ => False)
set_option maxHeartbeats 1000000 in
theorem draw_ee {xs : Nat → Int32} {L : Nat} {k : Int32} {w : Wd} {Q : Res → Wd → Prop} (hL : L < 2147483648) (hk : ¬ k < 0) (h : Q (.inl (some (.int (drV xs L k)))) w) : EE (SD xs L Q) (0, [(0, .ref 1000001), (1, .int k)], [], w, 0, 0) := by
  refine EE.runN (stop := noStop) 20 _ ?_
  refine ⟨fun h1 => ?_, fun h1 => ?_⟩
  · refine ⟨⟨Nat.zero_le _, Nat.zero_le _⟩, ?_⟩
    have e : drV xs L k = (15593239 * k + 10343) &&& 2147483647 := by unfold drV; rw [if_pos h1]
    rw [e] at h
    exact h
  · refine ⟨vpC hk h1 hL, ?_⟩
    refine ⟨⟨Nat.zero_le _, Nat.zero_le _⟩, ?_⟩
    have e : drV xs L k = xs k.toNatClampNeg &&& 2147483647 := by unfold drV; rw [if_neg h1]
    rw [e] at h
    exact h
theorem cd97_noC : (cd97.all (fun q => !isC q.2.1)) = true := by decide
def PcD (D : va_G) (K : Nat → ClassId) (ad : Nat → Nat) (sz : Nat) (k : Int32) (w : Wd) (b L : Nat) (xs : Nat → Int32) (a : Array Value) (U : State) : Prop := PcO D K ad sz [.ref 1000001, .int k] w a U ∧ va_X b L xs U U.heap ∧ b < sz ∧ ¬ va_A (wsW K ad w) sz b ∧ ad 1000001 = b
theorem PcD.blind (D : va_G) (K : Nat → ClassId) (ad : Nat → Nat) (sz : Nat) (k : Int32) (w : Wd) (b L : Nat) (xs : Nat → Int32) : FrameBlind (PcD D K ad sz k w b L xs) := by
  intro a U g mk q
  obtain ⟨q0, q1, q2, q3, q4⟩ := q
  exact ⟨PcO.blind D K ad sz _ w a U g mk q0, va_X.moved (u := U) (U := U.calling g mk a) (Vm.Alike.refl U.vm) q1, q2, q3, q4⟩
set_option maxHeartbeats 4000000 in
theorem draw_sound (l : Launch) {xs : Nat → Int32} {L : Nat} {k : Int32} {w : Wd} {Q : Res → Wd → Prop} (hL : L < 2147483648) (hk : ¬ k < 0) (h : Q (.inl (some (.int (drV xs L k)))) w) (D : va_G) (K : Nat → ClassId) (ad : Nat → Nat) (sz b : Nat) : vx_Met l (yN 97) (hdW 97 :: GG) (rmO 1 97) (PcD D K ad sz k w b L xs) (QcO (rT 97) D K (va_A (wsW K ad w) sz) ad w Q) (XcO D K (va_A (wsW K ad w) sz) ad w Q) (mjT 97).1 (mjT 97).2 (va_A (wsW K ad w) sz) := by
  refine vx_ofW (cc := bC 97) (maxL := mL 97) (ret := rT 97) (by decide +kernel) (by rw [hdW_code (j := 97) rfl]) (fun p e s m args below meth c s₁ B hml hno hpc => ?_)
  obtain ⟨⟨rfl, hsz, hP, hD0, hwf, hK, hT, hZ⟩, hX, hbs, hbA, hadb⟩ := hpc
  subst hsz
  have hx := B.exec
  have hb := B.bytes
  have hr := B.returns
  have hlocks := B.notSynchronized
  have hown : s.vm.findClass (ownO 97) = some m.cls := findClass_of_methodNamed B.named
  have hts0 := atoms_spec (ws := hdW 97 :: GG) B.pre
  have hts : ∀ w ∈ GG, w.before ([Value.ref 1000001, Value.int k].map (cv ad)).toArray s = true := fun w h => hts0 w (List.mem_cons_of_mem _ h)
  have hD := hD0.self (sz := s.heap.size)
  have hA : ∀ q : Nat, s.heap.size ≤ q → va_A (wsW K ad w) s.heap.size q := fun q h => Or.inr h
  have key : MW p l e (rmO 1 97) s m ([Value.ref 1000001, Value.int k].map (cv ad)).toArray below meth c D K (va_A (wsW K ad w) s.heap.size) ad w.1.1 (mL 97) (fun ad' => ad' 1000001 = b) (vx_MQ below (QcO (rT 97) D K (va_A (wsW K ad w) s.heap.size) ad w Q) (XcO D K (va_A (wsW K ad w) s.heap.size) ad w Q) ([Value.ref 1000001, Value.int k].map (cv ad)).toArray s (mjT 97).1 (mjT 97).2 (va_A (wsW K ad w) s.heap.size)) (0, [(0, .ref 1000001), (1, .int k)], [], w, 0, 0) := by
    refine draw_ee hL hk h _ (fun g Y hg hY => ?_)
    obtain ⟨pc, ls, st, w1, nc, ns⟩ := g
    have hg : (match lkp cd97 pc with
      | some (ins, nx, aux, kc, kl) => stepI (fun _ _ _ _ => False) mjT kO nA (some (L, xs)) (mjT 97).1 (mjT 97).2 (fun _ _ => none) (RtJ 97 Q) (fun _ _ _ _ => False) ins nx aux kc kl pc (nzA (nzT 97) pc ls) st w1 nc ns Y
      | none => False) := hg
    cases hrow : lkp cd97 pc with
    | none => rw [hrow] at hg; exact hg.elim
    | some row =>
      obtain ⟨ins, nx, aux, kc, kl⟩ := row
      rw [hrow] at hg
      have hok := okM_at (j := 97) (okAll 97 (by omega)) hrow
      have h := stepI_m hY hg
      refine MW_nz (nt := nzT 97) ?_
      generalize nzA (nzT 97) pc ls = ls at h ⊢
      by_cases hs1 : isS ins = true
      · exact so_simple (j := 97) hx hb hml rfl hown hts hs1 hok h
      by_cases hs2 : isW ins aux = true
      · exact so_world (j := 97) hx hb hml rfl hown hts (fun q => absurd (show ("draw" : String) = "<init>" from q) (by decide)) hK hT.2.2.1 hA (fun ad ad' h1 h2 => h2.trans h1) rfl rfl (fun L' xs' q ad' h9 => by
          cases q
          rw [h9]
          exact ⟨hX, hbs, hbA⟩) hs2 hok h
      by_cases hs3 : isC ins = true
      · obtain ⟨i9, hi9⟩ := lkp_mem _ _ _ hrow
        have := List.all_eq_true.mp cd97_noC _ (List.mem_of_getElem? hi9)
        simp only [hs3] at this
        exact absurd this (by decide)
      cases ins with
      | ireturn =>
        obtain ⟨x, r, rfl, h1⟩ := pI_s h
        obtain ⟨rfl, h2⟩ := pN_s h1
        simp only [okRow, dOk, Bool.and_eq_true, decide_eq_true_eq] at hok
        intro ad1 H locs lsx hW hS hag hn0 _ hl
        exact so_ret (n0 := 0) (Sx := fun _ => True) (Qm := fun _ => True) (v := some (.int x)) hx hb hml rfl hown hts hr hlocks hW hS hag hn0 h2 hok.1
      | lreturn =>
        obtain ⟨x, r, rfl, h1⟩ := pL_s h
        obtain ⟨rfl, h2⟩ := pN_s h1
        exact (h2.2 : False).elim
      | return_ =>
        obtain ⟨rfl, h2⟩ := pN_s h
        exact (h2.2 : False).elim
      | new i =>
        obtain ⟨t, r0, rfl, h1⟩ := aC_s h
        obtain ⟨ci, r1, rfl, h2⟩ := aC_s h1
        rcases nI1_s h2 with ⟨rfl, -⟩ | ⟨ht, hcat9, hth⟩
        · exact absurd rfl hs2
        · exact hth.elim
      | _ => first | exact absurd rfl hs1 | exact absurd rfl hs2 | exact absurd rfl hs3 | exact h.elim
  have hl := lv_entry ([Value.ref 1000001, Value.int k].map (cv ad)) (n := mL 97) (Nat.le_of_ble_eq_true rfl)
  rw [show lv_args 0 ([Value.ref 1000001, Value.int k].map (cv ad)) = cvl ad [(0, .ref 1000001), (1, .int k)] from rfl] at hl
  rw [lg_entry_eq]
  exact key ad s.heap [] _ ⟨hP, hD, hwf⟩ va_S.rf (fun _ _ => rfl) (Nat.le_refl _) hadb hl
set_option maxHeartbeats 4000000 in
/-- the law's call of it -/
theorem so_draw {p : Program} {l : Launch} {e : Env} {R : Room} {s : State} {m : MethodId} {args : Array Value} {below : List Frame} {meth : Method} {c : Code} {D : va_G} {K : Nat → ClassId} {A : Nat → Prop} {ad0 : Nat → Nat} {n0 nL : Nat} {Sx : (Nat → Nat) → Prop} {Qm : State → Prop} {j : Nat}
  (hx : p.tables.exec = Jvm.exec) (hb : c.code = bC j) (hml : c.maxLocals = nL) (hnL : nL = mL j) (hown : s.vm.findClass (ownO j) = some m.cls) (hts : ∀ w ∈ GG, w.before args s = true)
  {C : Cal} {L b mxc mxs : Nat} {xs : Nat → Int32} {hn : Nat → String → Option Nat} {Rt : Option Value → Wd → Nat → Nat → Prop} {Th : String → Wd → Nat → Nat → Prop} {i nx : Nat} {r5 : List Nat} {kc : Int32} {kl : Int64} {pc : Nat} {ls : List (Nat × Value)} {st : List Value} {w : Wd} {nc ns : Nat}
  (hK : va_K D vwCl (tysK K) s) (hT : EnvT s) (hZ : EnvZ A s s.heap) (hA : ∀ q, s.heap.size ≤ q → A q) (hSx : ∀ ad ad', Sx ad → ad' 1000001 = ad 1000001 → Sx ad') (hSb : ∀ ad, Sx ad → ad 1000001 = b) (hX : va_X b L xs s s.heap) (hbl : b < s.heap.size) (hbA : ¬ A b) (hL : L < 2147483648) (hnn : ∀ E, hn pc E = none) (hRc : R.cells = mxc) (hRs : R.slots = mxs) (hRf : 1 + 1 ≤ R.frames) (hRl : 19 + mxO j + 34 ≤ R.locals)
  (hrow : okRow j pc (.invokestatic i, nx, 5 :: r5, kc, kl) = true) (h : stepI C mjT kO nA (some (L, xs)) mxc mxs hn Rt Th (.invokestatic i) nx (5 :: r5) kc kl pc ls st w nc ns (MW p l e R s m args below meth c D K A ad0 n0 nL Sx Qm)) : MW p l e R s m args below meth c D K A ad0 n0 nL Sx Qm (pc, ls, st, w, nc, ns) := by
  obtain ⟨k, r1, rfl, h1⟩ := pI_s (show pI st (fun k r1 => pR r1 (fun a r => drI (some (L, xs)) a k (fun v => (catS r ≤ 8 ∧ nc ≤ mxc ∧ ns ≤ mxs) ∧ MW p l e R s m args below meth c D K A ad0 n0 nL Sx Qm (nx, ls, .int v :: r, w, nc, ns)))) from h)
  obtain ⟨a, r, rfl, h2⟩ := pR_s h1
  obtain ⟨L', xs', e9, rfl, hk, ⟨hcat, hc1, hc2⟩, h9⟩ := drI_s h2
  cases e9
  simp only [okRow, dOk, Bool.and_eq_true, decide_eq_true_eq] at hrow
  obtain ⟨⟨hd, rfl⟩, hq⟩ := hrow
  rcases r5 with _ | ⟨jc, _ | ⟨p1, _ | ⟨p2, _ | ⟨p3, _ | ⟨p4, _ | ⟨p5, r5⟩⟩⟩⟩⟩⟩
  · simp at hq
  · simp at hq
  · simp at hq
  · simp at hq
  · simp at hq
  · simp only [Bool.and_eq_true, decide_eq_true_eq] at hq
    obtain ⟨c1, c2, c3, rfl⟩ := hq
    simp only [cOk, Bool.and_eq_true, decide_eq_true_eq] at c1
    obtain ⟨q1, q2, q3, q4, q5, q6, q7⟩ := c1
    have g1 := wAt_in q1
    have g2 := wAt_in q2
    intro ad H locs lsx hW hS hag hn0 hsx hl
    have hadb := hSb ad hsx
    have hA1 := vaA_in (D := D) hW.2.1 hS hA
    have hpc0 := PcO.of (p := p) (as := [.ref 1000001, .int k]) hK hT hZ hA1 hW hS
    have hbH : b < H.size := Nat.lt_of_lt_of_le hbl hS.1
    have hbA1 : ¬ va_A (wsW K ad w) H.size b := fun q => hbA (hA1 b q)
    have hpc : ∀ U : State, U.heap = H → s.WarmedH U.vm → PcD D K ad H.size k w b L xs ([Value.ref 1000001, Value.int k].map (cv ad)).toArray U := fun U hU hWm => ⟨hpc0 U hU hWm, by rw [hU]; exact va_X.moved hWm.alike (hX.kept (hS.2.1 b hbl hbA)), hbH, hbA1, hadb⟩
    have hM := draw_sound l hL hk (Q := fun rs w' => rs = .inl (some (.int (drV xs L k))) ∧ w' = w) ⟨rfl, rfl⟩ D K ad H.size b
    have hG : GoodIn GG (va_wsS (ownO j) i (yN 97) (hdW 97 :: GG)) := GG_in (by
      intro w9 hw9
      rcases List.mem_append.mp (show w9 ∈ ([.methodLink (ownO j) i (yN 97), .static (yN 97), .initialized (yN 97).cls] : List Cond) ++ (hdW 97 :: GG) from hw9) with hw9 | hw9
      · simp only [List.mem_cons, List.not_mem_nil, or_false] at hw9
        rcases hw9 with rfl | rfl | rfl
        · exact wAt_in c2
        · exact wAt_in c3
        · exact g2
      · rcases List.mem_cons.mp hw9 with hw9 | hw9
        · rw [hw9]; exact g1
        · exact hw9)
    have room : 2 * (F0 m pc lsx (r.map (cv ad))).monitorRoom + ((r.map (cv ad)).map fun v => v.category).sum ≤ 8 := lv_room (by rw [catS_map]; exact hcat)
    have hRl' : 8 + (mL 97 + 11) + (rmO 1 97).locals ≤ R.locals := by
      show 8 + (mL 97 + 11) + 34 * 1 ≤ R.locals
      omega
    exact so_aft (rt := rT 97) (a := ([Value.ref 1000001, Value.int k].map (cv ad)).toArray) (P := fun rs w' => rs = .inl (some (.int (drV xs L k))) ∧ w' = w) (mc := (mjT 97).1) (ms := (mjT 97).2) (hn := hn) hSx hA (fun E h9 ce q9 H1 locs1 rest hE => by rw [hnn] at hE; cases hE)
      (vx_runS ⟨hx, hb, hml, hown, hts⟩ hM (va_cwS (maxL := mL 97) (bytes := bC 97) (ret := rT 97) 2 hts hG (by rw [hdW_code (j := 97) rfl]) rfl rfl ⟨q3, q4, q5⟩ ⟨hRf, hRl'⟩) ⟨PcD.blind D K ad H.size k w b L xs, hpc⟩ rfl rfl hl.1 rfl room hd (by rw [hRc, hRs]; exact ⟨hc1, hc2⟩))
      hW hS hag hn0 hsx hl (by
        rintro rs w' ⟨rfl, rfl⟩
        exact ⟨Or.inl rfl, h9⟩)
  · simp at hq
end
section
/-! THE LAW, OUT OF ITS RUN ON THE ABSTRACT MACHINE -/
def w00 : Wd := ((0, fun _ => 99, fun _ => 0, fun _ _ => 0), fun _ _ => 0, fun _ _ => 0)
def SL (xs : Nat → Int32) (L : Nat) : SF := stepF (nzT 132) cd132 (Wp 11) mjT kO nA (some (L, xs)) 600130 7301080 (fun _ _ => none) (fun v _ nc ns => (nc ≤ 600130 ∧ ns ≤ 7301080) ∧ v = some (.int 1)) (fun _ _ _ _ => False)
/-- the law's run on the abstract machine ends with true -/
def LawOk (xs : Nat → Int32) (L : Nat) : Prop := EE (SL xs L) (0, [(0, .ref 1000001)], [], w00, 0, 0)
theorem nest_tbl : ∀ w ∈ nestW, w ∈ lw_tbl := by decide +kernel
theorem dec_tbl : ∀ w ∈ decW, w ∈ lw_tbl := by decide +kernel
theorem str_tbl : ∀ q ∈ strT, (Cond.stringRef q.1 q.2.1 q.2.2) ∈ lw_tbl := by decide +kernel
theorem str_nar : ∀ q ∈ strT, (Cond.exactly (.string q.1 q.2.1) "java/lang/String") ∈ flatC (Jvm.Cond.and given_1 narrow_1) := by decide +kernel
theorem cast_tbl : ∀ k, k < 3 → (Cond.castable (excN k) (excN k)) ∈ lw_tbl := by decide +kernel
theorem ncast_nar : ∀ k, k < 3 → ∀ k', k' < 3 → k ≠ k' → (Cond.not (Cond.castable (excN k) (excN k'))) ∈ flatC (Jvm.Cond.and given_1 narrow_1) := by decide +kernel
theorem K_at {s : State} {args : Array Value} (t : FieldType) (h : (Cond.arrayClass t).before args s = true) (ht : ∀ C, t ≠ .object C) : ∃ cA : ClassId, ArrOfT s cA t ∧ va_RA s cA t := by
  obtain ⟨cA, kA, comp, h1, h2, h3⟩ := Cond.arrayClass_spec h
  refine ⟨cA, fun n z => ⟨fun k h => (by cases h), kA, h2, comp, h3⟩, ?_⟩
  cases t with
  | object C => exact absurd rfl (ht C)
  | _ => exact h1
set_option maxHeartbeats 4000000 in
theorem law_start {p : Program} {e : Env} {s : State} {m : MethodId} {below : List Frame} {meth : Method} {c : Code} (l : Launch) (hflags : l.flags = flags0) {b L : Nat} {xs : Nat → Int32} (hL : L < 2147483648) (C0 : lw_At p s m meth c b L xs) (hE : LawOk xs L) : W p l e room_1 s m #[Value.ref b] below meth c s.heap [] 0 0 (lw_Z below #[Value.ref b] s) (entryFrame m ([Value.ref b] : List Value).toArray 7) := by
  obtain ⟨hx, hb, hr, hml, hown, hts0, hX, hbl, hlocks, hgv⟩ := id C0
  have hl0 : l.stackTraces = false := by
    unfold Launch.stackTraces
    rw [hflags]
    decide +kernel
  have hfl := flat_of_before _ hgv
  have hts : ∀ w ∈ GG, w.before #[Value.ref b] s = true := fun w h => hts0 w (List.mem_filter.mp h).1
  have hA : ∀ q : Nat, s.heap.size ≤ q → (fun q : Nat => s.heap.size ≤ q) q := fun _ h => h
  -- classes
  have kn : ∀ ci, ci < 7 → ∃ (cC : ClassId) (iS : Nat → Nat), u_Kn s (RXc ci) (TXc ci) (nF ci) cC iS := by
    intro ci hci
    have hF := clsF ci hci
    exact u_known hts hF.2.1 (hts0 (.instantiable (RXc ci) (nF ci)) (by
      match ci, hci with
      | 0, _ => decide +kernel
      | 1, _ => decide +kernel
      | 2, _ => decide +kernel
      | 3, _ => decide +kernel
      | 4, _ => decide +kernel
      | 5, _ => decide +kernel
      | 6, _ => decide +kernel))
  obtain ⟨D, hD0⟩ : ∃ D : va_G, ∀ (k : Nat) (q : vw_C), vwCl[k]? = some q → u_Kn s q.1 q.2.1 q.2.2 (D.1 k) (D.2 k) := by
    have kn' : ∀ ci, ∃ (cI : ClassId × (Nat → Nat)), ci < 7 → u_Kn s (RXc ci) (TXc ci) (nF ci) cI.1 cI.2 := by
      intro ci
      by_cases h : ci < 7
      · obtain ⟨a1, a2, a3⟩ := kn ci h
        exact ⟨(a1, a2), fun _ => a3⟩
      · exact ⟨(0, fun _ => 0), fun q => absurd q h⟩
    refine ⟨(fun k => (Classical.choose (kn' k)).1, fun k => (Classical.choose (kn' k)).2), fun k q hq => ?_⟩
    have hk : k < 7 := (List.getElem?_eq_some_iff.mp hq).1
    have := Classical.choose_spec (kn' k) hk
    rw [(clsF k hk).1] at hq
    cases hq
    exact this
  obtain ⟨k8, hk8⟩ := K_at (s := s) .int (hts0 (.arrayClass .int) (by decide +kernel)) (fun C h => by cases h)
  obtain ⟨k9, hk9⟩ := K_at (s := s) .boolean (hts0 (.arrayClass .boolean) (by decide +kernel)) (fun C h => by cases h)
  have hAO : va_AO "OdometerRing$Odometer" s := va_AO.of (hts0 (.arrayOver (.object "OdometerRing$Odometer")) (by decide +kernel))
  obtain ⟨comp, k11, kc, f1, f2, f3, f4, f5⟩ := Cond.arrayOver_spec (va_AO.use (A := #[]) hAO)
  have hk11 : ArrOfT s k11 (.object "OdometerRing$Odometer") ∧ va_RA s k11 (.object "OdometerRing$Odometer") := ⟨fun N z => ⟨(fun k h => by cases h), kc, f3, comp, f4⟩, kc, comp, f3, f4, f1, f5⟩
  obtain ⟨K, e8, e9, e10, e11⟩ : ∃ K : Nat → ClassId, K 8 = k8 ∧ K 9 = k9 ∧ K 10 = k8 ∧ K 11 = k11 := ⟨fun k => if k = 8 then k8 else if k = 9 then k9 else if k = 10 then k8 else k11, rfl, rfl, rfl, rfl⟩
  have hK : va_K D vwCl (tysK K) s := by
    refine ⟨hD0, fun k q hq => ?_⟩
    unfold tysK at hq
    match k, hq with
    | 0, hq => cases hq; rw [e8]; exact hk8
    | 1, hq => cases hq; rw [e9]; exact hk9
    | 2, hq => cases hq; rw [e10]; exact hk8
    | 3, hq => cases hq; rw [e11]; exact hk11
    | k + 4, hq => simp at hq
  have hT : EnvT s := by
    refine ⟨fun w hw => ?_, fun q hq => ?_, hAO, fun k hk => va_Nw.of rfl (hts0 _ (cast_tbl k hk)), fun k k' hk hk' hne => va_Nc.of (hfl _ (ncast_nar k hk k' hk' hne)), fun w hw => ?_⟩
    · have h9 := hts0 _ (nest_tbl w hw)
      simp only [nestW, List.mem_cons, List.not_mem_nil, or_false] at hw
      rcases hw with rfl | rfl | rfl | rfl | rfl | rfl | rfl | rfl <;> exact va_Nw.of rfl h9
    · obtain ⟨a, c1, cell, k, h1, -⟩ := Cond.exactly_spec (hfl _ (str_nar q hq))
      exact ⟨a, vk_R.of (A := #[Value.ref b]) (hts0 _ (str_tbl q hq)) h1⟩
    · have h9 := hts0 _ (dec_tbl w hw)
      simp only [decW, List.mem_cons, List.not_mem_nil, or_false] at hw
      rcases hw with rfl | rfl | rfl <;> exact va_Nw.of rfl h9
  have hZ : EnvZ (fun q : Nat => s.heap.size ≤ q) s s.heap :=
    ⟨vx_Zqof (hts0 _ (by decide +kernel)) (hts0 _ (by decide +kernel)) (hfl _ (by decide +kernel)) (fun a h => Nat.not_le.mpr h), vx_Zqof (hts0 _ (by decide +kernel)) (hts0 _ (by decide +kernel)) (hfl _ (by decide +kernel)) (fun a h => Nat.not_le.mpr h)⟩
  obtain ⟨ad, had⟩ : ∃ ad : Nat → Nat, ad 1000001 = b := ⟨fun _ => b, rfl⟩
  have key : MW p l e room_1 s m #[Value.ref b] below meth c D K (fun q : Nat => s.heap.size ≤ q) ad 0 7 (fun ad => ad 1000001 = b) (lw_Z below #[Value.ref b] s) (0, [(0, .ref 1000001)], [], w00, 0, 0) := by
    refine hE _ (fun g Y hg hY => ?_)
    obtain ⟨pc, ls, st, w1, nc, ns⟩ := g
    have hg : (match lkp cd132 pc with
      | some (ins, nx, aux, kc, kl) => stepI (Wp 11) mjT kO nA (some (L, xs)) 600130 7301080 (fun _ _ => none) (fun v _ nc ns => (nc ≤ 600130 ∧ ns ≤ 7301080) ∧ v = some (.int 1)) (fun _ _ _ _ => False) ins nx aux kc kl pc (nzA (nzT 132) pc ls) st w1 nc ns Y
      | none => False) := hg
    cases hrow : lkp cd132 pc with
    | none => rw [hrow] at hg; exact hg.elim
    | some row =>
      obtain ⟨ins, nx, aux, kc, kl⟩ := row
      rw [hrow] at hg
      have hok := okL_at hrow
      have h := stepI_m hY hg
      refine MW_nz (nt := nzT 132) ?_
      generalize nzA (nzT 132) pc ls = ls at h ⊢
      by_cases hs1 : isS ins = true
      · exact so_simple (j := 132) hx hb hml rfl hown hts hs1 hok h
      by_cases hs2 : isW ins aux = true
      · exact so_world (j := 132) hx hb hml rfl hown hts (fun q => absurd (show ("law" : String) = "<init>" from q) (by decide)) hK hAO hA (fun ad ad' h1 h2 => h2.trans h1) rfl rfl (fun L' xs' q ad' h9 => by
          cases q
          rw [h9]
          exact ⟨hX, hbl, Nat.not_le.mpr hbl⟩) hs2 hok h
      by_cases hs4 : ∃ i r5, ins = .invokestatic i ∧ aux = 5 :: r5
      · obtain ⟨i, r5, rfl, rfl⟩ := hs4
        exact so_draw (j := 132) hx hb hml rfl hown hts hK hT hZ hA (fun ad ad' h1 h2 => h2.trans h1) (fun ad h => h) hX hbl (Nat.not_le.mpr hbl) hL (fun E => rfl) rfl rfl (by decide) (by decide) hok h
      by_cases hs3 : isC ins = true
      · exact so_call (j := 132) (d1 := 11) hx hb hml rfl hown hts hK hT hZ hA (fun ad ad' h1 h2 => h2.trans h1) rfl rfl (Nat.le_refl _) (by decide) (fun i r e4 e5 => hs4 ⟨i, r, e4, e5⟩) (fun jc as w P q => sound l hl0 okAll 11 jc as w P q) (fun E h9 ce q9 H1 locs1 lsx rest c9 s9 hn => by cases hn) hs3 hok h
      cases ins with
      | ireturn =>
        obtain ⟨x, r, rfl, h1⟩ := pI_s h
        obtain ⟨rfl, ⟨b1, b2⟩, h2⟩ := pN_s h1
        cases h2
        simp only [okRow, dOk, Bool.and_eq_true, decide_eq_true_eq] at hok
        intro ad1 H locs lsx hW hS hag hn0 _ hl
        refine va_forget (fun q hq => hS.2.2 q hq) (W.widen b1 b2 ?_)
        exact lw_ret hx hb hr hlocks hok.1
      | lreturn =>
        obtain ⟨x, r, rfl, h1⟩ := pL_s h
        obtain ⟨rfl, -, h2⟩ := pN_s h1
        cases h2
      | return_ =>
        obtain ⟨rfl, -, h2⟩ := pN_s h
        cases h2
      | new i =>
        obtain ⟨t, r0, rfl, h1⟩ := aC_s h
        obtain ⟨ci, r1, rfl, h2⟩ := aC_s h1
        rcases nI1_s h2 with ⟨rfl, -⟩ | ⟨ht, hcat9, hth⟩
        · exact absurd rfl hs2
        · exact hth.elim
      | _ => first | exact absurd rfl hs1 | exact absurd rfl hs2 | exact absurd rfl hs3 | exact h.elim
  have hl := lv_entry ([.ref b]) (n := 7) (Nat.le_of_ble_eq_true rfl)
  rw [lg_entry_eq]
  exact key ad s.heap [] _ ⟨fun k q h => by simp [wsW, w00] at h, ⟨fun i j p q h => by simp [wsW, w00] at h, fun k q h => by simp [wsW, w00] at h⟩, ⟨fun i h => absurd h (by show ¬ 99 < 20; omega), fun _ _ => Nat.le_refl _, by show 0 < 1000000; omega⟩⟩ va_S.rf (fun _ _ => rfl) (Nat.le_refl _) had (by
    have : cvl ad [(0, .ref 1000001)] = [(0, .ref b)] := by
      show [(0, cv ad (.ref 1000001))] = _
      rw [cv_pos ad (by omega), had]
    rw [this]
    exact hl)
end
